theorem c_90_0 : mm_code 90 0 = some (Instr.aload_n 0, 1, 0, 0, 0, []) := rfl
theorem c_90_1 : mm_code 90 1 = some (Instr.getfield 13, 3, 0, 7, 1, [85]) := rfl
theorem c_90_4 : mm_code 90 4 = some (Instr.aload_n 0, 1, 0, 0, 0, []) := rfl
theorem c_90_5 : mm_code 90 5 = some (Instr.getfield 7, 3, 0, 7, 0, [84]) := rfl
theorem c_90_8 : mm_code 90 8 = some (Instr.arraylength, 1, 0, 0, 0, []) := rfl
theorem c_90_9 : mm_code 90 9 = some (Instr.if_icmp .ge 15, 3, 0, 24, 0, []) := rfl
theorem c_90_12 : mm_code 90 12 = some (Instr.iload_n 1, 1, 0, 0, 0, []) := rfl
theorem c_90_13 : mm_code 90 13 = some (Instr.ifCond .lt 11, 3, 0, 24, 0, []) := rfl
theorem c_90_16 : mm_code 90 16 = some (Instr.iload_n 1, 1, 0, 0, 0, []) := rfl
theorem c_90_17 : mm_code 90 17 = some (Instr.aload_n 0, 1, 0, 0, 0, []) := rfl
theorem c_90_18 : mm_code 90 18 = some (Instr.getfield 13, 3, 0, 7, 1, [85]) := rfl
theorem c_90_21 : mm_code 90 21 = some (Instr.if_icmp .le 5, 3, 0, 26, 0, []) := rfl
theorem c_90_24 : mm_code 90 24 = some (Instr.iconst 0, 1, 0, 0, 0, []) := rfl
theorem c_90_25 : mm_code 90 25 = some (Instr.ireturn, 1, 1, 0, 0, []) := rfl
theorem c_90_26 : mm_code 90 26 = some (Instr.aload_n 0, 1, 0, 0, 0, []) := rfl
theorem c_90_27 : mm_code 90 27 = some (Instr.getfield 13, 3, 0, 7, 1, [85]) := rfl
theorem c_90_30 : mm_code 90 30 = some (Instr.istore_n 3, 1, 0, 0, 0, []) := rfl
theorem c_90_31 : mm_code 90 31 = some (Instr.iload_n 3, 1, 0, 0, 0, []) := rfl
theorem c_90_32 : mm_code 90 32 = some (Instr.iload_n 1, 1, 0, 0, 0, []) := rfl
theorem c_90_33 : mm_code 90 33 = some (Instr.if_icmp .le 23, 3, 0, 56, 0, []) := rfl
theorem c_90_36 : mm_code 90 36 = some (Instr.aload_n 0, 1, 0, 0, 0, []) := rfl
theorem c_90_37 : mm_code 90 37 = some (Instr.getfield 7, 3, 0, 7, 0, [84]) := rfl
theorem c_90_40 : mm_code 90 40 = some (Instr.iload_n 3, 1, 0, 0, 0, []) := rfl
theorem c_90_41 : mm_code 90 41 = some (Instr.aload_n 0, 1, 0, 0, 0, []) := rfl
theorem c_90_42 : mm_code 90 42 = some (Instr.getfield 7, 3, 0, 7, 0, [84]) := rfl
theorem c_90_45 : mm_code 90 45 = some (Instr.iload_n 3, 1, 0, 0, 0, []) := rfl
theorem c_90_46 : mm_code 90 46 = some (Instr.iconst 1, 1, 1, 0, 0, []) := rfl
theorem c_90_47 : mm_code 90 47 = some (Instr.isub, 1, 0, 0, 0, []) := rfl
theorem c_90_48 : mm_code 90 48 = some (Instr.iaload, 1, 0, 0, 0, []) := rfl
theorem c_90_49 : mm_code 90 49 = some (Instr.iastore, 1, 0, 0, 0, []) := rfl
theorem c_90_50 : mm_code 90 50 = some (Instr.iinc 3 (-1), 3, 0, 0, 0, []) := rfl
theorem c_90_53 : mm_code 90 53 = some (Instr.goto (-22), 3, 0, 31, 0, []) := rfl
theorem c_90_56 : mm_code 90 56 = some (Instr.aload_n 0, 1, 0, 0, 0, []) := rfl
theorem c_90_57 : mm_code 90 57 = some (Instr.getfield 7, 3, 0, 7, 0, [84]) := rfl
theorem c_90_60 : mm_code 90 60 = some (Instr.iload_n 1, 1, 0, 0, 0, []) := rfl
theorem c_90_61 : mm_code 90 61 = some (Instr.iload_n 2, 1, 0, 0, 0, []) := rfl
theorem c_90_62 : mm_code 90 62 = some (Instr.iastore, 1, 0, 0, 0, []) := rfl
theorem c_90_63 : mm_code 90 63 = some (Instr.aload_n 0, 1, 0, 0, 0, []) := rfl
theorem c_90_64 : mm_code 90 64 = some (Instr.dup, 1, 0, 0, 0, []) := rfl
theorem c_90_65 : mm_code 90 65 = some (Instr.getfield 13, 3, 0, 7, 1, [85]) := rfl
theorem c_90_68 : mm_code 90 68 = some (Instr.iconst 1, 1, 1, 0, 0, []) := rfl
set_option maxRecDepth 100000 in theorem c_90_69 : mm_code 90 69 = some (Instr.iadd, 1, 0, 0, 0, []) := rfl
set_option maxRecDepth 100000 in theorem c_90_70 : mm_code 90 70 = some (Instr.putfield 13, 3, 1, 7, 1, [85]) := rfl
set_option maxRecDepth 100000 in theorem c_90_73 : mm_code 90 73 = some (Instr.iconst 1, 1, 1, 0, 0, []) := rfl
set_option maxRecDepth 100000 in theorem c_90_74 : mm_code 90 74 = some (Instr.ireturn, 1, 1, 0, 0, []) := rfl
theorem c_91_0 : mm_code 91 0 = some (Instr.aload_n 0, 1, 0, 0, 0, []) := rfl
theorem c_91_1 : mm_code 91 1 = some (Instr.getfield 74, 3, 0, 9, 9, [301]) := rfl
theorem c_91_4 : mm_code 91 4 = some (Instr.aload_n 0, 1, 0, 0, 0, []) := rfl
theorem c_91_5 : mm_code 91 5 = some (Instr.getfield 14, 3, 0, 9, 0, [292]) := rfl
theorem c_91_8 : mm_code 91 8 = some (Instr.iload_n 1, 1, 0, 0, 0, []) := rfl
theorem c_91_9 : mm_code 91 9 = some (Instr.invokevirtual 156, 3, 0, 92, 2, [663, 664, 665, 63, 666]) := rfl
theorem c_91_12 : mm_code 91 12 = some (Instr.ifCond .eq 13, 3, 0, 25, 0, []) := rfl
theorem c_91_15 : mm_code 91 15 = some (Instr.aload_n 0, 1, 0, 0, 0, []) := rfl
theorem c_91_16 : mm_code 91 16 = some (Instr.getfield 74, 3, 0, 9, 9, [301]) := rfl
theorem c_91_19 : mm_code 91 19 = some (Instr.invokevirtual 160, 3, 0, 128, 0, [831, 832, 833, 63, 834]) := rfl
theorem c_91_22 : mm_code 91 22 = some (Instr.goto 14, 3, 0, 36, 0, []) := rfl
theorem c_91_25 : mm_code 91 25 = some (Instr.bipush (-10), 2, (-10), 0, 0, []) := rfl
theorem c_91_27 : mm_code 91 27 = some (Instr.aload_n 0, 1, 0, 0, 0, []) := rfl
theorem c_91_28 : mm_code 91 28 = some (Instr.getfield 74, 3, 0, 9, 9, [301]) := rfl
theorem c_91_31 : mm_code 91 31 = some (Instr.iconst 0, 1, 0, 0, 0, []) := rfl
theorem c_91_32 : mm_code 91 32 = some (Instr.invokevirtual 163, 3, 0, 129, 1, [835, 836, 837, 63, 838]) := rfl
theorem c_91_35 : mm_code 91 35 = some (Instr.isub, 1, 0, 0, 0, []) := rfl
theorem c_91_36 : mm_code 91 36 = some (Instr.ireturn, 1, 0, 0, 0, []) := rfl
theorem c_92_0 : mm_code 92 0 = some (Instr.aload_n 0, 1, 0, 0, 0, []) := rfl
theorem c_92_1 : mm_code 92 1 = some (Instr.iconst 0, 1, 0, 0, 0, []) := rfl
theorem c_92_2 : mm_code 92 2 = some (Instr.putfield 55, 3, 1, 0, 10, [262]) := rfl
theorem c_92_5 : mm_code 92 5 = some (Instr.aload_n 0, 1, 0, 0, 0, []) := rfl
theorem c_92_6 : mm_code 92 6 = some (Instr.iconst 0, 1, 0, 0, 0, []) := rfl
theorem c_92_7 : mm_code 92 7 = some (Instr.putfield 59, 3, 1, 0, 11, [263]) := rfl
theorem c_92_10 : mm_code 92 10 = some (Instr.aload_n 0, 1, 0, 0, 0, []) := rfl
theorem c_92_11 : mm_code 92 11 = some (Instr.iconst 0, 1, 0, 0, 0, []) := rfl
theorem c_92_12 : mm_code 92 12 = some (Instr.putfield 62, 3, 1, 0, 12, [264]) := rfl
theorem c_92_15 : mm_code 92 15 = some (Instr.aload_n 0, 1, 0, 0, 0, []) := rfl
theorem c_92_16 : mm_code 92 16 = some (Instr.getfield 41, 3, 0, 0, 6, [258]) := rfl
theorem c_92_19 : mm_code 92 19 = some (Instr.invokevirtual 76, 3, 3, 93, 0, [667, 668, 669, 65, 670]) := rfl
theorem c_92_22 : mm_code 92 22 = some (Instr.aload_n 0, 1, 0, 0, 0, []) := rfl
theorem c_92_23 : mm_code 92 23 = some (Instr.getfield 49, 3, 0, 0, 8, [260]) := rfl
theorem c_92_26 : mm_code 92 26 = some (Instr.invokevirtual 79, 3, 7, 12, 0, [672, 328, 329, 57, 330]) := rfl
theorem c_92_29 : mm_code 92 29 = some (Instr.aload_n 0, 1, 0, 0, 0, []) := rfl
theorem c_92_30 : mm_code 92 30 = some (Instr.aload_n 1, 1, 0, 0, 0, []) := rfl
theorem c_92_31 : mm_code 92 31 = some (Instr.invokevirtual 80, 3, 0, 94, 1, [673, 675, 7, 63, 676]) := rfl
theorem c_92_34 : mm_code 92 34 = some (Instr.ifCond .eq 35, 3, 0, 69, 0, []) := rfl
theorem c_92_37 : mm_code 92 37 = some (Instr.aload_n 0, 1, 0, 0, 0, []) := rfl
theorem c_92_38 : mm_code 92 38 = some (Instr.invokevirtual 84, 3, 0, 96, 0, [682, 684, 9, 63, 685]) := rfl
theorem c_92_41 : mm_code 92 41 = some (Instr.ifCond .eq 28, 3, 0, 69, 0, []) := rfl
theorem c_92_44 : mm_code 92 44 = some (Instr.aload_n 0, 1, 0, 0, 0, []) := rfl
theorem c_92_45 : mm_code 92 45 = some (Instr.invokevirtual 88, 3, 0, 98, 0, [695, 697, 10, 63, 698]) := rfl
theorem c_92_48 : mm_code 92 48 = some (Instr.ifCond .eq 21, 3, 0, 69, 0, []) := rfl
theorem c_92_51 : mm_code 92 51 = some (Instr.aload_n 0, 1, 0, 0, 0, []) := rfl
theorem c_92_52 : mm_code 92 52 = some (Instr.invokevirtual 91, 3, 0, 99, 0, [700, 702, 11, 63, 703]) := rfl
theorem c_92_55 : mm_code 92 55 = some (Instr.ifCond .eq 14, 3, 0, 69, 0, []) := rfl
theorem c_92_58 : mm_code 92 58 = some (Instr.aload_n 0, 1, 0, 0, 0, []) := rfl
theorem c_92_59 : mm_code 92 59 = some (Instr.invokevirtual 94, 3, 0, 112, 0, [764, 766, 18, 63, 767]) := rfl
theorem c_92_62 : mm_code 92 62 = some (Instr.ifCond .eq 7, 3, 0, 69, 0, []) := rfl
theorem c_92_65 : mm_code 92 65 = some (Instr.iconst 1, 1, 1, 0, 0, []) := rfl
theorem c_92_66 : mm_code 92 66 = some (Instr.goto 4, 3, 0, 70, 0, []) := rfl
theorem c_92_69 : mm_code 92 69 = some (Instr.iconst 0, 1, 0, 0, 0, []) := rfl
theorem c_92_70 : mm_code 92 70 = some (Instr.istore_n 3, 1, 0, 0, 0, []) := rfl
theorem c_92_71 : mm_code 92 71 = some (Instr.iload_n 3, 1, 0, 0, 0, []) := rfl
theorem c_92_72 : mm_code 92 72 = some (Instr.ifCond .eq 37, 3, 0, 109, 0, []) := rfl
theorem c_92_75 : mm_code 92 75 = some (Instr.iload_n 2, 1, 0, 0, 0, []) := rfl
theorem c_92_76 : mm_code 92 76 = some (Instr.ifCond .eq 13, 3, 0, 89, 0, []) := rfl
theorem c_92_79 : mm_code 92 79 = some (Instr.aload_n 0, 1, 0, 0, 0, []) := rfl
theorem c_92_80 : mm_code 92 80 = some (Instr.invokevirtual 97, 3, 0, 121, 0, [801, 803, 20, 63, 804]) := rfl
set_option maxRecDepth 100000 in theorem c_92_83 : mm_code 92 83 = some (Instr.ifCond .eq 26, 3, 0, 109, 0, []) := rfl
set_option maxRecDepth 100000 in theorem c_92_86 : mm_code 92 86 = some (Instr.goto 10, 3, 0, 96, 0, []) := rfl
set_option maxRecDepth 100000 in theorem c_92_89 : mm_code 92 89 = some (Instr.aload_n 0, 1, 0, 0, 0, []) := rfl
set_option maxRecDepth 100000 in theorem c_92_90 : mm_code 92 90 = some (Instr.invokevirtual 100, 3, 0, 125, 0, [819, 821, 23, 63, 822]) := rfl
set_option maxRecDepth 100000 in theorem c_92_93 : mm_code 92 93 = some (Instr.ifCond .eq 16, 3, 0, 109, 0, []) := rfl
set_option maxRecDepth 100000 in theorem c_92_96 : mm_code 92 96 = some (Instr.aload_n 0, 1, 0, 0, 0, []) := rfl
set_option maxRecDepth 100000 in theorem c_92_97 : mm_code 92 97 = some (Instr.getfield 52, 3, 0, 0, 9, [261]) := rfl
set_option maxRecDepth 100000 in theorem c_92_100 : mm_code 92 100 = some (Instr.aload_n 0, 1, 0, 0, 0, []) := rfl
set_option maxRecDepth 100000 in theorem c_92_101 : mm_code 92 101 = some (Instr.getfield 49, 3, 0, 0, 8, [260]) := rfl
set_option maxRecDepth 100000 in theorem c_92_104 : mm_code 92 104 = some (Instr.invokevirtual 103, 3, 7, 23, 1, [722, 370, 371, 57, 372]) := rfl
set_option maxRecDepth 100000 in theorem c_92_107 : mm_code 92 107 = some (Instr.iconst 1, 1, 1, 0, 0, []) := rfl
set_option maxRecDepth 100000 in theorem c_92_108 : mm_code 92 108 = some (Instr.ireturn, 1, 1, 0, 0, []) := rfl
set_option maxRecDepth 100000 in theorem c_92_109 : mm_code 92 109 = some (Instr.iconst 0, 1, 0, 0, 0, []) := rfl
set_option maxRecDepth 100000 in theorem c_92_110 : mm_code 92 110 = some (Instr.ireturn, 1, 1, 0, 0, []) := rfl
theorem c_93_0 : mm_code 93 0 = some (Instr.aload_n 0, 1, 0, 0, 0, []) := rfl
theorem c_93_1 : mm_code 93 1 = some (Instr.getfield 14, 3, 0, 3, 0, [242]) := rfl
theorem c_93_4 : mm_code 93 4 = some (Instr.invokevirtual 28, 3, 7, 12, 0, [671, 328, 329, 57, 330]) := rfl
theorem c_93_7 : mm_code 93 7 = some (Instr.aload_n 0, 1, 0, 0, 0, []) := rfl
theorem c_93_8 : mm_code 93 8 = some (Instr.iconst 0, 1, 0, 0, 0, []) := rfl
theorem c_93_9 : mm_code 93 9 = some (Instr.putfield 24, 3, 1, 3, 2, [244]) := rfl
theorem c_93_12 : mm_code 93 12 = some (Instr.return_, 1, 0, 0, 0, []) := rfl
theorem c_94_0 : mm_code 94 0 = some (Instr.aload_n 1, 1, 0, 0, 0, []) := rfl
theorem c_94_1 : mm_code 94 1 = some (Instr.aload_n 0, 1, 0, 0, 0, []) := rfl
theorem c_94_2 : mm_code 94 2 = some (Instr.getfield 28, 3, 0, 0, 3, [255]) := rfl
theorem c_94_5 : mm_code 94 5 = some (Instr.invokestatic 107, 3, 0, 16, 2, [677, 345, 67, 346]) := rfl
theorem c_94_8 : mm_code 94 8 = some (Instr.istore_n 2, 1, 0, 0, 0, []) := rfl
theorem c_94_9 : mm_code 94 9 = some (Instr.iload_n 2, 1, 0, 0, 0, []) := rfl
theorem c_94_10 : mm_code 94 10 = some (Instr.bipush (-2), 2, (-2), 0, 0, []) := rfl
theorem c_94_12 : mm_code 94 12 = some (Instr.if_icmp .ne 14, 3, 0, 26, 0, []) := rfl
theorem c_94_15 : mm_code 94 15 = some (Instr.aload_n 0, 1, 0, 0, 0, []) := rfl
theorem c_94_16 : mm_code 94 16 = some (Instr.bipush 60, 2, 60, 0, 0, []) := rfl
theorem c_94_18 : mm_code 94 18 = some (Instr.iconst 0, 1, 0, 0, 0, []) := rfl
theorem c_94_19 : mm_code 94 19 = some (Instr.sipush 300, 3, 300, 0, 0, []) := rfl
theorem c_94_22 : mm_code 94 22 = some (Instr.invokevirtual 113, 3, 0, 95, 3, [678, 680, 8, 63, 681]) := rfl
theorem c_94_25 : mm_code 94 25 = some (Instr.ireturn, 1, 1, 0, 0, []) := rfl
theorem c_94_26 : mm_code 94 26 = some (Instr.iload_n 2, 1, 0, 0, 0, []) := rfl
theorem c_94_27 : mm_code 94 27 = some (Instr.iconst (-1), 1, (-1), 0, 0, []) := rfl
theorem c_94_28 : mm_code 94 28 = some (Instr.if_icmp .eq 14, 3, 0, 42, 0, []) := rfl
theorem c_94_31 : mm_code 94 31 = some (Instr.aload_n 0, 1, 0, 0, 0, []) := rfl
theorem c_94_32 : mm_code 94 32 = some (Instr.bipush 10, 2, 10, 0, 0, []) := rfl
theorem c_94_34 : mm_code 94 34 = some (Instr.iconst 0, 1, 0, 0, 0, []) := rfl
theorem c_94_35 : mm_code 94 35 = some (Instr.iload_n 2, 1, 0, 0, 0, []) := rfl
theorem c_94_36 : mm_code 94 36 = some (Instr.invokevirtual 113, 3, 0, 95, 3, [678, 680, 8, 63, 681]) := rfl
theorem c_94_39 : mm_code 94 39 = some (Instr.ifCond .eq 7, 3, 0, 46, 0, []) := rfl
theorem c_94_42 : mm_code 94 42 = some (Instr.iconst 1, 1, 1, 0, 0, []) := rfl
theorem c_94_43 : mm_code 94 43 = some (Instr.goto 4, 3, 0, 47, 0, []) := rfl
theorem c_94_46 : mm_code 94 46 = some (Instr.iconst 0, 1, 0, 0, 0, []) := rfl
theorem c_94_47 : mm_code 94 47 = some (Instr.ireturn, 1, 1, 0, 0, []) := rfl
theorem c_95_0 : mm_code 95 0 = some (Instr.aload_n 0, 1, 0, 0, 0, []) := rfl
theorem c_95_1 : mm_code 95 1 = some (Instr.iload_n 1, 1, 0, 0, 0, []) := rfl
theorem c_95_2 : mm_code 95 2 = some (Instr.putfield 55, 3, 1, 0, 10, [262]) := rfl
theorem c_95_5 : mm_code 95 5 = some (Instr.aload_n 0, 1, 0, 0, 0, []) := rfl
theorem c_95_6 : mm_code 95 6 = some (Instr.iload_n 2, 1, 0, 0, 0, []) := rfl
theorem c_95_7 : mm_code 95 7 = some (Instr.putfield 59, 3, 1, 0, 11, [263]) := rfl
theorem c_95_10 : mm_code 95 10 = some (Instr.aload_n 0, 1, 0, 0, 0, []) := rfl
theorem c_95_11 : mm_code 95 11 = some (Instr.iload_n 3, 1, 0, 0, 0, []) := rfl
theorem c_95_12 : mm_code 95 12 = some (Instr.putfield 62, 3, 1, 0, 12, [264]) := rfl
theorem c_95_15 : mm_code 95 15 = some (Instr.iconst 0, 1, 0, 0, 0, []) := rfl
theorem c_95_16 : mm_code 95 16 = some (Instr.ireturn, 1, 1, 0, 0, []) := rfl
theorem c_96_0 : mm_code 96 0 = some (Instr.aload_n 0, 1, 0, 0, 0, []) := rfl
theorem c_96_1 : mm_code 96 1 = some (Instr.getfield 32, 3, 0, 0, 4, [256]) := rfl
theorem c_96_4 : mm_code 96 4 = some (Instr.invokevirtual 79, 3, 7, 12, 0, [672, 328, 329, 57, 330]) := rfl
theorem c_96_7 : mm_code 96 7 = some (Instr.iconst 0, 1, 0, 0, 0, []) := rfl
theorem c_96_8 : mm_code 96 8 = some (Instr.istore_n 1, 1, 0, 0, 0, []) := rfl
theorem c_96_9 : mm_code 96 9 = some (Instr.iload_n 1, 1, 0, 0, 0, []) := rfl
theorem c_96_10 : mm_code 96 10 = some (Instr.aload_n 0, 1, 0, 0, 0, []) := rfl
theorem c_96_11 : mm_code 96 11 = some (Instr.getfield 28, 3, 0, 0, 3, [255]) := rfl
theorem c_96_14 : mm_code 96 14 = some (Instr.invokevirtual 65, 3, 7, 13, 0, [686, 332, 333, 57, 334]) := rfl
theorem c_96_17 : mm_code 96 17 = some (Instr.if_icmp .ge 94, 3, 0, 111, 0, []) := rfl
theorem c_96_20 : mm_code 96 20 = some (Instr.aload_n 0, 1, 0, 0, 0, []) := rfl
theorem c_96_21 : mm_code 96 21 = some (Instr.getfield 28, 3, 0, 0, 3, [255]) := rfl
theorem c_96_24 : mm_code 96 24 = some (Instr.iload_n 1, 1, 0, 0, 0, []) := rfl
theorem c_96_25 : mm_code 96 25 = some (Instr.invokevirtual 69, 3, 7, 17, 1, [687, 350, 351, 57, 352]) := rfl
theorem c_96_28 : mm_code 96 28 = some (Instr.istore_n 2, 1, 0, 0, 0, []) := rfl
theorem c_96_29 : mm_code 96 29 = some (Instr.aload_n 0, 1, 0, 0, 0, []) := rfl
theorem c_96_30 : mm_code 96 30 = some (Instr.getfield 9, 3, 0, 0, 0, [252]) := rfl
theorem c_96_33 : mm_code 96 33 = some (Instr.iload_n 2, 1, 0, 0, 0, []) := rfl
theorem c_96_34 : mm_code 96 34 = some (Instr.invokevirtual 117, 3, 8, 51, 1, [688, 490, 491, 58, 492]) := rfl
theorem c_96_37 : mm_code 96 37 = some (Instr.istore_n 3, 1, 0, 0, 0, []) := rfl
theorem c_96_38 : mm_code 96 38 = some (Instr.iload_n 3, 1, 0, 0, 0, []) := rfl
theorem c_96_39 : mm_code 96 39 = some (Instr.iconst 3, 1, 3, 0, 0, []) := rfl
theorem c_96_40 : mm_code 96 40 = some (Instr.if_icmp .ne 12, 3, 0, 52, 0, []) := rfl
theorem c_96_43 : mm_code 96 43 = some (Instr.aload_n 0, 1, 0, 0, 0, []) := rfl
theorem c_96_44 : mm_code 96 44 = some (Instr.bipush 20, 2, 20, 0, 0, []) := rfl
theorem c_96_46 : mm_code 96 46 = some (Instr.iconst 0, 1, 0, 0, 0, []) := rfl
theorem c_96_47 : mm_code 96 47 = some (Instr.iload_n 1, 1, 0, 0, 0, []) := rfl
theorem c_96_48 : mm_code 96 48 = some (Instr.invokevirtual 113, 3, 0, 95, 3, [678, 680, 8, 63, 681]) := rfl
theorem c_96_51 : mm_code 96 51 = some (Instr.ireturn, 1, 1, 0, 0, []) := rfl
theorem c_96_52 : mm_code 96 52 = some (Instr.iconst 1, 1, 1, 0, 0, []) := rfl
theorem c_96_53 : mm_code 96 53 = some (Instr.istore 4, 2, 0, 0, 0, []) := rfl
theorem c_96_55 : mm_code 96 55 = some (Instr.iload_n 3, 1, 0, 0, 0, []) := rfl
theorem c_96_56 : mm_code 96 56 = some (Instr.ifCond .ne 16, 3, 0, 72, 0, []) := rfl
theorem c_96_59 : mm_code 96 59 = some (Instr.aload_n 0, 1, 0, 0, 0, []) := rfl
theorem c_96_60 : mm_code 96 60 = some (Instr.getfield 32, 3, 0, 0, 4, [256]) := rfl
theorem c_96_63 : mm_code 96 63 = some (Instr.iload_n 2, 1, 0, 0, 0, []) := rfl
theorem c_96_64 : mm_code 96 64 = some (Instr.invokevirtual 122, 3, 7, 14, 1, [689, 337, 338, 57, 339]) := rfl
theorem c_96_67 : mm_code 96 67 = some (Instr.istore 4, 2, 0, 0, 0, []) := rfl
theorem c_96_69 : mm_code 96 69 = some (Instr.goto 22, 3, 0, 91, 0, []) := rfl
theorem c_96_72 : mm_code 96 72 = some (Instr.iload_n 3, 1, 0, 0, 0, []) := rfl
theorem c_96_73 : mm_code 96 73 = some (Instr.iconst 2, 1, 2, 0, 0, []) := rfl
set_option maxRecDepth 100000 in theorem c_96_74 : mm_code 96 74 = some (Instr.if_icmp .ne 17, 3, 0, 91, 0, []) := rfl
set_option maxRecDepth 100000 in theorem c_96_77 : mm_code 96 77 = some (Instr.aload_n 0, 1, 0, 0, 0, []) := rfl
set_option maxRecDepth 100000 in theorem c_96_78 : mm_code 96 78 = some (Instr.getfield 9, 3, 0, 0, 0, [252]) := rfl
set_option maxRecDepth 100000 in theorem c_96_81 : mm_code 96 81 = some (Instr.iload_n 2, 1, 0, 0, 0, []) := rfl
set_option maxRecDepth 100000 in theorem c_96_82 : mm_code 96 82 = some (Instr.aload_n 0, 1, 0, 0, 0, []) := rfl
set_option maxRecDepth 100000 in theorem c_96_83 : mm_code 96 83 = some (Instr.getfield 32, 3, 0, 0, 4, [256]) := rfl
set_option maxRecDepth 100000 in theorem c_96_86 : mm_code 96 86 = some (Instr.invokevirtual 126, 3, 8, 97, 2, [690, 691, 692, 58, 693]) := rfl
set_option maxRecDepth 100000 in theorem c_96_89 : mm_code 96 89 = some (Instr.istore 4, 2, 0, 0, 0, []) := rfl
set_option maxRecDepth 100000 in theorem c_96_91 : mm_code 96 91 = some (Instr.iload 4, 2, 0, 0, 0, []) := rfl
set_option maxRecDepth 100000 in theorem c_96_93 : mm_code 96 93 = some (Instr.ifCond .ne 12, 3, 0, 105, 0, []) := rfl
set_option maxRecDepth 100000 in theorem c_96_96 : mm_code 96 96 = some (Instr.aload_n 0, 1, 0, 0, 0, []) := rfl
set_option maxRecDepth 100000 in theorem c_96_97 : mm_code 96 97 = some (Instr.bipush 60, 2, 60, 0, 0, []) := rfl
set_option maxRecDepth 100000 in theorem c_96_99 : mm_code 96 99 = some (Instr.iconst 0, 1, 0, 0, 0, []) := rfl
set_option maxRecDepth 100000 in theorem c_96_100 : mm_code 96 100 = some (Instr.iload_n 1, 1, 0, 0, 0, []) := rfl
set_option maxRecDepth 100000 in theorem c_96_101 : mm_code 96 101 = some (Instr.invokevirtual 113, 3, 0, 95, 3, [678, 680, 8, 63, 681]) := rfl
set_option maxRecDepth 100000 in theorem c_96_104 : mm_code 96 104 = some (Instr.ireturn, 1, 1, 0, 0, []) := rfl
set_option maxRecDepth 100000 in theorem c_96_105 : mm_code 96 105 = some (Instr.iinc 1 1, 3, 0, 0, 0, []) := rfl
set_option maxRecDepth 100000 in theorem c_96_108 : mm_code 96 108 = some (Instr.goto (-99), 3, 0, 9, 0, []) := rfl
set_option maxRecDepth 100000 in theorem c_96_111 : mm_code 96 111 = some (Instr.iconst 1, 1, 1, 0, 0, []) := rfl
set_option maxRecDepth 100000 in theorem c_96_112 : mm_code 96 112 = some (Instr.ireturn, 1, 1, 0, 0, []) := rfl
theorem c_97_0 : mm_code 97 0 = some (Instr.aload_n 0, 1, 0, 0, 0, []) := rfl
theorem c_97_1 : mm_code 97 1 = some (Instr.iload_n 1, 1, 0, 0, 0, []) := rfl
theorem c_97_2 : mm_code 97 2 = some (Instr.invokevirtual 55, 3, 8, 52, 1, [493, 495, 3, 58, 496]) := rfl
theorem c_97_5 : mm_code 97 5 = some (Instr.istore_n 3, 1, 0, 0, 0, []) := rfl
theorem c_97_6 : mm_code 97 6 = some (Instr.iload_n 3, 1, 0, 0, 0, []) := rfl
theorem c_97_7 : mm_code 97 7 = some (Instr.ifCond .ge 15, 3, 0, 22, 0, []) := rfl
theorem c_97_10 : mm_code 97 10 = some (Instr.aload_n 2, 1, 0, 0, 0, []) := rfl
theorem c_97_11 : mm_code 97 11 = some (Instr.iload_n 1, 1, 0, 0, 0, []) := rfl
theorem c_97_12 : mm_code 97 12 = some (Instr.bipush 65, 2, 65, 0, 0, []) := rfl
theorem c_97_14 : mm_code 97 14 = some (Instr.isub, 1, 0, 0, 0, []) := rfl
theorem c_97_15 : mm_code 97 15 = some (Instr.bipush 97, 2, 97, 0, 0, []) := rfl
theorem c_97_17 : mm_code 97 17 = some (Instr.iadd, 1, 0, 0, 0, []) := rfl
theorem c_97_18 : mm_code 97 18 = some (Instr.invokevirtual 61, 3, 7, 14, 1, [694, 337, 338, 57, 339]) := rfl
theorem c_97_21 : mm_code 97 21 = some (Instr.ireturn, 1, 1, 0, 0, []) := rfl
theorem c_97_22 : mm_code 97 22 = some (Instr.iconst 0, 1, 0, 0, 0, []) := rfl
theorem c_97_23 : mm_code 97 23 = some (Instr.istore 4, 2, 0, 0, 0, []) := rfl
theorem c_97_25 : mm_code 97 25 = some (Instr.iload 4, 2, 0, 0, 0, []) := rfl
theorem c_97_27 : mm_code 97 27 = some (Instr.aload_n 0, 1, 0, 0, 0, []) := rfl
theorem c_97_28 : mm_code 97 28 = some (Instr.getfield 21, 3, 0, 8, 3, [101]) := rfl
theorem c_97_31 : mm_code 97 31 = some (Instr.iload_n 3, 1, 0, 0, 0, []) := rfl
theorem c_97_32 : mm_code 97 32 = some (Instr.iaload, 1, 0, 0, 0, []) := rfl
theorem c_97_33 : mm_code 97 33 = some (Instr.if_icmp .ge 29, 3, 0, 62, 0, []) := rfl
theorem c_97_36 : mm_code 97 36 = some (Instr.aload_n 2, 1, 0, 0, 0, []) := rfl
theorem c_97_37 : mm_code 97 37 = some (Instr.aload_n 0, 1, 0, 0, 0, []) := rfl
theorem c_97_38 : mm_code 97 38 = some (Instr.getfield 24, 3, 0, 8, 4, [102]) := rfl
theorem c_97_41 : mm_code 97 41 = some (Instr.iload_n 3, 1, 0, 0, 0, []) := rfl
theorem c_97_42 : mm_code 97 42 = some (Instr.iconst 4, 1, 4, 0, 0, []) := rfl
theorem c_97_43 : mm_code 97 43 = some (Instr.imul, 1, 0, 0, 0, []) := rfl
theorem c_97_44 : mm_code 97 44 = some (Instr.iload 4, 2, 0, 0, 0, []) := rfl
theorem c_97_46 : mm_code 97 46 = some (Instr.iadd, 1, 0, 0, 0, []) := rfl
theorem c_97_47 : mm_code 97 47 = some (Instr.iaload, 1, 0, 0, 0, []) := rfl
theorem c_97_48 : mm_code 97 48 = some (Instr.invokevirtual 61, 3, 7, 14, 1, [694, 337, 338, 57, 339]) := rfl
theorem c_97_51 : mm_code 97 51 = some (Instr.ifCond .ne 5, 3, 0, 56, 0, []) := rfl
theorem c_97_54 : mm_code 97 54 = some (Instr.iconst 0, 1, 0, 0, 0, []) := rfl
theorem c_97_55 : mm_code 97 55 = some (Instr.ireturn, 1, 1, 0, 0, []) := rfl
theorem c_97_56 : mm_code 97 56 = some (Instr.iinc 4 1, 3, 0, 0, 0, []) := rfl
theorem c_97_59 : mm_code 97 59 = some (Instr.goto (-34), 3, 0, 25, 0, []) := rfl
theorem c_97_62 : mm_code 97 62 = some (Instr.iconst 1, 1, 1, 0, 0, []) := rfl
theorem c_97_63 : mm_code 97 63 = some (Instr.ireturn, 1, 1, 0, 0, []) := rfl
theorem c_98_0 : mm_code 98 0 = some (Instr.aload_n 0, 1, 0, 0, 0, []) := rfl
theorem c_98_1 : mm_code 98 1 = some (Instr.getfield 15, 3, 0, 0, 1, [253]) := rfl
theorem c_98_4 : mm_code 98 4 = some (Instr.aload_n 0, 1, 0, 0, 0, []) := rfl
theorem c_98_5 : mm_code 98 5 = some (Instr.getfield 32, 3, 0, 0, 4, [256]) := rfl
theorem c_98_8 : mm_code 98 8 = some (Instr.aload_n 0, 1, 0, 0, 0, []) := rfl
theorem c_98_9 : mm_code 98 9 = some (Instr.getfield 28, 3, 0, 0, 3, [255]) := rfl
theorem c_98_12 : mm_code 98 12 = some (Instr.invokevirtual 130, 3, 1, 69, 2, [699, 567, 568, 62, 569]) := rfl
theorem c_98_15 : mm_code 98 15 = some (Instr.ifCond .ne 14, 3, 0, 29, 0, []) := rfl
theorem c_98_18 : mm_code 98 18 = some (Instr.aload_n 0, 1, 0, 0, 0, []) := rfl
theorem c_98_19 : mm_code 98 19 = some (Instr.bipush 60, 2, 60, 0, 0, []) := rfl
theorem c_98_21 : mm_code 98 21 = some (Instr.iconst 0, 1, 0, 0, 0, []) := rfl
theorem c_98_22 : mm_code 98 22 = some (Instr.iconst 0, 1, 0, 0, 0, []) := rfl
theorem c_98_23 : mm_code 98 23 = some (Instr.invokevirtual 113, 3, 0, 95, 3, [678, 680, 8, 63, 681]) := rfl
theorem c_98_26 : mm_code 98 26 = some (Instr.ifCond .eq 7, 3, 0, 33, 0, []) := rfl
theorem c_98_29 : mm_code 98 29 = some (Instr.iconst 1, 1, 1, 0, 0, []) := rfl
theorem c_98_30 : mm_code 98 30 = some (Instr.goto 4, 3, 0, 34, 0, []) := rfl
theorem c_98_33 : mm_code 98 33 = some (Instr.iconst 0, 1, 0, 0, 0, []) := rfl
theorem c_98_34 : mm_code 98 34 = some (Instr.ireturn, 1, 1, 0, 0, []) := rfl
theorem c_99_0 : mm_code 99 0 = some (Instr.iconst 0, 1, 0, 0, 0, []) := rfl
theorem c_99_1 : mm_code 99 1 = some (Instr.istore_n 1, 1, 0, 0, 0, []) := rfl
theorem c_99_2 : mm_code 99 2 = some (Instr.iconst 0, 1, 0, 0, 0, []) := rfl
theorem c_99_3 : mm_code 99 3 = some (Instr.istore_n 2, 1, 0, 0, 0, []) := rfl
theorem c_99_4 : mm_code 99 4 = some (Instr.iload_n 2, 1, 0, 0, 0, []) := rfl
theorem c_99_5 : mm_code 99 5 = some (Instr.aload_n 0, 1, 0, 0, 0, []) := rfl
theorem c_99_6 : mm_code 99 6 = some (Instr.getfield 28, 3, 0, 0, 3, [255]) := rfl
theorem c_99_9 : mm_code 99 9 = some (Instr.invokevirtual 65, 3, 7, 13, 0, [686, 332, 333, 57, 334]) := rfl
theorem c_99_12 : mm_code 99 12 = some (Instr.if_icmp .gt 95, 3, 0, 107, 0, []) := rfl
theorem c_99_15 : mm_code 99 15 = some (Instr.iload_n 2, 1, 0, 0, 0, []) := rfl
theorem c_99_16 : mm_code 99 16 = some (Instr.aload_n 0, 1, 0, 0, 0, []) := rfl
theorem c_99_17 : mm_code 99 17 = some (Instr.getfield 28, 3, 0, 0, 3, [255]) := rfl
theorem c_99_20 : mm_code 99 20 = some (Instr.invokevirtual 65, 3, 7, 13, 0, [686, 332, 333, 57, 334]) := rfl
theorem c_99_23 : mm_code 99 23 = some (Instr.if_icmp .eq 16, 3, 0, 39, 0, []) := rfl
theorem c_99_26 : mm_code 99 26 = some (Instr.aload_n 0, 1, 0, 0, 0, []) := rfl
theorem c_99_27 : mm_code 99 27 = some (Instr.getfield 28, 3, 0, 0, 3, [255]) := rfl
theorem c_99_30 : mm_code 99 30 = some (Instr.iload_n 2, 1, 0, 0, 0, []) := rfl
theorem c_99_31 : mm_code 99 31 = some (Instr.invokevirtual 69, 3, 7, 17, 1, [687, 350, 351, 57, 352]) := rfl
theorem c_99_34 : mm_code 99 34 = some (Instr.bipush 46, 2, 46, 0, 0, []) := rfl
theorem c_99_36 : mm_code 99 36 = some (Instr.if_icmp .ne 65, 3, 0, 101, 0, []) := rfl
theorem c_99_39 : mm_code 99 39 = some (Instr.aload_n 0, 1, 0, 0, 0, []) := rfl
theorem c_99_40 : mm_code 99 40 = some (Instr.getfield 35, 3, 0, 0, 5, [257]) := rfl
theorem c_99_43 : mm_code 99 43 = some (Instr.invokevirtual 79, 3, 7, 12, 0, [672, 328, 329, 57, 330]) := rfl
theorem c_99_46 : mm_code 99 46 = some (Instr.aload_n 0, 1, 0, 0, 0, []) := rfl
theorem c_99_47 : mm_code 99 47 = some (Instr.getfield 35, 3, 0, 0, 5, [257]) := rfl
theorem c_99_50 : mm_code 99 50 = some (Instr.aload_n 0, 1, 0, 0, 0, []) := rfl
theorem c_99_51 : mm_code 99 51 = some (Instr.getfield 28, 3, 0, 0, 3, [255]) := rfl
theorem c_99_54 : mm_code 99 54 = some (Instr.iload_n 1, 1, 0, 0, 0, []) := rfl
theorem c_99_55 : mm_code 99 55 = some (Instr.iload_n 2, 1, 0, 0, 0, []) := rfl
theorem c_99_56 : mm_code 99 56 = some (Instr.invokevirtual 136, 3, 7, 24, 3, [704, 376, 377, 57, 378]) := rfl
theorem c_99_59 : mm_code 99 59 = some (Instr.pop, 1, 0, 0, 0, []) := rfl
theorem c_99_60 : mm_code 99 60 = some (Instr.aload_n 0, 1, 0, 0, 0, []) := rfl
theorem c_99_61 : mm_code 99 61 = some (Instr.getfield 35, 3, 0, 0, 5, [257]) := rfl
theorem c_99_64 : mm_code 99 64 = some (Instr.invokevirtual 65, 3, 7, 13, 0, [686, 332, 333, 57, 334]) := rfl
theorem c_99_67 : mm_code 99 67 = some (Instr.ifCond .le 19, 3, 0, 86, 0, []) := rfl
theorem c_99_70 : mm_code 99 70 = some (Instr.aload_n 0, 1, 0, 0, 0, []) := rfl
theorem c_99_71 : mm_code 99 71 = some (Instr.invokevirtual 140, 3, 0, 100, 0, [705, 707, 12, 63, 708]) := rfl
theorem c_99_74 : mm_code 99 74 = some (Instr.ifCond .eq 10, 3, 0, 84, 0, []) := rfl
theorem c_99_77 : mm_code 99 77 = some (Instr.aload_n 0, 1, 0, 0, 0, []) := rfl
theorem c_99_78 : mm_code 99 78 = some (Instr.invokevirtual 143, 3, 0, 104, 0, [724, 726, 14, 63, 727]) := rfl
theorem c_99_81 : mm_code 99 81 = some (Instr.ifCond .ne 5, 3, 0, 86, 0, []) := rfl
set_option maxRecDepth 100000 in theorem c_99_84 : mm_code 99 84 = some (Instr.iconst 0, 1, 0, 0, 0, []) := rfl
set_option maxRecDepth 100000 in theorem c_99_85 : mm_code 99 85 = some (Instr.ireturn, 1, 1, 0, 0, []) := rfl
set_option maxRecDepth 100000 in theorem c_99_86 : mm_code 99 86 = some (Instr.aload_n 0, 1, 0, 0, 0, []) := rfl
set_option maxRecDepth 100000 in theorem c_99_87 : mm_code 99 87 = some (Instr.getfield 41, 3, 0, 0, 6, [258]) := rfl
set_option maxRecDepth 100000 in theorem c_99_90 : mm_code 99 90 = some (Instr.aload_n 0, 1, 0, 0, 0, []) := rfl
set_option maxRecDepth 100000 in theorem c_99_91 : mm_code 99 91 = some (Instr.getfield 35, 3, 0, 0, 5, [257]) := rfl
set_option maxRecDepth 100000 in theorem c_99_94 : mm_code 99 94 = some (Instr.invokevirtual 146, 3, 3, 111, 1, [758, 759, 760, 65, 761]) := rfl
set_option maxRecDepth 100000 in theorem c_99_97 : mm_code 99 97 = some (Instr.iload_n 2, 1, 0, 0, 0, []) := rfl
set_option maxRecDepth 100000 in theorem c_99_98 : mm_code 99 98 = some (Instr.iconst 1, 1, 1, 0, 0, []) := rfl
set_option maxRecDepth 100000 in theorem c_99_99 : mm_code 99 99 = some (Instr.iadd, 1, 0, 0, 0, []) := rfl
set_option maxRecDepth 100000 in theorem c_99_100 : mm_code 99 100 = some (Instr.istore_n 1, 1, 0, 0, 0, []) := rfl
set_option maxRecDepth 100000 in theorem c_99_101 : mm_code 99 101 = some (Instr.iinc 2 1, 3, 0, 0, 0, []) := rfl
set_option maxRecDepth 100000 in theorem c_99_104 : mm_code 99 104 = some (Instr.goto (-100), 3, 0, 4, 0, []) := rfl
set_option maxRecDepth 100000 in theorem c_99_107 : mm_code 99 107 = some (Instr.iconst 1, 1, 1, 0, 0, []) := rfl
set_option maxRecDepth 100000 in theorem c_99_108 : mm_code 99 108 = some (Instr.ireturn, 1, 1, 0, 0, []) := rfl
theorem c_100_0 : mm_code 100 0 = some (Instr.aload_n 0, 1, 0, 0, 0, []) := rfl
theorem c_100_1 : mm_code 100 1 = some (Instr.invokevirtual 157, 3, 0, 101, 0, [709, 711, 13, 63, 712]) := rfl
theorem c_100_4 : mm_code 100 4 = some (Instr.ifCond .ne 5, 3, 0, 9, 0, []) := rfl
theorem c_100_7 : mm_code 100 7 = some (Instr.iconst 1, 1, 1, 0, 0, []) := rfl
theorem c_100_8 : mm_code 100 8 = some (Instr.ireturn, 1, 1, 0, 0, []) := rfl
theorem c_100_9 : mm_code 100 9 = some (Instr.aload_n 0, 1, 0, 0, 0, []) := rfl
theorem c_100_10 : mm_code 100 10 = some (Instr.getfield 41, 3, 0, 0, 6, [258]) := rfl
theorem c_100_13 : mm_code 100 13 = some (Instr.invokevirtual 73, 3, 3, 102, 0, [713, 714, 715, 65, 716]) := rfl
theorem c_100_16 : mm_code 100 16 = some (Instr.istore_n 1, 1, 0, 0, 0, []) := rfl
theorem c_100_17 : mm_code 100 17 = some (Instr.aload_n 0, 1, 0, 0, 0, []) := rfl
theorem c_100_18 : mm_code 100 18 = some (Instr.getfield 35, 3, 0, 0, 5, [257]) := rfl
theorem c_100_21 : mm_code 100 21 = some (Instr.iconst 4, 1, 4, 0, 0, []) := rfl
theorem c_100_22 : mm_code 100 22 = some (Instr.aload_n 0, 1, 0, 0, 0, []) := rfl
theorem c_100_23 : mm_code 100 23 = some (Instr.getfield 32, 3, 0, 0, 4, [256]) := rfl
theorem c_100_26 : mm_code 100 26 = some (Instr.invokestatic 160, 3, 0, 87, 3, [717, 642, 69, 643]) := rfl
theorem c_100_29 : mm_code 100 29 = some (Instr.istore_n 2, 1, 0, 0, 0, []) := rfl
theorem c_100_30 : mm_code 100 30 = some (Instr.iload_n 2, 1, 0, 0, 0, []) := rfl
theorem c_100_31 : mm_code 100 31 = some (Instr.iconst (-1), 1, (-1), 0, 0, []) := rfl
theorem c_100_32 : mm_code 100 32 = some (Instr.if_icmp .eq 14, 3, 0, 46, 0, []) := rfl
theorem c_100_35 : mm_code 100 35 = some (Instr.aload_n 0, 1, 0, 0, 0, []) := rfl
theorem c_100_36 : mm_code 100 36 = some (Instr.bipush 30, 2, 30, 0, 0, []) := rfl
theorem c_100_38 : mm_code 100 38 = some (Instr.iload_n 1, 1, 0, 0, 0, []) := rfl
theorem c_100_39 : mm_code 100 39 = some (Instr.iconst 4, 1, 4, 0, 0, []) := rfl
theorem c_100_40 : mm_code 100 40 = some (Instr.iload_n 2, 1, 0, 0, 0, []) := rfl
theorem c_100_41 : mm_code 100 41 = some (Instr.iadd, 1, 0, 0, 0, []) := rfl
theorem c_100_42 : mm_code 100 42 = some (Instr.invokevirtual 113, 3, 0, 95, 3, [678, 680, 8, 63, 681]) := rfl
theorem c_100_45 : mm_code 100 45 = some (Instr.ireturn, 1, 1, 0, 0, []) := rfl
theorem c_100_46 : mm_code 100 46 = some (Instr.aload_n 0, 1, 0, 0, 0, []) := rfl
theorem c_100_47 : mm_code 100 47 = some (Instr.getfield 32, 3, 0, 0, 4, [256]) := rfl
theorem c_100_50 : mm_code 100 50 = some (Instr.iconst 0, 1, 0, 0, 0, []) := rfl
theorem c_100_51 : mm_code 100 51 = some (Instr.aload_n 0, 1, 0, 0, 0, []) := rfl
theorem c_100_52 : mm_code 100 52 = some (Instr.getfield 32, 3, 0, 0, 4, [256]) := rfl
theorem c_100_55 : mm_code 100 55 = some (Instr.invokevirtual 65, 3, 7, 13, 0, [686, 332, 333, 57, 334]) := rfl
theorem c_100_58 : mm_code 100 58 = some (Instr.invokestatic 166, 3, 0, 103, 3, [718, 719, 65, 720]) := rfl
theorem c_100_61 : mm_code 100 61 = some (Instr.ifCond .ne 12, 3, 0, 73, 0, []) := rfl
theorem c_100_64 : mm_code 100 64 = some (Instr.aload_n 0, 1, 0, 0, 0, []) := rfl
theorem c_100_65 : mm_code 100 65 = some (Instr.bipush 32, 2, 32, 0, 0, []) := rfl
theorem c_100_67 : mm_code 100 67 = some (Instr.iload_n 1, 1, 0, 0, 0, []) := rfl
theorem c_100_68 : mm_code 100 68 = some (Instr.iconst 0, 1, 0, 0, 0, []) := rfl
theorem c_100_69 : mm_code 100 69 = some (Instr.invokevirtual 113, 3, 0, 95, 3, [678, 680, 8, 63, 681]) := rfl
theorem c_100_72 : mm_code 100 72 = some (Instr.ireturn, 1, 1, 0, 0, []) := rfl
set_option maxRecDepth 100000 in theorem c_100_73 : mm_code 100 73 = some (Instr.aload_n 0, 1, 0, 0, 0, []) := rfl
set_option maxRecDepth 100000 in theorem c_100_74 : mm_code 100 74 = some (Instr.getfield 35, 3, 0, 0, 5, [257]) := rfl
set_option maxRecDepth 100000 in theorem c_100_77 : mm_code 100 77 = some (Instr.aload_n 0, 1, 0, 0, 0, []) := rfl
set_option maxRecDepth 100000 in theorem c_100_78 : mm_code 100 78 = some (Instr.getfield 32, 3, 0, 0, 4, [256]) := rfl
set_option maxRecDepth 100000 in theorem c_100_81 : mm_code 100 81 = some (Instr.invokevirtual 103, 3, 7, 23, 1, [722, 370, 371, 57, 372]) := rfl
set_option maxRecDepth 100000 in theorem c_100_84 : mm_code 100 84 = some (Instr.aload_n 0, 1, 0, 0, 0, []) := rfl
set_option maxRecDepth 100000 in theorem c_100_85 : mm_code 100 85 = some (Instr.getfield 15, 3, 0, 0, 1, [253]) := rfl
set_option maxRecDepth 100000 in theorem c_100_88 : mm_code 100 88 = some (Instr.aload_n 0, 1, 0, 0, 0, []) := rfl
set_option maxRecDepth 100000 in theorem c_100_89 : mm_code 100 89 = some (Instr.getfield 35, 3, 0, 0, 5, [257]) := rfl
set_option maxRecDepth 100000 in theorem c_100_92 : mm_code 100 92 = some (Instr.aload_n 0, 1, 0, 0, 0, []) := rfl
set_option maxRecDepth 100000 in theorem c_100_93 : mm_code 100 93 = some (Instr.getfield 32, 3, 0, 0, 4, [256]) := rfl
set_option maxRecDepth 100000 in theorem c_100_96 : mm_code 100 96 = some (Instr.invokevirtual 130, 3, 1, 69, 2, [699, 567, 568, 62, 569]) := rfl
set_option maxRecDepth 100000 in theorem c_100_99 : mm_code 100 99 = some (Instr.ifCond .ne 12, 3, 0, 111, 0, []) := rfl
set_option maxRecDepth 100000 in theorem c_100_102 : mm_code 100 102 = some (Instr.aload_n 0, 1, 0, 0, 0, []) := rfl
set_option maxRecDepth 100000 in theorem c_100_103 : mm_code 100 103 = some (Instr.bipush 60, 2, 60, 0, 0, []) := rfl
set_option maxRecDepth 100000 in theorem c_100_105 : mm_code 100 105 = some (Instr.iload_n 1, 1, 0, 0, 0, []) := rfl
set_option maxRecDepth 100000 in theorem c_100_106 : mm_code 100 106 = some (Instr.iconst 0, 1, 0, 0, 0, []) := rfl
set_option maxRecDepth 100000 in theorem c_100_107 : mm_code 100 107 = some (Instr.invokevirtual 113, 3, 0, 95, 3, [678, 680, 8, 63, 681]) := rfl
set_option maxRecDepth 100000 in theorem c_100_110 : mm_code 100 110 = some (Instr.ireturn, 1, 1, 0, 0, []) := rfl
set_option maxRecDepth 100000 in theorem c_100_111 : mm_code 100 111 = some (Instr.aload_n 0, 1, 0, 0, 0, []) := rfl
set_option maxRecDepth 100000 in theorem c_100_112 : mm_code 100 112 = some (Instr.getfield 35, 3, 0, 0, 5, [257]) := rfl
set_option maxRecDepth 100000 in theorem c_100_115 : mm_code 100 115 = some (Instr.aload_n 0, 1, 0, 0, 0, []) := rfl
set_option maxRecDepth 100000 in theorem c_100_116 : mm_code 100 116 = some (Instr.getfield 32, 3, 0, 0, 4, [256]) := rfl
set_option maxRecDepth 100000 in theorem c_100_119 : mm_code 100 119 = some (Instr.invokevirtual 169, 3, 7, 75, 1, [723, 592, 593, 57, 594]) := rfl
set_option maxRecDepth 100000 in theorem c_100_122 : mm_code 100 122 = some (Instr.istore_n 3, 1, 0, 0, 0, []) := rfl
set_option maxRecDepth 100000 in theorem c_100_123 : mm_code 100 123 = some (Instr.iload_n 3, 1, 0, 0, 0, []) := rfl
set_option maxRecDepth 100000 in theorem c_100_124 : mm_code 100 124 = some (Instr.ifCond .lt 14, 3, 0, 138, 0, []) := rfl
set_option maxRecDepth 100000 in theorem c_100_127 : mm_code 100 127 = some (Instr.aload_n 0, 1, 0, 0, 0, []) := rfl
set_option maxRecDepth 100000 in theorem c_100_128 : mm_code 100 128 = some (Instr.bipush 40, 2, 40, 0, 0, []) := rfl
set_option maxRecDepth 100000 in theorem c_100_130 : mm_code 100 130 = some (Instr.iload_n 1, 1, 0, 0, 0, []) := rfl
set_option maxRecDepth 100000 in theorem c_100_131 : mm_code 100 131 = some (Instr.iload_n 3, 1, 0, 0, 0, []) := rfl
set_option maxRecDepth 100000 in theorem c_100_132 : mm_code 100 132 = some (Instr.invokevirtual 113, 3, 0, 95, 3, [678, 680, 8, 63, 681]) := rfl
set_option maxRecDepth 100000 in theorem c_100_135 : mm_code 100 135 = some (Instr.ifCond .eq 7, 3, 0, 142, 0, []) := rfl
set_option maxRecDepth 100000 in theorem c_100_138 : mm_code 100 138 = some (Instr.iconst 1, 1, 1, 0, 0, []) := rfl
set_option maxRecDepth 100000 in theorem c_100_139 : mm_code 100 139 = some (Instr.goto 4, 3, 0, 143, 0, []) := rfl
set_option maxRecDepth 100000 in theorem c_100_142 : mm_code 100 142 = some (Instr.iconst 0, 1, 0, 0, 0, []) := rfl
set_option maxRecDepth 100000 in theorem c_100_143 : mm_code 100 143 = some (Instr.ireturn, 1, 1, 0, 0, []) := rfl
theorem c_101_0 : mm_code 101 0 = some (Instr.aload_n 0, 1, 0, 0, 0, []) := rfl
theorem c_101_1 : mm_code 101 1 = some (Instr.getfield 35, 3, 0, 0, 5, [257]) := rfl
theorem c_101_4 : mm_code 101 4 = some (Instr.iconst 0, 1, 0, 0, 0, []) := rfl
theorem c_101_5 : mm_code 101 5 = some (Instr.invokevirtual 69, 3, 7, 17, 1, [687, 350, 351, 57, 352]) := rfl
theorem c_101_8 : mm_code 101 8 = some (Instr.bipush 120, 2, 120, 0, 0, []) := rfl
theorem c_101_10 : mm_code 101 10 = some (Instr.if_icmp .ne 46, 3, 0, 56, 0, []) := rfl
theorem c_101_13 : mm_code 101 13 = some (Instr.aload_n 0, 1, 0, 0, 0, []) := rfl
theorem c_101_14 : mm_code 101 14 = some (Instr.getfield 35, 3, 0, 0, 5, [257]) := rfl
theorem c_101_17 : mm_code 101 17 = some (Instr.iconst 1, 1, 1, 0, 0, []) := rfl
theorem c_101_18 : mm_code 101 18 = some (Instr.invokevirtual 69, 3, 7, 17, 1, [687, 350, 351, 57, 352]) := rfl
theorem c_101_21 : mm_code 101 21 = some (Instr.bipush 110, 2, 110, 0, 0, []) := rfl
theorem c_101_23 : mm_code 101 23 = some (Instr.if_icmp .ne 33, 3, 0, 56, 0, []) := rfl
theorem c_101_26 : mm_code 101 26 = some (Instr.aload_n 0, 1, 0, 0, 0, []) := rfl
theorem c_101_27 : mm_code 101 27 = some (Instr.getfield 35, 3, 0, 0, 5, [257]) := rfl
theorem c_101_30 : mm_code 101 30 = some (Instr.iconst 2, 1, 2, 0, 0, []) := rfl
theorem c_101_31 : mm_code 101 31 = some (Instr.invokevirtual 69, 3, 7, 17, 1, [687, 350, 351, 57, 352]) := rfl
theorem c_101_34 : mm_code 101 34 = some (Instr.bipush 45, 2, 45, 0, 0, []) := rfl
theorem c_101_36 : mm_code 101 36 = some (Instr.if_icmp .ne 20, 3, 0, 56, 0, []) := rfl
theorem c_101_39 : mm_code 101 39 = some (Instr.aload_n 0, 1, 0, 0, 0, []) := rfl
theorem c_101_40 : mm_code 101 40 = some (Instr.getfield 35, 3, 0, 0, 5, [257]) := rfl
theorem c_101_43 : mm_code 101 43 = some (Instr.iconst 3, 1, 3, 0, 0, []) := rfl
theorem c_101_44 : mm_code 101 44 = some (Instr.invokevirtual 69, 3, 7, 17, 1, [687, 350, 351, 57, 352]) := rfl
theorem c_101_47 : mm_code 101 47 = some (Instr.bipush 45, 2, 45, 0, 0, []) := rfl
theorem c_101_49 : mm_code 101 49 = some (Instr.if_icmp .ne 7, 3, 0, 56, 0, []) := rfl
theorem c_101_52 : mm_code 101 52 = some (Instr.iconst 1, 1, 1, 0, 0, []) := rfl
theorem c_101_53 : mm_code 101 53 = some (Instr.goto 4, 3, 0, 57, 0, []) := rfl
theorem c_101_56 : mm_code 101 56 = some (Instr.iconst 0, 1, 0, 0, 0, []) := rfl
theorem c_101_57 : mm_code 101 57 = some (Instr.ireturn, 1, 1, 0, 0, []) := rfl
theorem c_102_0 : mm_code 102 0 = some (Instr.aload_n 0, 1, 0, 0, 0, []) := rfl
theorem c_102_1 : mm_code 102 1 = some (Instr.getfield 24, 3, 0, 3, 2, [244]) := rfl
theorem c_102_4 : mm_code 102 4 = some (Instr.ireturn, 1, 0, 0, 0, []) := rfl
theorem c_103_0 : mm_code 103 0 = some (Instr.iload_n 1, 1, 0, 0, 0, []) := rfl
theorem c_103_1 : mm_code 103 1 = some (Instr.istore_n 3, 1, 0, 0, 0, []) := rfl
theorem c_103_2 : mm_code 103 2 = some (Instr.iload_n 3, 1, 0, 0, 0, []) := rfl
theorem c_103_3 : mm_code 103 3 = some (Instr.iload_n 2, 1, 0, 0, 0, []) := rfl
theorem c_103_4 : mm_code 103 4 = some (Instr.if_icmp .ge 21, 3, 0, 25, 0, []) := rfl
theorem c_103_7 : mm_code 103 7 = some (Instr.aload_n 0, 1, 0, 0, 0, []) := rfl
theorem c_103_8 : mm_code 103 8 = some (Instr.iload_n 3, 1, 0, 0, 0, []) := rfl
theorem c_103_9 : mm_code 103 9 = some (Instr.invokevirtual 49, 3, 7, 17, 1, [721, 350, 351, 57, 352]) := rfl
theorem c_103_12 : mm_code 103 12 = some (Instr.bipush 127, 2, 127, 0, 0, []) := rfl
theorem c_103_14 : mm_code 103 14 = some (Instr.if_icmp .le 5, 3, 0, 19, 0, []) := rfl
theorem c_103_17 : mm_code 103 17 = some (Instr.iconst 1, 1, 1, 0, 0, []) := rfl
theorem c_103_18 : mm_code 103 18 = some (Instr.ireturn, 1, 1, 0, 0, []) := rfl
theorem c_103_19 : mm_code 103 19 = some (Instr.iinc 3 1, 3, 0, 0, 0, []) := rfl
theorem c_103_22 : mm_code 103 22 = some (Instr.goto (-20), 3, 0, 2, 0, []) := rfl
theorem c_103_25 : mm_code 103 25 = some (Instr.iconst 0, 1, 0, 0, 0, []) := rfl
theorem c_103_26 : mm_code 103 26 = some (Instr.ireturn, 1, 1, 0, 0, []) := rfl
theorem c_104_0 : mm_code 104 0 = some (Instr.aload_n 0, 1, 0, 0, 0, []) := rfl
theorem c_104_1 : mm_code 104 1 = some (Instr.getfield 19, 3, 0, 0, 2, [254]) := rfl
theorem c_104_4 : mm_code 104 4 = some (Instr.aload_n 0, 1, 0, 0, 0, []) := rfl
theorem c_104_5 : mm_code 104 5 = some (Instr.getfield 35, 3, 0, 0, 5, [257]) := rfl
theorem c_104_8 : mm_code 104 8 = some (Instr.invokevirtual 148, 3, 2, 105, 1, [728, 729, 730, 64, 731]) := rfl
theorem c_104_11 : mm_code 104 11 = some (Instr.istore_n 1, 1, 0, 0, 0, []) := rfl
theorem c_104_12 : mm_code 104 12 = some (Instr.iload_n 1, 1, 0, 0, 0, []) := rfl
theorem c_104_13 : mm_code 104 13 = some (Instr.ifCond .eq 25, 3, 0, 38, 0, []) := rfl
theorem c_104_16 : mm_code 104 16 = some (Instr.aload_n 0, 1, 0, 0, 0, []) := rfl
theorem c_104_17 : mm_code 104 17 = some (Instr.iload_n 1, 1, 0, 0, 0, []) := rfl
theorem c_104_18 : mm_code 104 18 = some (Instr.aload_n 0, 1, 0, 0, 0, []) := rfl
theorem c_104_19 : mm_code 104 19 = some (Instr.getfield 41, 3, 0, 0, 6, [258]) := rfl
theorem c_104_22 : mm_code 104 22 = some (Instr.invokevirtual 73, 3, 3, 102, 0, [713, 714, 715, 65, 716]) := rfl
theorem c_104_25 : mm_code 104 25 = some (Instr.aload_n 0, 1, 0, 0, 0, []) := rfl
theorem c_104_26 : mm_code 104 26 = some (Instr.getfield 19, 3, 0, 0, 2, [254]) := rfl
theorem c_104_29 : mm_code 104 29 = some (Instr.invokevirtual 154, 3, 2, 110, 0, [754, 755, 756, 64, 757]) := rfl
theorem c_104_32 : mm_code 104 32 = some (Instr.invokevirtual 113, 3, 0, 95, 3, [678, 680, 8, 63, 681]) := rfl
theorem c_104_35 : mm_code 104 35 = some (Instr.ifCond .eq 7, 3, 0, 42, 0, []) := rfl
theorem c_104_38 : mm_code 104 38 = some (Instr.iconst 1, 1, 1, 0, 0, []) := rfl
theorem c_104_39 : mm_code 104 39 = some (Instr.goto 4, 3, 0, 43, 0, []) := rfl
theorem c_104_42 : mm_code 104 42 = some (Instr.iconst 0, 1, 0, 0, 0, []) := rfl
theorem c_104_43 : mm_code 104 43 = some (Instr.ireturn, 1, 1, 0, 0, []) := rfl
theorem c_105_0 : mm_code 105 0 = some (Instr.aload_n 1, 1, 0, 0, 0, []) := rfl
theorem c_105_1 : mm_code 105 1 = some (Instr.invokevirtual 39, 3, 7, 13, 0, [732, 332, 333, 57, 334]) := rfl
theorem c_105_4 : mm_code 105 4 = some (Instr.iconst 1, 1, 1, 0, 0, []) := rfl
theorem c_105_5 : mm_code 105 5 = some (Instr.isub, 1, 0, 0, 0, []) := rfl
theorem c_105_6 : mm_code 105 6 = some (Instr.istore_n 2, 1, 0, 0, 0, []) := rfl
theorem c_105_7 : mm_code 105 7 = some (Instr.aload_n 1, 1, 0, 0, 0, []) := rfl
theorem c_105_8 : mm_code 105 8 = some (Instr.iconst 2, 1, 2, 0, 0, []) := rfl
theorem c_105_9 : mm_code 105 9 = some (Instr.invokevirtual 43, 3, 7, 17, 1, [733, 350, 351, 57, 352]) := rfl
theorem c_105_12 : mm_code 105 12 = some (Instr.bipush 45, 2, 45, 0, 0, []) := rfl
theorem c_105_14 : mm_code 105 14 = some (Instr.if_icmp .ne 21, 3, 0, 35, 0, []) := rfl
theorem c_105_17 : mm_code 105 17 = some (Instr.aload_n 1, 1, 0, 0, 0, []) := rfl
theorem c_105_18 : mm_code 105 18 = some (Instr.iconst 3, 1, 3, 0, 0, []) := rfl
theorem c_105_19 : mm_code 105 19 = some (Instr.invokevirtual 43, 3, 7, 17, 1, [733, 350, 351, 57, 352]) := rfl
theorem c_105_22 : mm_code 105 22 = some (Instr.bipush 45, 2, 45, 0, 0, []) := rfl
theorem c_105_24 : mm_code 105 24 = some (Instr.if_icmp .ne 11, 3, 0, 35, 0, []) := rfl
theorem c_105_27 : mm_code 105 27 = some (Instr.aload_n 0, 1, 0, 0, 0, []) := rfl
theorem c_105_28 : mm_code 105 28 = some (Instr.bipush 41, 2, 41, 0, 0, []) := rfl
theorem c_105_30 : mm_code 105 30 = some (Instr.iconst 2, 1, 2, 0, 0, []) := rfl
theorem c_105_31 : mm_code 105 31 = some (Instr.invokevirtual 47, 3, 2, 106, 2, [734, 736, 15, 64, 737]) := rfl
theorem c_105_34 : mm_code 105 34 = some (Instr.ireturn, 1, 0, 0, 0, []) := rfl
theorem c_105_35 : mm_code 105 35 = some (Instr.aload_n 1, 1, 0, 0, 0, []) := rfl
theorem c_105_36 : mm_code 105 36 = some (Instr.iconst 0, 1, 0, 0, 0, []) := rfl
theorem c_105_37 : mm_code 105 37 = some (Instr.invokevirtual 43, 3, 7, 17, 1, [733, 350, 351, 57, 352]) := rfl
theorem c_105_40 : mm_code 105 40 = some (Instr.bipush 45, 2, 45, 0, 0, []) := rfl
theorem c_105_42 : mm_code 105 42 = some (Instr.if_icmp .ne 11, 3, 0, 53, 0, []) := rfl
theorem c_105_45 : mm_code 105 45 = some (Instr.aload_n 0, 1, 0, 0, 0, []) := rfl
theorem c_105_46 : mm_code 105 46 = some (Instr.bipush 42, 2, 42, 0, 0, []) := rfl
theorem c_105_48 : mm_code 105 48 = some (Instr.iconst 0, 1, 0, 0, 0, []) := rfl
theorem c_105_49 : mm_code 105 49 = some (Instr.invokevirtual 47, 3, 2, 106, 2, [734, 736, 15, 64, 737]) := rfl
theorem c_105_52 : mm_code 105 52 = some (Instr.ireturn, 1, 0, 0, 0, []) := rfl
theorem c_105_53 : mm_code 105 53 = some (Instr.aload_n 1, 1, 0, 0, 0, []) := rfl
theorem c_105_54 : mm_code 105 54 = some (Instr.iload_n 2, 1, 0, 0, 0, []) := rfl
theorem c_105_55 : mm_code 105 55 = some (Instr.invokevirtual 43, 3, 7, 17, 1, [733, 350, 351, 57, 352]) := rfl
theorem c_105_58 : mm_code 105 58 = some (Instr.bipush 45, 2, 45, 0, 0, []) := rfl
theorem c_105_60 : mm_code 105 60 = some (Instr.if_icmp .ne 11, 3, 0, 71, 0, []) := rfl
theorem c_105_63 : mm_code 105 63 = some (Instr.aload_n 0, 1, 0, 0, 0, []) := rfl
theorem c_105_64 : mm_code 105 64 = some (Instr.bipush 42, 2, 42, 0, 0, []) := rfl
theorem c_105_66 : mm_code 105 66 = some (Instr.iload_n 2, 1, 0, 0, 0, []) := rfl
theorem c_105_67 : mm_code 105 67 = some (Instr.invokevirtual 47, 3, 2, 106, 2, [734, 736, 15, 64, 737]) := rfl
theorem c_105_70 : mm_code 105 70 = some (Instr.ireturn, 1, 0, 0, 0, []) := rfl
theorem c_105_71 : mm_code 105 71 = some (Instr.aload_n 0, 1, 0, 0, 0, []) := rfl
set_option maxRecDepth 100000 in theorem c_105_72 : mm_code 105 72 = some (Instr.getfield 19, 3, 0, 2, 2, [211]) := rfl
set_option maxRecDepth 100000 in theorem c_105_75 : mm_code 105 75 = some (Instr.iconst 0, 1, 0, 0, 0, []) := rfl
set_option maxRecDepth 100000 in theorem c_105_76 : mm_code 105 76 = some (Instr.aload_n 1, 1, 0, 0, 0, []) := rfl
set_option maxRecDepth 100000 in theorem c_105_77 : mm_code 105 77 = some (Instr.iconst 0, 1, 0, 0, 0, []) := rfl
set_option maxRecDepth 100000 in theorem c_105_78 : mm_code 105 78 = some (Instr.invokevirtual 43, 3, 7, 17, 1, [733, 350, 351, 57, 352]) := rfl
set_option maxRecDepth 100000 in theorem c_105_81 : mm_code 105 81 = some (Instr.invokevirtual 53, 3, 5, 55, 2, [738, 505, 506, 61, 507]) := rfl
set_option maxRecDepth 100000 in theorem c_105_84 : mm_code 105 84 = some (Instr.iconst 1, 1, 1, 0, 0, []) := rfl
set_option maxRecDepth 100000 in theorem c_105_85 : mm_code 105 85 = some (Instr.if_icmp .ne 11, 3, 0, 96, 0, []) := rfl
set_option maxRecDepth 100000 in theorem c_105_88 : mm_code 105 88 = some (Instr.aload_n 0, 1, 0, 0, 0, []) := rfl
set_option maxRecDepth 100000 in theorem c_105_89 : mm_code 105 89 = some (Instr.bipush 43, 2, 43, 0, 0, []) := rfl
set_option maxRecDepth 100000 in theorem c_105_91 : mm_code 105 91 = some (Instr.iconst 0, 1, 0, 0, 0, []) := rfl
set_option maxRecDepth 100000 in theorem c_105_92 : mm_code 105 92 = some (Instr.invokevirtual 47, 3, 2, 106, 2, [734, 736, 15, 64, 737]) := rfl
set_option maxRecDepth 100000 in theorem c_105_95 : mm_code 105 95 = some (Instr.ireturn, 1, 0, 0, 0, []) := rfl
set_option maxRecDepth 100000 in theorem c_105_96 : mm_code 105 96 = some (Instr.iconst 0, 1, 0, 0, 0, []) := rfl
set_option maxRecDepth 100000 in theorem c_105_97 : mm_code 105 97 = some (Instr.istore_n 3, 1, 0, 0, 0, []) := rfl
set_option maxRecDepth 100000 in theorem c_105_98 : mm_code 105 98 = some (Instr.iload_n 3, 1, 0, 0, 0, []) := rfl
set_option maxRecDepth 100000 in theorem c_105_99 : mm_code 105 99 = some (Instr.iload_n 2, 1, 0, 0, 0, []) := rfl
set_option maxRecDepth 100000 in theorem c_105_100 : mm_code 105 100 = some (Instr.if_icmp .gt 42, 3, 0, 142, 0, []) := rfl
set_option maxRecDepth 100000 in theorem c_105_103 : mm_code 105 103 = some (Instr.aload_n 1, 1, 0, 0, 0, []) := rfl
set_option maxRecDepth 100000 in theorem c_105_104 : mm_code 105 104 = some (Instr.iload_n 3, 1, 0, 0, 0, []) := rfl
set_option maxRecDepth 100000 in theorem c_105_105 : mm_code 105 105 = some (Instr.invokevirtual 43, 3, 7, 17, 1, [733, 350, 351, 57, 352]) := rfl
set_option maxRecDepth 100000 in theorem c_105_108 : mm_code 105 108 = some (Instr.bipush 46, 2, 46, 0, 0, []) := rfl
set_option maxRecDepth 100000 in theorem c_105_110 : mm_code 105 110 = some (Instr.if_icmp .eq 18, 3, 0, 128, 0, []) := rfl
set_option maxRecDepth 100000 in theorem c_105_113 : mm_code 105 113 = some (Instr.aload_n 0, 1, 0, 0, 0, []) := rfl
set_option maxRecDepth 100000 in theorem c_105_114 : mm_code 105 114 = some (Instr.getfield 9, 3, 0, 2, 0, [209]) := rfl
set_option maxRecDepth 100000 in theorem c_105_117 : mm_code 105 117 = some (Instr.aload_n 1, 1, 0, 0, 0, []) := rfl
set_option maxRecDepth 100000 in theorem c_105_118 : mm_code 105 118 = some (Instr.iload_n 3, 1, 0, 0, 0, []) := rfl
set_option maxRecDepth 100000 in theorem c_105_119 : mm_code 105 119 = some (Instr.invokevirtual 43, 3, 7, 17, 1, [733, 350, 351, 57, 352]) := rfl
set_option maxRecDepth 100000 in theorem c_105_122 : mm_code 105 122 = some (Instr.invokevirtual 56, 3, 8, 51, 1, [739, 490, 491, 58, 492]) := rfl
set_option maxRecDepth 100000 in theorem c_105_125 : mm_code 105 125 = some (Instr.ifCond .eq 11, 3, 0, 136, 0, []) := rfl
set_option maxRecDepth 100000 in theorem c_105_128 : mm_code 105 128 = some (Instr.aload_n 0, 1, 0, 0, 0, []) := rfl
set_option maxRecDepth 100000 in theorem c_105_129 : mm_code 105 129 = some (Instr.bipush 44, 2, 44, 0, 0, []) := rfl
set_option maxRecDepth 100000 in theorem c_105_131 : mm_code 105 131 = some (Instr.iload_n 3, 1, 0, 0, 0, []) := rfl
set_option maxRecDepth 100000 in theorem c_105_132 : mm_code 105 132 = some (Instr.invokevirtual 47, 3, 2, 106, 2, [734, 736, 15, 64, 737]) := rfl
set_option maxRecDepth 100000 in theorem c_105_135 : mm_code 105 135 = some (Instr.ireturn, 1, 0, 0, 0, []) := rfl
set_option maxRecDepth 100000 in theorem c_105_136 : mm_code 105 136 = some (Instr.iinc 3 1, 3, 0, 0, 0, []) := rfl
set_option maxRecDepth 100000 in theorem c_105_139 : mm_code 105 139 = some (Instr.goto (-41), 3, 0, 98, 0, []) := rfl
set_option maxRecDepth 100000 in theorem c_105_142 : mm_code 105 142 = some (Instr.aload_n 0, 1, 0, 0, 0, []) := rfl
set_option maxRecDepth 100000 in theorem c_105_143 : mm_code 105 143 = some (Instr.aload_n 1, 1, 0, 0, 0, []) := rfl
set_option maxRecDepth 100000 in theorem c_105_144 : mm_code 105 144 = some (Instr.invokevirtual 60, 3, 2, 107, 1, [740, 742, 16, 64, 743]) := rfl
set_option maxRecDepth 100000 in theorem c_105_147 : mm_code 105 147 = some (Instr.ireturn, 1, 0, 0, 0, []) := rfl
theorem c_106_0 : mm_code 106 0 = some (Instr.aload_n 0, 1, 0, 0, 0, []) := rfl
theorem c_106_1 : mm_code 106 1 = some (Instr.iload_n 2, 1, 0, 0, 0, []) := rfl
theorem c_106_2 : mm_code 106 2 = some (Instr.putfield 35, 3, 1, 2, 5, [214]) := rfl
theorem c_106_5 : mm_code 106 5 = some (Instr.iload_n 1, 1, 0, 0, 0, []) := rfl
theorem c_106_6 : mm_code 106 6 = some (Instr.ireturn, 1, 0, 0, 0, []) := rfl
theorem c_107_0 : mm_code 107 0 = some (Instr.aload_n 0, 1, 0, 0, 0, []) := rfl
theorem c_107_1 : mm_code 107 1 = some (Instr.getfield 28, 3, 0, 2, 3, [212]) := rfl
theorem c_107_4 : mm_code 107 4 = some (Instr.invokevirtual 64, 3, 7, 12, 0, [744, 328, 329, 57, 330]) := rfl
theorem c_107_7 : mm_code 107 7 = some (Instr.iconst 0, 1, 0, 0, 0, []) := rfl
theorem c_107_8 : mm_code 107 8 = some (Instr.istore_n 2, 1, 0, 0, 0, []) := rfl
theorem c_107_9 : mm_code 107 9 = some (Instr.iload_n 2, 1, 0, 0, 0, []) := rfl
theorem c_107_10 : mm_code 107 10 = some (Instr.aload_n 1, 1, 0, 0, 0, []) := rfl
theorem c_107_11 : mm_code 107 11 = some (Instr.invokevirtual 39, 3, 7, 13, 0, [732, 332, 333, 57, 334]) := rfl
theorem c_107_14 : mm_code 107 14 = some (Instr.if_icmp .ge 129, 3, 0, 143, 0, []) := rfl
theorem c_107_17 : mm_code 107 17 = some (Instr.aload_n 1, 1, 0, 0, 0, []) := rfl
theorem c_107_18 : mm_code 107 18 = some (Instr.iload_n 2, 1, 0, 0, 0, []) := rfl
theorem c_107_19 : mm_code 107 19 = some (Instr.invokevirtual 43, 3, 7, 17, 1, [733, 350, 351, 57, 352]) := rfl
theorem c_107_22 : mm_code 107 22 = some (Instr.istore_n 3, 1, 0, 0, 0, []) := rfl
theorem c_107_23 : mm_code 107 23 = some (Instr.iload_n 3, 1, 0, 0, 0, []) := rfl
theorem c_107_24 : mm_code 107 24 = some (Instr.sipush 8204, 3, 8204, 0, 0, []) := rfl
theorem c_107_27 : mm_code 107 27 = some (Instr.if_icmp .eq 10, 3, 0, 37, 0, []) := rfl
theorem c_107_30 : mm_code 107 30 = some (Instr.iload_n 3, 1, 0, 0, 0, []) := rfl
theorem c_107_31 : mm_code 107 31 = some (Instr.sipush 8205, 3, 8205, 0, 0, []) := rfl
theorem c_107_34 : mm_code 107 34 = some (Instr.if_icmp .ne 7, 3, 0, 41, 0, []) := rfl
theorem c_107_37 : mm_code 107 37 = some (Instr.iconst 1, 1, 1, 0, 0, []) := rfl
theorem c_107_38 : mm_code 107 38 = some (Instr.goto 4, 3, 0, 42, 0, []) := rfl
theorem c_107_41 : mm_code 107 41 = some (Instr.iconst 0, 1, 0, 0, 0, []) := rfl
theorem c_107_42 : mm_code 107 42 = some (Instr.istore 4, 2, 0, 0, 0, []) := rfl
theorem c_107_44 : mm_code 107 44 = some (Instr.iload 4, 2, 0, 0, 0, []) := rfl
theorem c_107_46 : mm_code 107 46 = some (Instr.ifCond .eq 91, 3, 0, 137, 0, []) := rfl
theorem c_107_49 : mm_code 107 49 = some (Instr.aload_n 0, 1, 0, 0, 0, []) := rfl
theorem c_107_50 : mm_code 107 50 = some (Instr.getfield 15, 3, 0, 2, 1, [210]) := rfl
theorem c_107_53 : mm_code 107 53 = some (Instr.aload_n 1, 1, 0, 0, 0, []) := rfl
theorem c_107_54 : mm_code 107 54 = some (Instr.iload_n 2, 1, 0, 0, 0, []) := rfl
theorem c_107_55 : mm_code 107 55 = some (Instr.iconst 1, 1, 1, 0, 0, []) := rfl
theorem c_107_56 : mm_code 107 56 = some (Instr.isub, 1, 0, 0, 0, []) := rfl
theorem c_107_57 : mm_code 107 57 = some (Instr.invokevirtual 43, 3, 7, 17, 1, [733, 350, 351, 57, 352]) := rfl
theorem c_107_60 : mm_code 107 60 = some (Instr.invokevirtual 67, 3, 6, 54, 1, [745, 501, 502, 60, 503]) := rfl
theorem c_107_63 : mm_code 107 63 = some (Instr.bipush 9, 2, 9, 0, 0, []) := rfl
theorem c_107_65 : mm_code 107 65 = some (Instr.if_icmp .eq 72, 3, 0, 137, 0, []) := rfl
theorem c_107_68 : mm_code 107 68 = some (Instr.aload_n 0, 1, 0, 0, 0, []) := rfl
theorem c_107_69 : mm_code 107 69 = some (Instr.getfield 28, 3, 0, 2, 3, [212]) := rfl
theorem c_107_72 : mm_code 107 72 = some (Instr.invokevirtual 39, 3, 7, 13, 0, [732, 332, 333, 57, 334]) := rfl
theorem c_107_75 : mm_code 107 75 = some (Instr.istore 5, 2, 0, 0, 0, []) := rfl
theorem c_107_77 : mm_code 107 77 = some (Instr.iload 5, 2, 0, 0, 0, []) := rfl
theorem c_107_79 : mm_code 107 79 = some (Instr.aload_n 1, 1, 0, 0, 0, []) := rfl
set_option maxRecDepth 100000 in theorem c_107_80 : mm_code 107 80 = some (Instr.invokevirtual 39, 3, 7, 13, 0, [732, 332, 333, 57, 334]) := rfl
set_option maxRecDepth 100000 in theorem c_107_83 : mm_code 107 83 = some (Instr.if_icmp .ge 31, 3, 0, 114, 0, []) := rfl
set_option maxRecDepth 100000 in theorem c_107_86 : mm_code 107 86 = some (Instr.aload_n 0, 1, 0, 0, 0, []) := rfl
set_option maxRecDepth 100000 in theorem c_107_87 : mm_code 107 87 = some (Instr.getfield 28, 3, 0, 2, 3, [212]) := rfl
set_option maxRecDepth 100000 in theorem c_107_90 : mm_code 107 90 = some (Instr.aload_n 0, 1, 0, 0, 0, []) := rfl
set_option maxRecDepth 100000 in theorem c_107_91 : mm_code 107 91 = some (Instr.getfield 19, 3, 0, 2, 2, [211]) := rfl
set_option maxRecDepth 100000 in theorem c_107_94 : mm_code 107 94 = some (Instr.iconst 2, 1, 2, 0, 0, []) := rfl
set_option maxRecDepth 100000 in theorem c_107_95 : mm_code 107 95 = some (Instr.aload_n 1, 1, 0, 0, 0, []) := rfl
set_option maxRecDepth 100000 in theorem c_107_96 : mm_code 107 96 = some (Instr.iload 5, 2, 0, 0, 0, []) := rfl
set_option maxRecDepth 100000 in theorem c_107_98 : mm_code 107 98 = some (Instr.invokevirtual 43, 3, 7, 17, 1, [733, 350, 351, 57, 352]) := rfl
set_option maxRecDepth 100000 in theorem c_107_101 : mm_code 107 101 = some (Instr.invokevirtual 53, 3, 5, 55, 2, [738, 505, 506, 61, 507]) := rfl
set_option maxRecDepth 100000 in theorem c_107_104 : mm_code 107 104 = some (Instr.invokevirtual 70, 3, 7, 14, 1, [746, 337, 338, 57, 339]) := rfl
set_option maxRecDepth 100000 in theorem c_107_107 : mm_code 107 107 = some (Instr.pop, 1, 0, 0, 0, []) := rfl
set_option maxRecDepth 100000 in theorem c_107_108 : mm_code 107 108 = some (Instr.iinc 5 1, 3, 0, 0, 0, []) := rfl
set_option maxRecDepth 100000 in theorem c_107_111 : mm_code 107 111 = some (Instr.goto (-34), 3, 0, 77, 0, []) := rfl
set_option maxRecDepth 100000 in theorem c_107_114 : mm_code 107 114 = some (Instr.iload_n 3, 1, 0, 0, 0, []) := rfl
set_option maxRecDepth 100000 in theorem c_107_115 : mm_code 107 115 = some (Instr.sipush 8205, 3, 8205, 0, 0, []) := rfl
set_option maxRecDepth 100000 in theorem c_107_118 : mm_code 107 118 = some (Instr.if_icmp .eq 11, 3, 0, 129, 0, []) := rfl
set_option maxRecDepth 100000 in theorem c_107_121 : mm_code 107 121 = some (Instr.aload_n 0, 1, 0, 0, 0, []) := rfl
set_option maxRecDepth 100000 in theorem c_107_122 : mm_code 107 122 = some (Instr.iload_n 2, 1, 0, 0, 0, []) := rfl
set_option maxRecDepth 100000 in theorem c_107_123 : mm_code 107 123 = some (Instr.invokevirtual 74, 3, 2, 108, 1, [747, 749, 17, 64, 750]) := rfl
set_option maxRecDepth 100000 in theorem c_107_126 : mm_code 107 126 = some (Instr.ifCond .ne 11, 3, 0, 137, 0, []) := rfl
set_option maxRecDepth 100000 in theorem c_107_129 : mm_code 107 129 = some (Instr.aload_n 0, 1, 0, 0, 0, []) := rfl
set_option maxRecDepth 100000 in theorem c_107_130 : mm_code 107 130 = some (Instr.bipush 45, 2, 45, 0, 0, []) := rfl
set_option maxRecDepth 100000 in theorem c_107_132 : mm_code 107 132 = some (Instr.iload_n 2, 1, 0, 0, 0, []) := rfl
set_option maxRecDepth 100000 in theorem c_107_133 : mm_code 107 133 = some (Instr.invokevirtual 47, 3, 2, 106, 2, [734, 736, 15, 64, 737]) := rfl
set_option maxRecDepth 100000 in theorem c_107_136 : mm_code 107 136 = some (Instr.ireturn, 1, 0, 0, 0, []) := rfl
set_option maxRecDepth 100000 in theorem c_107_137 : mm_code 107 137 = some (Instr.iinc 2 1, 3, 0, 0, 0, []) := rfl
set_option maxRecDepth 100000 in theorem c_107_140 : mm_code 107 140 = some (Instr.goto (-131), 3, 0, 9, 0, []) := rfl
set_option maxRecDepth 100000 in theorem c_107_143 : mm_code 107 143 = some (Instr.iconst 0, 1, 0, 0, 0, []) := rfl
set_option maxRecDepth 100000 in theorem c_107_144 : mm_code 107 144 = some (Instr.ireturn, 1, 0, 0, 0, []) := rfl
theorem c_108_0 : mm_code 108 0 = some (Instr.iload_n 1, 1, 0, 0, 0, []) := rfl
theorem c_108_1 : mm_code 108 1 = some (Instr.iconst 1, 1, 1, 0, 0, []) := rfl
theorem c_108_2 : mm_code 108 2 = some (Instr.isub, 1, 0, 0, 0, []) := rfl
theorem c_108_3 : mm_code 108 3 = some (Instr.istore_n 2, 1, 0, 0, 0, []) := rfl
theorem c_108_4 : mm_code 108 4 = some (Instr.iload_n 2, 1, 0, 0, 0, []) := rfl
theorem c_108_5 : mm_code 108 5 = some (Instr.ifCond .lt 21, 3, 0, 26, 0, []) := rfl
theorem c_108_8 : mm_code 108 8 = some (Instr.aload_n 0, 1, 0, 0, 0, []) := rfl
theorem c_108_9 : mm_code 108 9 = some (Instr.getfield 28, 3, 0, 2, 3, [212]) := rfl
theorem c_108_12 : mm_code 108 12 = some (Instr.iload_n 2, 1, 0, 0, 0, []) := rfl
theorem c_108_13 : mm_code 108 13 = some (Instr.invokevirtual 43, 3, 7, 17, 1, [733, 350, 351, 57, 352]) := rfl
theorem c_108_16 : mm_code 108 16 = some (Instr.iconst 4, 1, 4, 0, 0, []) := rfl
theorem c_108_17 : mm_code 108 17 = some (Instr.if_icmp .ne 9, 3, 0, 26, 0, []) := rfl
theorem c_108_20 : mm_code 108 20 = some (Instr.iinc 2 (-1), 3, 0, 0, 0, []) := rfl
theorem c_108_23 : mm_code 108 23 = some (Instr.goto (-19), 3, 0, 4, 0, []) := rfl
theorem c_108_26 : mm_code 108 26 = some (Instr.iload_n 1, 1, 0, 0, 0, []) := rfl
theorem c_108_27 : mm_code 108 27 = some (Instr.iconst 1, 1, 1, 0, 0, []) := rfl
theorem c_108_28 : mm_code 108 28 = some (Instr.iadd, 1, 0, 0, 0, []) := rfl
theorem c_108_29 : mm_code 108 29 = some (Instr.istore_n 3, 1, 0, 0, 0, []) := rfl
theorem c_108_30 : mm_code 108 30 = some (Instr.iload_n 3, 1, 0, 0, 0, []) := rfl
theorem c_108_31 : mm_code 108 31 = some (Instr.aload_n 0, 1, 0, 0, 0, []) := rfl
theorem c_108_32 : mm_code 108 32 = some (Instr.getfield 28, 3, 0, 2, 3, [212]) := rfl
theorem c_108_35 : mm_code 108 35 = some (Instr.invokevirtual 39, 3, 7, 13, 0, [732, 332, 333, 57, 334]) := rfl
theorem c_108_38 : mm_code 108 38 = some (Instr.if_icmp .ge 21, 3, 0, 59, 0, []) := rfl
theorem c_108_41 : mm_code 108 41 = some (Instr.aload_n 0, 1, 0, 0, 0, []) := rfl
theorem c_108_42 : mm_code 108 42 = some (Instr.getfield 28, 3, 0, 2, 3, [212]) := rfl
theorem c_108_45 : mm_code 108 45 = some (Instr.iload_n 3, 1, 0, 0, 0, []) := rfl
theorem c_108_46 : mm_code 108 46 = some (Instr.invokevirtual 43, 3, 7, 17, 1, [733, 350, 351, 57, 352]) := rfl
theorem c_108_49 : mm_code 108 49 = some (Instr.iconst 4, 1, 4, 0, 0, []) := rfl
theorem c_108_50 : mm_code 108 50 = some (Instr.if_icmp .ne 9, 3, 0, 59, 0, []) := rfl
theorem c_108_53 : mm_code 108 53 = some (Instr.iinc 3 1, 3, 0, 0, 0, []) := rfl
theorem c_108_56 : mm_code 108 56 = some (Instr.goto (-26), 3, 0, 30, 0, []) := rfl
theorem c_108_59 : mm_code 108 59 = some (Instr.aload_n 0, 1, 0, 0, 0, []) := rfl
theorem c_108_60 : mm_code 108 60 = some (Instr.getfield 28, 3, 0, 2, 3, [212]) := rfl
theorem c_108_63 : mm_code 108 63 = some (Instr.iload_n 2, 1, 0, 0, 0, []) := rfl
theorem c_108_64 : mm_code 108 64 = some (Instr.invokevirtual 43, 3, 7, 17, 1, [733, 350, 351, 57, 352]) := rfl
theorem c_108_67 : mm_code 108 67 = some (Instr.iconst 1, 1, 1, 0, 0, []) := rfl
theorem c_108_68 : mm_code 108 68 = some (Instr.invokestatic 77, 3, 0, 109, 2, [751, 752, 64, 753]) := rfl
theorem c_108_71 : mm_code 108 71 = some (Instr.ifCond .eq 22, 3, 0, 93, 0, []) := rfl
theorem c_108_74 : mm_code 108 74 = some (Instr.aload_n 0, 1, 0, 0, 0, []) := rfl
theorem c_108_75 : mm_code 108 75 = some (Instr.getfield 28, 3, 0, 2, 3, [212]) := rfl
theorem c_108_78 : mm_code 108 78 = some (Instr.iload_n 3, 1, 0, 0, 0, []) := rfl
set_option maxRecDepth 100000 in theorem c_108_79 : mm_code 108 79 = some (Instr.invokevirtual 43, 3, 7, 17, 1, [733, 350, 351, 57, 352]) := rfl
set_option maxRecDepth 100000 in theorem c_108_82 : mm_code 108 82 = some (Instr.iconst 2, 1, 2, 0, 0, []) := rfl
set_option maxRecDepth 100000 in theorem c_108_83 : mm_code 108 83 = some (Instr.invokestatic 77, 3, 0, 109, 2, [751, 752, 64, 753]) := rfl
set_option maxRecDepth 100000 in theorem c_108_86 : mm_code 108 86 = some (Instr.ifCond .eq 7, 3, 0, 93, 0, []) := rfl
set_option maxRecDepth 100000 in theorem c_108_89 : mm_code 108 89 = some (Instr.iconst 1, 1, 1, 0, 0, []) := rfl
set_option maxRecDepth 100000 in theorem c_108_90 : mm_code 108 90 = some (Instr.goto 4, 3, 0, 94, 0, []) := rfl
set_option maxRecDepth 100000 in theorem c_108_93 : mm_code 108 93 = some (Instr.iconst 0, 1, 0, 0, 0, []) := rfl
set_option maxRecDepth 100000 in theorem c_108_94 : mm_code 108 94 = some (Instr.ireturn, 1, 1, 0, 0, []) := rfl
theorem c_109_0 : mm_code 109 0 = some (Instr.iload_n 0, 1, 0, 0, 0, []) := rfl
theorem c_109_1 : mm_code 109 1 = some (Instr.iload_n 1, 1, 0, 0, 0, []) := rfl
theorem c_109_2 : mm_code 109 2 = some (Instr.if_icmp .eq 8, 3, 0, 10, 0, []) := rfl
theorem c_109_5 : mm_code 109 5 = some (Instr.iload_n 0, 1, 0, 0, 0, []) := rfl
theorem c_109_6 : mm_code 109 6 = some (Instr.iconst 3, 1, 3, 0, 0, []) := rfl
theorem c_109_7 : mm_code 109 7 = some (Instr.if_icmp .ne 7, 3, 0, 14, 0, []) := rfl
theorem c_109_10 : mm_code 109 10 = some (Instr.iconst 1, 1, 1, 0, 0, []) := rfl
theorem c_109_11 : mm_code 109 11 = some (Instr.goto 4, 3, 0, 15, 0, []) := rfl
theorem c_109_14 : mm_code 109 14 = some (Instr.iconst 0, 1, 0, 0, 0, []) := rfl
theorem c_109_15 : mm_code 109 15 = some (Instr.ireturn, 1, 1, 0, 0, []) := rfl
theorem c_110_0 : mm_code 110 0 = some (Instr.aload_n 0, 1, 0, 0, 0, []) := rfl
theorem c_110_1 : mm_code 110 1 = some (Instr.getfield 35, 3, 0, 2, 5, [214]) := rfl
theorem c_110_4 : mm_code 110 4 = some (Instr.ireturn, 1, 0, 0, 0, []) := rfl
theorem c_111_0 : mm_code 111 0 = some (Instr.aload_n 0, 1, 0, 0, 0, []) := rfl
theorem c_111_1 : mm_code 111 1 = some (Instr.getfield 24, 3, 0, 3, 2, [244]) := rfl
theorem c_111_4 : mm_code 111 4 = some (Instr.aload_n 0, 1, 0, 0, 0, []) := rfl
theorem c_111_5 : mm_code 111 5 = some (Instr.getfield 20, 3, 0, 3, 1, [243]) := rfl
theorem c_111_8 : mm_code 111 8 = some (Instr.arraylength, 1, 0, 0, 0, []) := rfl
theorem c_111_9 : mm_code 111 9 = some (Instr.if_icmp .ge 45, 3, 0, 54, 0, []) := rfl
theorem c_111_12 : mm_code 111 12 = some (Instr.aload_n 0, 1, 0, 0, 0, []) := rfl
theorem c_111_13 : mm_code 111 13 = some (Instr.getfield 14, 3, 0, 3, 0, [242]) := rfl
theorem c_111_16 : mm_code 111 16 = some (Instr.aload_n 1, 1, 0, 0, 0, []) := rfl
theorem c_111_17 : mm_code 111 17 = some (Instr.iconst 0, 1, 0, 0, 0, []) := rfl
theorem c_111_18 : mm_code 111 18 = some (Instr.aload_n 1, 1, 0, 0, 0, []) := rfl
theorem c_111_19 : mm_code 111 19 = some (Instr.invokevirtual 31, 3, 7, 13, 0, [762, 332, 333, 57, 334]) := rfl
theorem c_111_22 : mm_code 111 22 = some (Instr.invokevirtual 35, 3, 7, 24, 3, [763, 376, 377, 57, 378]) := rfl
theorem c_111_25 : mm_code 111 25 = some (Instr.ifCond .eq 29, 3, 0, 54, 0, []) := rfl
theorem c_111_28 : mm_code 111 28 = some (Instr.aload_n 0, 1, 0, 0, 0, []) := rfl
theorem c_111_29 : mm_code 111 29 = some (Instr.getfield 20, 3, 0, 3, 1, [243]) := rfl
theorem c_111_32 : mm_code 111 32 = some (Instr.aload_n 0, 1, 0, 0, 0, []) := rfl
theorem c_111_33 : mm_code 111 33 = some (Instr.getfield 24, 3, 0, 3, 2, [244]) := rfl
theorem c_111_36 : mm_code 111 36 = some (Instr.aload_n 0, 1, 0, 0, 0, []) := rfl
theorem c_111_37 : mm_code 111 37 = some (Instr.getfield 14, 3, 0, 3, 0, [242]) := rfl
theorem c_111_40 : mm_code 111 40 = some (Instr.invokevirtual 31, 3, 7, 13, 0, [762, 332, 333, 57, 334]) := rfl
theorem c_111_43 : mm_code 111 43 = some (Instr.iastore, 1, 0, 0, 0, []) := rfl
theorem c_111_44 : mm_code 111 44 = some (Instr.aload_n 0, 1, 0, 0, 0, []) := rfl
theorem c_111_45 : mm_code 111 45 = some (Instr.dup, 1, 0, 0, 0, []) := rfl
theorem c_111_46 : mm_code 111 46 = some (Instr.getfield 24, 3, 0, 3, 2, [244]) := rfl
theorem c_111_49 : mm_code 111 49 = some (Instr.iconst 1, 1, 1, 0, 0, []) := rfl
theorem c_111_50 : mm_code 111 50 = some (Instr.iadd, 1, 0, 0, 0, []) := rfl
theorem c_111_51 : mm_code 111 51 = some (Instr.putfield 24, 3, 1, 3, 2, [244]) := rfl
theorem c_111_54 : mm_code 111 54 = some (Instr.return_, 1, 0, 0, 0, []) := rfl
theorem c_112_0 : mm_code 112 0 = some (Instr.aload_n 0, 1, 0, 0, 0, []) := rfl
theorem c_112_1 : mm_code 112 1 = some (Instr.getfield 19, 3, 0, 0, 2, [254]) := rfl
theorem c_112_4 : mm_code 112 4 = some (Instr.aload_n 0, 1, 0, 0, 0, []) := rfl
theorem c_112_5 : mm_code 112 5 = some (Instr.getfield 41, 3, 0, 0, 6, [258]) := rfl
theorem c_112_8 : mm_code 112 8 = some (Instr.invokevirtual 172, 3, 3, 113, 0, [768, 769, 770, 65, 771]) := rfl
theorem c_112_11 : mm_code 112 11 = some (Instr.invokevirtual 175, 3, 2, 114, 1, [772, 773, 774, 64, 775]) := rfl
theorem c_112_14 : mm_code 112 14 = some (Instr.ifCond .ne 5, 3, 0, 19, 0, []) := rfl
theorem c_112_17 : mm_code 112 17 = some (Instr.iconst 1, 1, 1, 0, 0, []) := rfl
theorem c_112_18 : mm_code 112 18 = some (Instr.ireturn, 1, 1, 0, 0, []) := rfl
theorem c_112_19 : mm_code 112 19 = some (Instr.iconst 0, 1, 0, 0, 0, []) := rfl
theorem c_112_20 : mm_code 112 20 = some (Instr.istore_n 1, 1, 0, 0, 0, []) := rfl
theorem c_112_21 : mm_code 112 21 = some (Instr.iload_n 1, 1, 0, 0, 0, []) := rfl
theorem c_112_22 : mm_code 112 22 = some (Instr.aload_n 0, 1, 0, 0, 0, []) := rfl
theorem c_112_23 : mm_code 112 23 = some (Instr.getfield 41, 3, 0, 0, 6, [258]) := rfl
theorem c_112_26 : mm_code 112 26 = some (Instr.invokevirtual 73, 3, 3, 102, 0, [713, 714, 715, 65, 716]) := rfl
theorem c_112_29 : mm_code 112 29 = some (Instr.if_icmp .ge 57, 3, 0, 86, 0, []) := rfl
theorem c_112_32 : mm_code 112 32 = some (Instr.aload_n 0, 1, 0, 0, 0, []) := rfl
theorem c_112_33 : mm_code 112 33 = some (Instr.getfield 41, 3, 0, 0, 6, [258]) := rfl
theorem c_112_36 : mm_code 112 36 = some (Instr.iload_n 1, 1, 0, 0, 0, []) := rfl
theorem c_112_37 : mm_code 112 37 = some (Instr.invokevirtual 178, 3, 3, 116, 1, [779, 780, 781, 65, 782]) := rfl
theorem c_112_40 : mm_code 112 40 = some (Instr.ifCond .ne 40, 3, 0, 80, 0, []) := rfl
theorem c_112_43 : mm_code 112 43 = some (Instr.aload_n 0, 1, 0, 0, 0, []) := rfl
theorem c_112_44 : mm_code 112 44 = some (Instr.getfield 19, 3, 0, 0, 2, [254]) := rfl
theorem c_112_47 : mm_code 112 47 = some (Instr.aload_n 0, 1, 0, 0, 0, []) := rfl
theorem c_112_48 : mm_code 112 48 = some (Instr.getfield 41, 3, 0, 0, 6, [258]) := rfl
theorem c_112_51 : mm_code 112 51 = some (Instr.iload_n 1, 1, 0, 0, 0, []) := rfl
theorem c_112_52 : mm_code 112 52 = some (Instr.invokevirtual 181, 3, 3, 117, 1, [791, 784, 785, 65, 786]) := rfl
theorem c_112_55 : mm_code 112 55 = some (Instr.aload_n 0, 1, 0, 0, 0, []) := rfl
theorem c_112_56 : mm_code 112 56 = some (Instr.getfield 41, 3, 0, 0, 6, [258]) := rfl
theorem c_112_59 : mm_code 112 59 = some (Instr.iload_n 1, 1, 0, 0, 0, []) := rfl
theorem c_112_60 : mm_code 112 60 = some (Instr.invokevirtual 184, 3, 3, 118, 1, [792, 788, 789, 65, 790]) := rfl
theorem c_112_63 : mm_code 112 63 = some (Instr.invokevirtual 187, 3, 2, 119, 2, [793, 794, 795, 64, 796]) := rfl
theorem c_112_66 : mm_code 112 66 = some (Instr.istore_n 2, 1, 0, 0, 0, []) := rfl
theorem c_112_67 : mm_code 112 67 = some (Instr.iload_n 2, 1, 0, 0, 0, []) := rfl
theorem c_112_68 : mm_code 112 68 = some (Instr.ifCond .lt 12, 3, 0, 80, 0, []) := rfl
theorem c_112_71 : mm_code 112 71 = some (Instr.aload_n 0, 1, 0, 0, 0, []) := rfl
theorem c_112_72 : mm_code 112 72 = some (Instr.bipush 46, 2, 46, 0, 0, []) := rfl
theorem c_112_74 : mm_code 112 74 = some (Instr.iload_n 1, 1, 0, 0, 0, []) := rfl
theorem c_112_75 : mm_code 112 75 = some (Instr.iload_n 2, 1, 0, 0, 0, []) := rfl
theorem c_112_76 : mm_code 112 76 = some (Instr.invokevirtual 113, 3, 0, 95, 3, [678, 680, 8, 63, 681]) := rfl
theorem c_112_79 : mm_code 112 79 = some (Instr.ireturn, 1, 1, 0, 0, []) := rfl
set_option maxRecDepth 100000 in theorem c_112_80 : mm_code 112 80 = some (Instr.iinc 1 1, 3, 0, 0, 0, []) := rfl
set_option maxRecDepth 100000 in theorem c_112_83 : mm_code 112 83 = some (Instr.goto (-62), 3, 0, 21, 0, []) := rfl
set_option maxRecDepth 100000 in theorem c_112_86 : mm_code 112 86 = some (Instr.iconst 1, 1, 1, 0, 0, []) := rfl
set_option maxRecDepth 100000 in theorem c_112_87 : mm_code 112 87 = some (Instr.ireturn, 1, 1, 0, 0, []) := rfl
theorem c_113_0 : mm_code 113 0 = some (Instr.aload_n 0, 1, 0, 0, 0, []) := rfl
theorem c_113_1 : mm_code 113 1 = some (Instr.getfield 14, 3, 0, 3, 0, [242]) := rfl
theorem c_113_4 : mm_code 113 4 = some (Instr.areturn, 1, 0, 0, 0, []) := rfl
theorem c_114_0 : mm_code 114 0 = some (Instr.aload_n 0, 1, 0, 0, 0, []) := rfl
theorem c_114_1 : mm_code 114 1 = some (Instr.getfield 32, 3, 0, 2, 4, [213]) := rfl
theorem c_114_4 : mm_code 114 4 = some (Instr.invokevirtual 64, 3, 7, 12, 0, [744, 328, 329, 57, 330]) := rfl
theorem c_114_7 : mm_code 114 7 = some (Instr.iconst 0, 1, 0, 0, 0, []) := rfl
theorem c_114_8 : mm_code 114 8 = some (Instr.istore_n 2, 1, 0, 0, 0, []) := rfl
theorem c_114_9 : mm_code 114 9 = some (Instr.iconst 0, 1, 0, 0, 0, []) := rfl
theorem c_114_10 : mm_code 114 10 = some (Instr.istore_n 3, 1, 0, 0, 0, []) := rfl
theorem c_114_11 : mm_code 114 11 = some (Instr.iload_n 3, 1, 0, 0, 0, []) := rfl
theorem c_114_12 : mm_code 114 12 = some (Instr.aload_n 1, 1, 0, 0, 0, []) := rfl
theorem c_114_13 : mm_code 114 13 = some (Instr.invokevirtual 39, 3, 7, 13, 0, [732, 332, 333, 57, 334]) := rfl
theorem c_114_16 : mm_code 114 16 = some (Instr.if_icmp .ge 54, 3, 0, 70, 0, []) := rfl
theorem c_114_19 : mm_code 114 19 = some (Instr.aload_n 0, 1, 0, 0, 0, []) := rfl
theorem c_114_20 : mm_code 114 20 = some (Instr.getfield 19, 3, 0, 2, 2, [211]) := rfl
theorem c_114_23 : mm_code 114 23 = some (Instr.iconst 1, 1, 1, 0, 0, []) := rfl
theorem c_114_24 : mm_code 114 24 = some (Instr.aload_n 1, 1, 0, 0, 0, []) := rfl
theorem c_114_25 : mm_code 114 25 = some (Instr.iload_n 3, 1, 0, 0, 0, []) := rfl
theorem c_114_26 : mm_code 114 26 = some (Instr.invokevirtual 43, 3, 7, 17, 1, [733, 350, 351, 57, 352]) := rfl
theorem c_114_29 : mm_code 114 29 = some (Instr.invokevirtual 53, 3, 5, 55, 2, [738, 505, 506, 61, 507]) := rfl
theorem c_114_32 : mm_code 114 32 = some (Instr.istore 4, 2, 0, 0, 0, []) := rfl
theorem c_114_34 : mm_code 114 34 = some (Instr.aload_n 0, 1, 0, 0, 0, []) := rfl
theorem c_114_35 : mm_code 114 35 = some (Instr.getfield 32, 3, 0, 2, 4, [213]) := rfl
theorem c_114_38 : mm_code 114 38 = some (Instr.iload 4, 2, 0, 0, 0, []) := rfl
theorem c_114_40 : mm_code 114 40 = some (Instr.invokevirtual 70, 3, 7, 14, 1, [746, 337, 338, 57, 339]) := rfl
theorem c_114_43 : mm_code 114 43 = some (Instr.pop, 1, 0, 0, 0, []) := rfl
theorem c_114_44 : mm_code 114 44 = some (Instr.iload_n 2, 1, 0, 0, 0, []) := rfl
theorem c_114_45 : mm_code 114 45 = some (Instr.ifCond .ne 13, 3, 0, 58, 0, []) := rfl
theorem c_114_48 : mm_code 114 48 = some (Instr.iload 4, 2, 0, 0, 0, []) := rfl
theorem c_114_50 : mm_code 114 50 = some (Instr.bipush 14, 2, 14, 0, 0, []) := rfl
theorem c_114_52 : mm_code 114 52 = some (Instr.invokestatic 81, 3, 0, 115, 2, [776, 777, 64, 778]) := rfl
theorem c_114_55 : mm_code 114 55 = some (Instr.ifCond .eq 7, 3, 0, 62, 0, []) := rfl
theorem c_114_58 : mm_code 114 58 = some (Instr.iconst 1, 1, 1, 0, 0, []) := rfl
theorem c_114_59 : mm_code 114 59 = some (Instr.goto 4, 3, 0, 63, 0, []) := rfl
theorem c_114_62 : mm_code 114 62 = some (Instr.iconst 0, 1, 0, 0, 0, []) := rfl
theorem c_114_63 : mm_code 114 63 = some (Instr.istore_n 2, 1, 0, 0, 0, []) := rfl
theorem c_114_64 : mm_code 114 64 = some (Instr.iinc 3 1, 3, 0, 0, 0, []) := rfl
theorem c_114_67 : mm_code 114 67 = some (Instr.goto (-56), 3, 0, 11, 0, []) := rfl
theorem c_114_70 : mm_code 114 70 = some (Instr.iload_n 2, 1, 0, 0, 0, []) := rfl
theorem c_114_71 : mm_code 114 71 = some (Instr.ireturn, 1, 1, 0, 0, []) := rfl
theorem c_115_0 : mm_code 115 0 = some (Instr.iload_n 0, 1, 0, 0, 0, []) := rfl
theorem c_115_1 : mm_code 115 1 = some (Instr.ifCond .lt 16, 3, 0, 17, 0, []) := rfl
theorem c_115_4 : mm_code 115 4 = some (Instr.iload_n 1, 1, 0, 0, 0, []) := rfl
theorem c_115_5 : mm_code 115 5 = some (Instr.iload_n 0, 1, 0, 0, 0, []) := rfl
theorem c_115_6 : mm_code 115 6 = some (Instr.ishr, 1, 0, 0, 0, []) := rfl
theorem c_115_7 : mm_code 115 7 = some (Instr.iconst 1, 1, 1, 0, 0, []) := rfl
theorem c_115_8 : mm_code 115 8 = some (Instr.iand, 1, 0, 0, 0, []) := rfl
theorem c_115_9 : mm_code 115 9 = some (Instr.iconst 1, 1, 1, 0, 0, []) := rfl
theorem c_115_10 : mm_code 115 10 = some (Instr.if_icmp .ne 7, 3, 0, 17, 0, []) := rfl
theorem c_115_13 : mm_code 115 13 = some (Instr.iconst 1, 1, 1, 0, 0, []) := rfl
theorem c_115_14 : mm_code 115 14 = some (Instr.goto 4, 3, 0, 18, 0, []) := rfl
theorem c_115_17 : mm_code 115 17 = some (Instr.iconst 0, 1, 0, 0, 0, []) := rfl
theorem c_115_18 : mm_code 115 18 = some (Instr.ireturn, 1, 1, 0, 0, []) := rfl
theorem c_116_0 : mm_code 116 0 = some (Instr.aload_n 0, 1, 0, 0, 0, []) := rfl
theorem c_116_1 : mm_code 116 1 = some (Instr.iload_n 1, 1, 0, 0, 0, []) := rfl
theorem c_116_2 : mm_code 116 2 = some (Instr.invokevirtual 39, 3, 3, 117, 1, [783, 784, 785, 65, 786]) := rfl
theorem c_116_5 : mm_code 116 5 = some (Instr.aload_n 0, 1, 0, 0, 0, []) := rfl
theorem c_116_6 : mm_code 116 6 = some (Instr.iload_n 1, 1, 0, 0, 0, []) := rfl
theorem c_116_7 : mm_code 116 7 = some (Instr.invokevirtual 43, 3, 3, 118, 1, [787, 788, 789, 65, 790]) := rfl
theorem c_116_10 : mm_code 116 10 = some (Instr.if_icmp .ne 7, 3, 0, 17, 0, []) := rfl
theorem c_116_13 : mm_code 116 13 = some (Instr.iconst 1, 1, 1, 0, 0, []) := rfl
theorem c_116_14 : mm_code 116 14 = some (Instr.goto 4, 3, 0, 18, 0, []) := rfl
theorem c_116_17 : mm_code 116 17 = some (Instr.iconst 0, 1, 0, 0, 0, []) := rfl
theorem c_116_18 : mm_code 116 18 = some (Instr.ireturn, 1, 1, 0, 0, []) := rfl
theorem c_117_0 : mm_code 117 0 = some (Instr.iload_n 1, 1, 0, 0, 0, []) := rfl
theorem c_117_1 : mm_code 117 1 = some (Instr.ifCond .le 22, 3, 0, 23, 0, []) := rfl
theorem c_117_4 : mm_code 117 4 = some (Instr.iload_n 1, 1, 0, 0, 0, []) := rfl
theorem c_117_5 : mm_code 117 5 = some (Instr.aload_n 0, 1, 0, 0, 0, []) := rfl
theorem c_117_6 : mm_code 117 6 = some (Instr.getfield 24, 3, 0, 3, 2, [244]) := rfl
theorem c_117_9 : mm_code 117 9 = some (Instr.if_icmp .gt 14, 3, 0, 23, 0, []) := rfl
theorem c_117_12 : mm_code 117 12 = some (Instr.aload_n 0, 1, 0, 0, 0, []) := rfl
theorem c_117_13 : mm_code 117 13 = some (Instr.getfield 20, 3, 0, 3, 1, [243]) := rfl
theorem c_117_16 : mm_code 117 16 = some (Instr.iload_n 1, 1, 0, 0, 0, []) := rfl
theorem c_117_17 : mm_code 117 17 = some (Instr.iconst 1, 1, 1, 0, 0, []) := rfl
theorem c_117_18 : mm_code 117 18 = some (Instr.isub, 1, 0, 0, 0, []) := rfl
theorem c_117_19 : mm_code 117 19 = some (Instr.iaload, 1, 0, 0, 0, []) := rfl
theorem c_117_20 : mm_code 117 20 = some (Instr.goto 4, 3, 0, 24, 0, []) := rfl
theorem c_117_23 : mm_code 117 23 = some (Instr.iconst 0, 1, 0, 0, 0, []) := rfl
theorem c_117_24 : mm_code 117 24 = some (Instr.ireturn, 1, 0, 0, 0, []) := rfl
theorem c_118_0 : mm_code 118 0 = some (Instr.iload_n 1, 1, 0, 0, 0, []) := rfl
theorem c_118_1 : mm_code 118 1 = some (Instr.ifCond .lt 20, 3, 0, 21, 0, []) := rfl
theorem c_118_4 : mm_code 118 4 = some (Instr.iload_n 1, 1, 0, 0, 0, []) := rfl
theorem c_118_5 : mm_code 118 5 = some (Instr.aload_n 0, 1, 0, 0, 0, []) := rfl
theorem c_118_6 : mm_code 118 6 = some (Instr.getfield 24, 3, 0, 3, 2, [244]) := rfl
theorem c_118_9 : mm_code 118 9 = some (Instr.if_icmp .ge 12, 3, 0, 21, 0, []) := rfl
theorem c_118_12 : mm_code 118 12 = some (Instr.aload_n 0, 1, 0, 0, 0, []) := rfl
theorem c_118_13 : mm_code 118 13 = some (Instr.getfield 20, 3, 0, 3, 1, [243]) := rfl
theorem c_118_16 : mm_code 118 16 = some (Instr.iload_n 1, 1, 0, 0, 0, []) := rfl
theorem c_118_17 : mm_code 118 17 = some (Instr.iaload, 1, 0, 0, 0, []) := rfl
theorem c_118_18 : mm_code 118 18 = some (Instr.goto 10, 3, 0, 28, 0, []) := rfl
theorem c_118_21 : mm_code 118 21 = some (Instr.aload_n 0, 1, 0, 0, 0, []) := rfl
theorem c_118_22 : mm_code 118 22 = some (Instr.getfield 14, 3, 0, 3, 0, [242]) := rfl
theorem c_118_25 : mm_code 118 25 = some (Instr.invokevirtual 31, 3, 7, 13, 0, [762, 332, 333, 57, 334]) := rfl
theorem c_118_28 : mm_code 118 28 = some (Instr.ireturn, 1, 0, 0, 0, []) := rfl
theorem c_119_0 : mm_code 119 0 = some (Instr.aload_n 0, 1, 0, 0, 0, []) := rfl
theorem c_119_1 : mm_code 119 1 = some (Instr.getfield 32, 3, 0, 2, 4, [213]) := rfl
theorem c_119_4 : mm_code 119 4 = some (Instr.iload_n 1, 1, 0, 0, 0, []) := rfl
theorem c_119_5 : mm_code 119 5 = some (Instr.invokevirtual 43, 3, 7, 17, 1, [733, 350, 351, 57, 352]) := rfl
theorem c_119_8 : mm_code 119 8 = some (Instr.istore_n 3, 1, 0, 0, 0, []) := rfl
theorem c_119_9 : mm_code 119 9 = some (Instr.iload_n 3, 1, 0, 0, 0, []) := rfl
theorem c_119_10 : mm_code 119 10 = some (Instr.bipush 7, 2, 7, 0, 0, []) := rfl
theorem c_119_12 : mm_code 119 12 = some (Instr.invokestatic 81, 3, 0, 115, 2, [776, 777, 64, 778]) := rfl
theorem c_119_15 : mm_code 119 15 = some (Instr.ifCond .ne 5, 3, 0, 20, 0, []) := rfl
theorem c_119_18 : mm_code 119 18 = some (Instr.iconst 0, 1, 0, 0, 0, []) := rfl
theorem c_119_19 : mm_code 119 19 = some (Instr.ireturn, 1, 0, 0, 0, []) := rfl
theorem c_119_20 : mm_code 119 20 = some (Instr.iload_n 3, 1, 0, 0, 0, []) := rfl
theorem c_119_21 : mm_code 119 21 = some (Instr.bipush 6, 2, 6, 0, 0, []) := rfl
theorem c_119_23 : mm_code 119 23 = some (Instr.invokestatic 81, 3, 0, 115, 2, [776, 777, 64, 778]) := rfl
theorem c_119_26 : mm_code 119 26 = some (Instr.istore 4, 2, 0, 0, 0, []) := rfl
theorem c_119_28 : mm_code 119 28 = some (Instr.sipush 2032, 3, 2032, 0, 0, []) := rfl
theorem c_119_31 : mm_code 119 31 = some (Instr.iload 4, 2, 0, 0, 0, []) := rfl
theorem c_119_33 : mm_code 119 33 = some (Instr.ifCond .eq 8, 3, 0, 41, 0, []) := rfl
theorem c_119_36 : mm_code 119 36 = some (Instr.bipush 14, 2, 14, 0, 0, []) := rfl
theorem c_119_38 : mm_code 119 38 = some (Instr.goto 4, 3, 0, 42, 0, []) := rfl
theorem c_119_41 : mm_code 119 41 = some (Instr.iconst 1, 1, 1, 0, 0, []) := rfl
theorem c_119_42 : mm_code 119 42 = some (Instr.ior, 1, 0, 0, 0, []) := rfl
theorem c_119_43 : mm_code 119 43 = some (Instr.istore 5, 2, 0, 0, 0, []) := rfl
theorem c_119_45 : mm_code 119 45 = some (Instr.iload_n 1, 1, 0, 0, 0, []) := rfl
theorem c_119_46 : mm_code 119 46 = some (Instr.istore 6, 2, 0, 0, 0, []) := rfl
theorem c_119_48 : mm_code 119 48 = some (Instr.iload 6, 2, 0, 0, 0, []) := rfl
theorem c_119_50 : mm_code 119 50 = some (Instr.iload_n 2, 1, 0, 0, 0, []) := rfl
theorem c_119_51 : mm_code 119 51 = some (Instr.if_icmp .ge 31, 3, 0, 82, 0, []) := rfl
theorem c_119_54 : mm_code 119 54 = some (Instr.aload_n 0, 1, 0, 0, 0, []) := rfl
theorem c_119_55 : mm_code 119 55 = some (Instr.getfield 32, 3, 0, 2, 4, [213]) := rfl
theorem c_119_58 : mm_code 119 58 = some (Instr.iload 6, 2, 0, 0, 0, []) := rfl
theorem c_119_60 : mm_code 119 60 = some (Instr.invokevirtual 43, 3, 7, 17, 1, [733, 350, 351, 57, 352]) := rfl
theorem c_119_63 : mm_code 119 63 = some (Instr.iload 5, 2, 0, 0, 0, []) := rfl
theorem c_119_65 : mm_code 119 65 = some (Instr.invokestatic 81, 3, 0, 115, 2, [776, 777, 64, 778]) := rfl
theorem c_119_68 : mm_code 119 68 = some (Instr.ifCond .ne 8, 3, 0, 76, 0, []) := rfl
theorem c_119_71 : mm_code 119 71 = some (Instr.iload 6, 2, 0, 0, 0, []) := rfl
theorem c_119_73 : mm_code 119 73 = some (Instr.iload_n 1, 1, 0, 0, 0, []) := rfl
theorem c_119_74 : mm_code 119 74 = some (Instr.isub, 1, 0, 0, 0, []) := rfl
theorem c_119_75 : mm_code 119 75 = some (Instr.ireturn, 1, 0, 0, 0, []) := rfl
theorem c_119_76 : mm_code 119 76 = some (Instr.iinc 6 1, 3, 0, 0, 0, []) := rfl
theorem c_119_79 : mm_code 119 79 = some (Instr.goto (-31), 3, 0, 48, 0, []) := rfl
set_option maxRecDepth 100000 in theorem c_119_82 : mm_code 119 82 = some (Instr.iload_n 2, 1, 0, 0, 0, []) := rfl
set_option maxRecDepth 100000 in theorem c_119_83 : mm_code 119 83 = some (Instr.iconst 1, 1, 1, 0, 0, []) := rfl
set_option maxRecDepth 100000 in theorem c_119_84 : mm_code 119 84 = some (Instr.isub, 1, 0, 0, 0, []) := rfl
set_option maxRecDepth 100000 in theorem c_119_85 : mm_code 119 85 = some (Instr.istore 6, 2, 0, 0, 0, []) := rfl
set_option maxRecDepth 100000 in theorem c_119_87 : mm_code 119 87 = some (Instr.iload 6, 2, 0, 0, 0, []) := rfl
set_option maxRecDepth 100000 in theorem c_119_89 : mm_code 119 89 = some (Instr.iload_n 1, 1, 0, 0, 0, []) := rfl
set_option maxRecDepth 100000 in theorem c_119_90 : mm_code 119 90 = some (Instr.if_icmp .le 27, 3, 0, 117, 0, []) := rfl
set_option maxRecDepth 100000 in theorem c_119_93 : mm_code 119 93 = some (Instr.aload_n 0, 1, 0, 0, 0, []) := rfl
set_option maxRecDepth 100000 in theorem c_119_94 : mm_code 119 94 = some (Instr.getfield 32, 3, 0, 2, 4, [213]) := rfl
set_option maxRecDepth 100000 in theorem c_119_97 : mm_code 119 97 = some (Instr.iload 6, 2, 0, 0, 0, []) := rfl
set_option maxRecDepth 100000 in theorem c_119_99 : mm_code 119 99 = some (Instr.invokevirtual 43, 3, 7, 17, 1, [733, 350, 351, 57, 352]) := rfl
set_option maxRecDepth 100000 in theorem c_119_102 : mm_code 119 102 = some (Instr.sipush 1024, 3, 1024, 0, 0, []) := rfl
set_option maxRecDepth 100000 in theorem c_119_105 : mm_code 119 105 = some (Instr.invokestatic 81, 3, 0, 115, 2, [776, 777, 64, 778]) := rfl
set_option maxRecDepth 100000 in theorem c_119_108 : mm_code 119 108 = some (Instr.ifCond .eq 9, 3, 0, 117, 0, []) := rfl
set_option maxRecDepth 100000 in theorem c_119_111 : mm_code 119 111 = some (Instr.iinc 6 (-1), 3, 0, 0, 0, []) := rfl
set_option maxRecDepth 100000 in theorem c_119_114 : mm_code 119 114 = some (Instr.goto (-27), 3, 0, 87, 0, []) := rfl
set_option maxRecDepth 100000 in theorem c_119_117 : mm_code 119 117 = some (Instr.aload_n 0, 1, 0, 0, 0, []) := rfl
set_option maxRecDepth 100000 in theorem c_119_118 : mm_code 119 118 = some (Instr.getfield 32, 3, 0, 2, 4, [213]) := rfl
set_option maxRecDepth 100000 in theorem c_119_121 : mm_code 119 121 = some (Instr.iload 6, 2, 0, 0, 0, []) := rfl
set_option maxRecDepth 100000 in theorem c_119_123 : mm_code 119 123 = some (Instr.invokevirtual 43, 3, 7, 17, 1, [733, 350, 351, 57, 352]) := rfl
set_option maxRecDepth 100000 in theorem c_119_126 : mm_code 119 126 = some (Instr.iload 4, 2, 0, 0, 0, []) := rfl
set_option maxRecDepth 100000 in theorem c_119_128 : mm_code 119 128 = some (Instr.ifCond .eq 8, 3, 0, 136, 0, []) := rfl
set_option maxRecDepth 100000 in theorem c_119_131 : mm_code 119 131 = some (Instr.bipush 30, 2, 30, 0, 0, []) := rfl
set_option maxRecDepth 100000 in theorem c_119_133 : mm_code 119 133 = some (Instr.goto 5, 3, 0, 138, 0, []) := rfl
set_option maxRecDepth 100000 in theorem c_119_136 : mm_code 119 136 = some (Instr.bipush 17, 2, 17, 0, 0, []) := rfl
set_option maxRecDepth 100000 in theorem c_119_138 : mm_code 119 138 = some (Instr.invokestatic 81, 3, 0, 115, 2, [776, 777, 64, 778]) := rfl
set_option maxRecDepth 100000 in theorem c_119_141 : mm_code 119 141 = some (Instr.ifCond .ne 8, 3, 0, 149, 0, []) := rfl
set_option maxRecDepth 100000 in theorem c_119_144 : mm_code 119 144 = some (Instr.iload 6, 2, 0, 0, 0, []) := rfl
set_option maxRecDepth 100000 in theorem c_119_146 : mm_code 119 146 = some (Instr.iload_n 1, 1, 0, 0, 0, []) := rfl
set_option maxRecDepth 100000 in theorem c_119_147 : mm_code 119 147 = some (Instr.isub, 1, 0, 0, 0, []) := rfl
set_option maxRecDepth 100000 in theorem c_119_148 : mm_code 119 148 = some (Instr.ireturn, 1, 0, 0, 0, []) := rfl
set_option maxRecDepth 100000 in theorem c_119_149 : mm_code 119 149 = some (Instr.iload 4, 2, 0, 0, 0, []) := rfl
set_option maxRecDepth 100000 in theorem c_119_151 : mm_code 119 151 = some (Instr.ifCond .eq 12, 3, 0, 163, 0, []) := rfl
set_option maxRecDepth 100000 in theorem c_119_154 : mm_code 119 154 = some (Instr.aload_n 0, 1, 0, 0, 0, []) := rfl
set_option maxRecDepth 100000 in theorem c_119_155 : mm_code 119 155 = some (Instr.iload_n 1, 1, 0, 0, 0, []) := rfl
set_option maxRecDepth 100000 in theorem c_119_156 : mm_code 119 156 = some (Instr.iload_n 2, 1, 0, 0, 0, []) := rfl
set_option maxRecDepth 100000 in theorem c_119_157 : mm_code 119 157 = some (Instr.invokevirtual 84, 3, 2, 120, 2, [797, 799, 19, 64, 800]) := rfl
set_option maxRecDepth 100000 in theorem c_119_160 : mm_code 119 160 = some (Instr.goto 4, 3, 0, 164, 0, []) := rfl
set_option maxRecDepth 100000 in theorem c_119_163 : mm_code 119 163 = some (Instr.iconst (-1), 1, (-1), 0, 0, []) := rfl
set_option maxRecDepth 100000 in theorem c_119_164 : mm_code 119 164 = some (Instr.ireturn, 1, 0, 0, 0, []) := rfl
theorem c_120_0 : mm_code 120 0 = some (Instr.iconst (-1), 1, (-1), 0, 0, []) := rfl
theorem c_120_1 : mm_code 120 1 = some (Instr.istore_n 3, 1, 0, 0, 0, []) := rfl
theorem c_120_2 : mm_code 120 2 = some (Instr.iload_n 1, 1, 0, 0, 0, []) := rfl
theorem c_120_3 : mm_code 120 3 = some (Instr.istore 4, 2, 0, 0, 0, []) := rfl
theorem c_120_5 : mm_code 120 5 = some (Instr.iload 4, 2, 0, 0, 0, []) := rfl
theorem c_120_7 : mm_code 120 7 = some (Instr.iload_n 2, 1, 0, 0, 0, []) := rfl
theorem c_120_8 : mm_code 120 8 = some (Instr.if_icmp .ge 48, 3, 0, 56, 0, []) := rfl
theorem c_120_11 : mm_code 120 11 = some (Instr.aload_n 0, 1, 0, 0, 0, []) := rfl
theorem c_120_12 : mm_code 120 12 = some (Instr.getfield 32, 3, 0, 2, 4, [213]) := rfl
theorem c_120_15 : mm_code 120 15 = some (Instr.iload 4, 2, 0, 0, 0, []) := rfl
theorem c_120_17 : mm_code 120 17 = some (Instr.invokevirtual 43, 3, 7, 17, 1, [733, 350, 351, 57, 352]) := rfl
theorem c_120_20 : mm_code 120 20 = some (Instr.istore 5, 2, 0, 0, 0, []) := rfl
theorem c_120_22 : mm_code 120 22 = some (Instr.iload 5, 2, 0, 0, 0, []) := rfl
theorem c_120_24 : mm_code 120 24 = some (Instr.bipush 24, 2, 24, 0, 0, []) := rfl
theorem c_120_26 : mm_code 120 26 = some (Instr.invokestatic 81, 3, 0, 115, 2, [776, 777, 64, 778]) := rfl
theorem c_120_29 : mm_code 120 29 = some (Instr.ifCond .eq 21, 3, 0, 50, 0, []) := rfl
theorem c_120_32 : mm_code 120 32 = some (Instr.iload_n 3, 1, 0, 0, 0, []) := rfl
theorem c_120_33 : mm_code 120 33 = some (Instr.ifCond .lt 14, 3, 0, 47, 0, []) := rfl
theorem c_120_36 : mm_code 120 36 = some (Instr.iload 5, 2, 0, 0, 0, []) := rfl
theorem c_120_38 : mm_code 120 38 = some (Instr.iload_n 3, 1, 0, 0, 0, []) := rfl
theorem c_120_39 : mm_code 120 39 = some (Instr.if_icmp .eq 8, 3, 0, 47, 0, []) := rfl
theorem c_120_42 : mm_code 120 42 = some (Instr.iload 4, 2, 0, 0, 0, []) := rfl
theorem c_120_44 : mm_code 120 44 = some (Instr.iload_n 1, 1, 0, 0, 0, []) := rfl
theorem c_120_45 : mm_code 120 45 = some (Instr.isub, 1, 0, 0, 0, []) := rfl
theorem c_120_46 : mm_code 120 46 = some (Instr.ireturn, 1, 0, 0, 0, []) := rfl
theorem c_120_47 : mm_code 120 47 = some (Instr.iload 5, 2, 0, 0, 0, []) := rfl
theorem c_120_49 : mm_code 120 49 = some (Instr.istore_n 3, 1, 0, 0, 0, []) := rfl
theorem c_120_50 : mm_code 120 50 = some (Instr.iinc 4 1, 3, 0, 0, 0, []) := rfl
theorem c_120_53 : mm_code 120 53 = some (Instr.goto (-48), 3, 0, 5, 0, []) := rfl
theorem c_120_56 : mm_code 120 56 = some (Instr.iconst (-1), 1, (-1), 0, 0, []) := rfl
theorem c_120_57 : mm_code 120 57 = some (Instr.ireturn, 1, 0, 0, 0, []) := rfl
theorem c_121_0 : mm_code 121 0 = some (Instr.iconst 0, 1, 0, 0, 0, []) := rfl
theorem c_121_1 : mm_code 121 1 = some (Instr.istore_n 1, 1, 0, 0, 0, []) := rfl
theorem c_121_2 : mm_code 121 2 = some (Instr.iload_n 1, 1, 0, 0, 0, []) := rfl
theorem c_121_3 : mm_code 121 3 = some (Instr.aload_n 0, 1, 0, 0, 0, []) := rfl
theorem c_121_4 : mm_code 121 4 = some (Instr.getfield 41, 3, 0, 0, 6, [258]) := rfl
theorem c_121_7 : mm_code 121 7 = some (Instr.invokevirtual 73, 3, 3, 102, 0, [713, 714, 715, 65, 716]) := rfl
theorem c_121_10 : mm_code 121 10 = some (Instr.if_icmp .ge 73, 3, 0, 83, 0, []) := rfl
theorem c_121_13 : mm_code 121 13 = some (Instr.aload_n 0, 1, 0, 0, 0, []) := rfl
theorem c_121_14 : mm_code 121 14 = some (Instr.iload_n 1, 1, 0, 0, 0, []) := rfl
theorem c_121_15 : mm_code 121 15 = some (Instr.invokevirtual 194, 3, 0, 122, 1, [805, 807, 21, 63, 808]) := rfl
theorem c_121_18 : mm_code 121 18 = some (Instr.ifCond .ne 12, 3, 0, 30, 0, []) := rfl
theorem c_121_21 : mm_code 121 21 = some (Instr.aload_n 0, 1, 0, 0, 0, []) := rfl
theorem c_121_22 : mm_code 121 22 = some (Instr.bipush 50, 2, 50, 0, 0, []) := rfl
theorem c_121_24 : mm_code 121 24 = some (Instr.iload_n 1, 1, 0, 0, 0, []) := rfl
theorem c_121_25 : mm_code 121 25 = some (Instr.iconst 0, 1, 0, 0, 0, []) := rfl
theorem c_121_26 : mm_code 121 26 = some (Instr.invokevirtual 113, 3, 0, 95, 3, [678, 680, 8, 63, 681]) := rfl
theorem c_121_29 : mm_code 121 29 = some (Instr.ireturn, 1, 1, 0, 0, []) := rfl
theorem c_121_30 : mm_code 121 30 = some (Instr.iload_n 1, 1, 0, 0, 0, []) := rfl
theorem c_121_31 : mm_code 121 31 = some (Instr.ifCond .le 13, 3, 0, 44, 0, []) := rfl
theorem c_121_34 : mm_code 121 34 = some (Instr.aload_n 0, 1, 0, 0, 0, []) := rfl
theorem c_121_35 : mm_code 121 35 = some (Instr.getfield 49, 3, 0, 0, 8, [260]) := rfl
theorem c_121_38 : mm_code 121 38 = some (Instr.bipush 46, 2, 46, 0, 0, []) := rfl
theorem c_121_40 : mm_code 121 40 = some (Instr.invokevirtual 122, 3, 7, 14, 1, [689, 337, 338, 57, 339]) := rfl
theorem c_121_43 : mm_code 121 43 = some (Instr.pop, 1, 0, 0, 0, []) := rfl
theorem c_121_44 : mm_code 121 44 = some (Instr.aload_n 0, 1, 0, 0, 0, []) := rfl
theorem c_121_45 : mm_code 121 45 = some (Instr.getfield 49, 3, 0, 0, 8, [260]) := rfl
theorem c_121_48 : mm_code 121 48 = some (Instr.aload_n 0, 1, 0, 0, 0, []) := rfl
theorem c_121_49 : mm_code 121 49 = some (Instr.getfield 32, 3, 0, 0, 4, [256]) := rfl
theorem c_121_52 : mm_code 121 52 = some (Instr.iconst 0, 1, 0, 0, 0, []) := rfl
theorem c_121_53 : mm_code 121 53 = some (Instr.aload_n 0, 1, 0, 0, 0, []) := rfl
theorem c_121_54 : mm_code 121 54 = some (Instr.getfield 32, 3, 0, 0, 4, [256]) := rfl
theorem c_121_57 : mm_code 121 57 = some (Instr.invokevirtual 65, 3, 7, 13, 0, [686, 332, 333, 57, 334]) := rfl
theorem c_121_60 : mm_code 121 60 = some (Instr.invokevirtual 136, 3, 7, 24, 3, [704, 376, 377, 57, 378]) := rfl
theorem c_121_63 : mm_code 121 63 = some (Instr.pop, 1, 0, 0, 0, []) := rfl
theorem c_121_64 : mm_code 121 64 = some (Instr.aload_n 0, 1, 0, 0, 0, []) := rfl
theorem c_121_65 : mm_code 121 65 = some (Instr.getfield 45, 3, 0, 0, 7, [259]) := rfl
theorem c_121_68 : mm_code 121 68 = some (Instr.iload_n 1, 1, 0, 0, 0, []) := rfl
theorem c_121_69 : mm_code 121 69 = some (Instr.aload_n 0, 1, 0, 0, 0, []) := rfl
theorem c_121_70 : mm_code 121 70 = some (Instr.getfield 32, 3, 0, 0, 4, [256]) := rfl
theorem c_121_73 : mm_code 121 73 = some (Instr.invokevirtual 65, 3, 7, 13, 0, [686, 332, 333, 57, 334]) := rfl
theorem c_121_76 : mm_code 121 76 = some (Instr.iastore, 1, 0, 0, 0, []) := rfl
set_option maxRecDepth 100000 in theorem c_121_77 : mm_code 121 77 = some (Instr.iinc 1 1, 3, 0, 0, 0, []) := rfl
set_option maxRecDepth 100000 in theorem c_121_80 : mm_code 121 80 = some (Instr.goto (-78), 3, 0, 2, 0, []) := rfl
set_option maxRecDepth 100000 in theorem c_121_83 : mm_code 121 83 = some (Instr.aload_n 0, 1, 0, 0, 0, []) := rfl
set_option maxRecDepth 100000 in theorem c_121_84 : mm_code 121 84 = some (Instr.invokevirtual 197, 3, 0, 124, 0, [815, 817, 22, 63, 818]) := rfl
set_option maxRecDepth 100000 in theorem c_121_87 : mm_code 121 87 = some (Instr.ireturn, 1, 1, 0, 0, []) := rfl
theorem c_122_0 : mm_code 122 0 = some (Instr.aload_n 0, 1, 0, 0, 0, []) := rfl
theorem c_122_1 : mm_code 122 1 = some (Instr.getfield 32, 3, 0, 0, 4, [256]) := rfl
theorem c_122_4 : mm_code 122 4 = some (Instr.invokevirtual 79, 3, 7, 12, 0, [672, 328, 329, 57, 330]) := rfl
theorem c_122_7 : mm_code 122 7 = some (Instr.aload_n 0, 1, 0, 0, 0, []) := rfl
theorem c_122_8 : mm_code 122 8 = some (Instr.getfield 41, 3, 0, 0, 6, [258]) := rfl
theorem c_122_11 : mm_code 122 11 = some (Instr.iload_n 1, 1, 0, 0, 0, []) := rfl
theorem c_122_12 : mm_code 122 12 = some (Instr.invokevirtual 200, 3, 3, 123, 1, [809, 810, 811, 65, 812]) := rfl
theorem c_122_15 : mm_code 122 15 = some (Instr.ifCond .ne 36, 3, 0, 51, 0, []) := rfl
theorem c_122_18 : mm_code 122 18 = some (Instr.aload_n 0, 1, 0, 0, 0, []) := rfl
theorem c_122_19 : mm_code 122 19 = some (Instr.getfield 32, 3, 0, 0, 4, [256]) := rfl
theorem c_122_22 : mm_code 122 22 = some (Instr.aload_n 0, 1, 0, 0, 0, []) := rfl
theorem c_122_23 : mm_code 122 23 = some (Instr.getfield 41, 3, 0, 0, 6, [258]) := rfl
theorem c_122_26 : mm_code 122 26 = some (Instr.invokevirtual 172, 3, 3, 113, 0, [768, 769, 770, 65, 771]) := rfl
theorem c_122_29 : mm_code 122 29 = some (Instr.aload_n 0, 1, 0, 0, 0, []) := rfl
theorem c_122_30 : mm_code 122 30 = some (Instr.getfield 41, 3, 0, 0, 6, [258]) := rfl
theorem c_122_33 : mm_code 122 33 = some (Instr.iload_n 1, 1, 0, 0, 0, []) := rfl
theorem c_122_34 : mm_code 122 34 = some (Instr.invokevirtual 181, 3, 3, 117, 1, [791, 784, 785, 65, 786]) := rfl
theorem c_122_37 : mm_code 122 37 = some (Instr.aload_n 0, 1, 0, 0, 0, []) := rfl
theorem c_122_38 : mm_code 122 38 = some (Instr.getfield 41, 3, 0, 0, 6, [258]) := rfl
theorem c_122_41 : mm_code 122 41 = some (Instr.iload_n 1, 1, 0, 0, 0, []) := rfl
theorem c_122_42 : mm_code 122 42 = some (Instr.invokevirtual 184, 3, 3, 118, 1, [792, 788, 789, 65, 790]) := rfl
theorem c_122_45 : mm_code 122 45 = some (Instr.invokevirtual 136, 3, 7, 24, 3, [704, 376, 377, 57, 378]) := rfl
theorem c_122_48 : mm_code 122 48 = some (Instr.pop, 1, 0, 0, 0, []) := rfl
theorem c_122_49 : mm_code 122 49 = some (Instr.iconst 1, 1, 1, 0, 0, []) := rfl
theorem c_122_50 : mm_code 122 50 = some (Instr.ireturn, 1, 1, 0, 0, []) := rfl
theorem c_122_51 : mm_code 122 51 = some (Instr.aload_n 0, 1, 0, 0, 0, []) := rfl
theorem c_122_52 : mm_code 122 52 = some (Instr.getfield 32, 3, 0, 0, 4, [256]) := rfl
theorem c_122_55 : mm_code 122 55 = some (Instr.bipush 120, 2, 120, 0, 0, []) := rfl
theorem c_122_57 : mm_code 122 57 = some (Instr.invokevirtual 122, 3, 7, 14, 1, [689, 337, 338, 57, 339]) := rfl
theorem c_122_60 : mm_code 122 60 = some (Instr.pop, 1, 0, 0, 0, []) := rfl
theorem c_122_61 : mm_code 122 61 = some (Instr.aload_n 0, 1, 0, 0, 0, []) := rfl
theorem c_122_62 : mm_code 122 62 = some (Instr.getfield 32, 3, 0, 0, 4, [256]) := rfl
theorem c_122_65 : mm_code 122 65 = some (Instr.bipush 110, 2, 110, 0, 0, []) := rfl
theorem c_122_67 : mm_code 122 67 = some (Instr.invokevirtual 122, 3, 7, 14, 1, [689, 337, 338, 57, 339]) := rfl
theorem c_122_70 : mm_code 122 70 = some (Instr.pop, 1, 0, 0, 0, []) := rfl
theorem c_122_71 : mm_code 122 71 = some (Instr.aload_n 0, 1, 0, 0, 0, []) := rfl
theorem c_122_72 : mm_code 122 72 = some (Instr.getfield 32, 3, 0, 0, 4, [256]) := rfl
theorem c_122_75 : mm_code 122 75 = some (Instr.bipush 45, 2, 45, 0, 0, []) := rfl
theorem c_122_77 : mm_code 122 77 = some (Instr.invokevirtual 122, 3, 7, 14, 1, [689, 337, 338, 57, 339]) := rfl
theorem c_122_80 : mm_code 122 80 = some (Instr.pop, 1, 0, 0, 0, []) := rfl
theorem c_122_81 : mm_code 122 81 = some (Instr.aload_n 0, 1, 0, 0, 0, []) := rfl
set_option maxRecDepth 100000 in theorem c_122_82 : mm_code 122 82 = some (Instr.getfield 32, 3, 0, 0, 4, [256]) := rfl
set_option maxRecDepth 100000 in theorem c_122_85 : mm_code 122 85 = some (Instr.bipush 45, 2, 45, 0, 0, []) := rfl
set_option maxRecDepth 100000 in theorem c_122_87 : mm_code 122 87 = some (Instr.invokevirtual 122, 3, 7, 14, 1, [689, 337, 338, 57, 339]) := rfl
set_option maxRecDepth 100000 in theorem c_122_90 : mm_code 122 90 = some (Instr.pop, 1, 0, 0, 0, []) := rfl
set_option maxRecDepth 100000 in theorem c_122_91 : mm_code 122 91 = some (Instr.aload_n 0, 1, 0, 0, 0, []) := rfl
set_option maxRecDepth 100000 in theorem c_122_92 : mm_code 122 92 = some (Instr.getfield 41, 3, 0, 0, 6, [258]) := rfl
set_option maxRecDepth 100000 in theorem c_122_95 : mm_code 122 95 = some (Instr.invokevirtual 172, 3, 3, 113, 0, [768, 769, 770, 65, 771]) := rfl
set_option maxRecDepth 100000 in theorem c_122_98 : mm_code 122 98 = some (Instr.aload_n 0, 1, 0, 0, 0, []) := rfl
set_option maxRecDepth 100000 in theorem c_122_99 : mm_code 122 99 = some (Instr.getfield 41, 3, 0, 0, 6, [258]) := rfl
set_option maxRecDepth 100000 in theorem c_122_102 : mm_code 122 102 = some (Instr.iload_n 1, 1, 0, 0, 0, []) := rfl
set_option maxRecDepth 100000 in theorem c_122_103 : mm_code 122 103 = some (Instr.invokevirtual 181, 3, 3, 117, 1, [791, 784, 785, 65, 786]) := rfl
set_option maxRecDepth 100000 in theorem c_122_106 : mm_code 122 106 = some (Instr.aload_n 0, 1, 0, 0, 0, []) := rfl
set_option maxRecDepth 100000 in theorem c_122_107 : mm_code 122 107 = some (Instr.getfield 41, 3, 0, 0, 6, [258]) := rfl
set_option maxRecDepth 100000 in theorem c_122_110 : mm_code 122 110 = some (Instr.iload_n 1, 1, 0, 0, 0, []) := rfl
set_option maxRecDepth 100000 in theorem c_122_111 : mm_code 122 111 = some (Instr.invokevirtual 184, 3, 3, 118, 1, [792, 788, 789, 65, 790]) := rfl
set_option maxRecDepth 100000 in theorem c_122_114 : mm_code 122 114 = some (Instr.aload_n 0, 1, 0, 0, 0, []) := rfl
set_option maxRecDepth 100000 in theorem c_122_115 : mm_code 122 115 = some (Instr.getfield 32, 3, 0, 0, 4, [256]) := rfl
set_option maxRecDepth 100000 in theorem c_122_118 : mm_code 122 118 = some (Instr.invokestatic 203, 3, 0, 79, 4, [814, 607, 69, 608]) := rfl
set_option maxRecDepth 100000 in theorem c_122_121 : mm_code 122 121 = some (Instr.bipush (-2), 2, (-2), 0, 0, []) := rfl
set_option maxRecDepth 100000 in theorem c_122_123 : mm_code 122 123 = some (Instr.if_icmp .eq 7, 3, 0, 130, 0, []) := rfl
set_option maxRecDepth 100000 in theorem c_122_126 : mm_code 122 126 = some (Instr.iconst 1, 1, 1, 0, 0, []) := rfl
set_option maxRecDepth 100000 in theorem c_122_127 : mm_code 122 127 = some (Instr.goto 4, 3, 0, 131, 0, []) := rfl
set_option maxRecDepth 100000 in theorem c_122_130 : mm_code 122 130 = some (Instr.iconst 0, 1, 0, 0, 0, []) := rfl
set_option maxRecDepth 100000 in theorem c_122_131 : mm_code 122 131 = some (Instr.ireturn, 1, 1, 0, 0, []) := rfl
theorem c_123_0 : mm_code 123 0 = some (Instr.aload_n 0, 1, 0, 0, 0, []) := rfl
theorem c_123_1 : mm_code 123 1 = some (Instr.getfield 14, 3, 0, 3, 0, [242]) := rfl
theorem c_123_4 : mm_code 123 4 = some (Instr.aload_n 0, 1, 0, 0, 0, []) := rfl
theorem c_123_5 : mm_code 123 5 = some (Instr.iload_n 1, 1, 0, 0, 0, []) := rfl
theorem c_123_6 : mm_code 123 6 = some (Instr.invokevirtual 39, 3, 3, 117, 1, [783, 784, 785, 65, 786]) := rfl
theorem c_123_9 : mm_code 123 9 = some (Instr.aload_n 0, 1, 0, 0, 0, []) := rfl
theorem c_123_10 : mm_code 123 10 = some (Instr.iload_n 1, 1, 0, 0, 0, []) := rfl
theorem c_123_11 : mm_code 123 11 = some (Instr.invokevirtual 43, 3, 3, 118, 1, [787, 788, 789, 65, 790]) := rfl
theorem c_123_14 : mm_code 123 14 = some (Instr.invokestatic 46, 3, 0, 103, 3, [813, 719, 65, 720]) := rfl
theorem c_123_17 : mm_code 123 17 = some (Instr.ireturn, 1, 1, 0, 0, []) := rfl
theorem c_124_0 : mm_code 124 0 = some (Instr.aload_n 0, 1, 0, 0, 0, []) := rfl
theorem c_124_1 : mm_code 124 1 = some (Instr.getfield 41, 3, 0, 0, 6, [258]) := rfl
theorem c_124_4 : mm_code 124 4 = some (Instr.invokevirtual 73, 3, 3, 102, 0, [713, 714, 715, 65, 716]) := rfl
theorem c_124_7 : mm_code 124 7 = some (Instr.iconst 1, 1, 1, 0, 0, []) := rfl
theorem c_124_8 : mm_code 124 8 = some (Instr.isub, 1, 0, 0, 0, []) := rfl
theorem c_124_9 : mm_code 124 9 = some (Instr.istore_n 1, 1, 0, 0, 0, []) := rfl
theorem c_124_10 : mm_code 124 10 = some (Instr.iload_n 1, 1, 0, 0, 0, []) := rfl
theorem c_124_11 : mm_code 124 11 = some (Instr.istore_n 2, 1, 0, 0, 0, []) := rfl
theorem c_124_12 : mm_code 124 12 = some (Instr.iconst 0, 1, 0, 0, 0, []) := rfl
theorem c_124_13 : mm_code 124 13 = some (Instr.istore_n 3, 1, 0, 0, 0, []) := rfl
theorem c_124_14 : mm_code 124 14 = some (Instr.iload_n 3, 1, 0, 0, 0, []) := rfl
theorem c_124_15 : mm_code 124 15 = some (Instr.iload_n 1, 1, 0, 0, 0, []) := rfl
theorem c_124_16 : mm_code 124 16 = some (Instr.if_icmp .gt 45, 3, 0, 61, 0, []) := rfl
theorem c_124_19 : mm_code 124 19 = some (Instr.aload_n 0, 1, 0, 0, 0, []) := rfl
theorem c_124_20 : mm_code 124 20 = some (Instr.getfield 45, 3, 0, 0, 7, [259]) := rfl
theorem c_124_23 : mm_code 124 23 = some (Instr.iload_n 3, 1, 0, 0, 0, []) := rfl
theorem c_124_24 : mm_code 124 24 = some (Instr.iaload, 1, 0, 0, 0, []) := rfl
theorem c_124_25 : mm_code 124 25 = some (Instr.ifCond .ne 21, 3, 0, 46, 0, []) := rfl
theorem c_124_28 : mm_code 124 28 = some (Instr.iload_n 3, 1, 0, 0, 0, []) := rfl
theorem c_124_29 : mm_code 124 29 = some (Instr.iload_n 1, 1, 0, 0, 0, []) := rfl
theorem c_124_30 : mm_code 124 30 = some (Instr.if_icmp .lt 7, 3, 0, 37, 0, []) := rfl
theorem c_124_33 : mm_code 124 33 = some (Instr.iload_n 1, 1, 0, 0, 0, []) := rfl
theorem c_124_34 : mm_code 124 34 = some (Instr.ifCond .ne 12, 3, 0, 46, 0, []) := rfl
theorem c_124_37 : mm_code 124 37 = some (Instr.aload_n 0, 1, 0, 0, 0, []) := rfl
theorem c_124_38 : mm_code 124 38 = some (Instr.bipush 51, 2, 51, 0, 0, []) := rfl
theorem c_124_40 : mm_code 124 40 = some (Instr.iload_n 3, 1, 0, 0, 0, []) := rfl
theorem c_124_41 : mm_code 124 41 = some (Instr.iconst 0, 1, 0, 0, 0, []) := rfl
theorem c_124_42 : mm_code 124 42 = some (Instr.invokevirtual 113, 3, 0, 95, 3, [678, 680, 8, 63, 681]) := rfl
theorem c_124_45 : mm_code 124 45 = some (Instr.ireturn, 1, 1, 0, 0, []) := rfl
theorem c_124_46 : mm_code 124 46 = some (Instr.iload_n 2, 1, 0, 0, 0, []) := rfl
theorem c_124_47 : mm_code 124 47 = some (Instr.aload_n 0, 1, 0, 0, 0, []) := rfl
theorem c_124_48 : mm_code 124 48 = some (Instr.getfield 45, 3, 0, 0, 7, [259]) := rfl
theorem c_124_51 : mm_code 124 51 = some (Instr.iload_n 3, 1, 0, 0, 0, []) := rfl
theorem c_124_52 : mm_code 124 52 = some (Instr.iaload, 1, 0, 0, 0, []) := rfl
theorem c_124_53 : mm_code 124 53 = some (Instr.iadd, 1, 0, 0, 0, []) := rfl
theorem c_124_54 : mm_code 124 54 = some (Instr.istore_n 2, 1, 0, 0, 0, []) := rfl
theorem c_124_55 : mm_code 124 55 = some (Instr.iinc 3 1, 3, 0, 0, 0, []) := rfl
theorem c_124_58 : mm_code 124 58 = some (Instr.goto (-44), 3, 0, 14, 0, []) := rfl
theorem c_124_61 : mm_code 124 61 = some (Instr.iconst 0, 1, 0, 0, 0, []) := rfl
theorem c_124_62 : mm_code 124 62 = some (Instr.istore_n 3, 1, 0, 0, 0, []) := rfl
theorem c_124_63 : mm_code 124 63 = some (Instr.iload_n 3, 1, 0, 0, 0, []) := rfl
set_option maxRecDepth 100000 in theorem c_124_64 : mm_code 124 64 = some (Instr.iload_n 1, 1, 0, 0, 0, []) := rfl
set_option maxRecDepth 100000 in theorem c_124_65 : mm_code 124 65 = some (Instr.if_icmp .gt 30, 3, 0, 95, 0, []) := rfl
set_option maxRecDepth 100000 in theorem c_124_68 : mm_code 124 68 = some (Instr.aload_n 0, 1, 0, 0, 0, []) := rfl
set_option maxRecDepth 100000 in theorem c_124_69 : mm_code 124 69 = some (Instr.getfield 45, 3, 0, 0, 7, [259]) := rfl
set_option maxRecDepth 100000 in theorem c_124_72 : mm_code 124 72 = some (Instr.iload_n 3, 1, 0, 0, 0, []) := rfl
set_option maxRecDepth 100000 in theorem c_124_73 : mm_code 124 73 = some (Instr.iaload, 1, 0, 0, 0, []) := rfl
set_option maxRecDepth 100000 in theorem c_124_74 : mm_code 124 74 = some (Instr.bipush 63, 2, 63, 0, 0, []) := rfl
set_option maxRecDepth 100000 in theorem c_124_76 : mm_code 124 76 = some (Instr.if_icmp .le 13, 3, 0, 89, 0, []) := rfl
set_option maxRecDepth 100000 in theorem c_124_79 : mm_code 124 79 = some (Instr.aload_n 0, 1, 0, 0, 0, []) := rfl
set_option maxRecDepth 100000 in theorem c_124_80 : mm_code 124 80 = some (Instr.bipush 52, 2, 52, 0, 0, []) := rfl
set_option maxRecDepth 100000 in theorem c_124_82 : mm_code 124 82 = some (Instr.iload_n 3, 1, 0, 0, 0, []) := rfl
set_option maxRecDepth 100000 in theorem c_124_83 : mm_code 124 83 = some (Instr.bipush 63, 2, 63, 0, 0, []) := rfl
set_option maxRecDepth 100000 in theorem c_124_85 : mm_code 124 85 = some (Instr.invokevirtual 113, 3, 0, 95, 3, [678, 680, 8, 63, 681]) := rfl
set_option maxRecDepth 100000 in theorem c_124_88 : mm_code 124 88 = some (Instr.ireturn, 1, 1, 0, 0, []) := rfl
set_option maxRecDepth 100000 in theorem c_124_89 : mm_code 124 89 = some (Instr.iinc 3 1, 3, 0, 0, 0, []) := rfl
set_option maxRecDepth 100000 in theorem c_124_92 : mm_code 124 92 = some (Instr.goto (-29), 3, 0, 63, 0, []) := rfl
set_option maxRecDepth 100000 in theorem c_124_95 : mm_code 124 95 = some (Instr.iload_n 1, 1, 0, 0, 0, []) := rfl
set_option maxRecDepth 100000 in theorem c_124_96 : mm_code 124 96 = some (Instr.ifCond .le 15, 3, 0, 111, 0, []) := rfl
set_option maxRecDepth 100000 in theorem c_124_99 : mm_code 124 99 = some (Instr.aload_n 0, 1, 0, 0, 0, []) := rfl
set_option maxRecDepth 100000 in theorem c_124_100 : mm_code 124 100 = some (Instr.getfield 45, 3, 0, 0, 7, [259]) := rfl
set_option maxRecDepth 100000 in theorem c_124_103 : mm_code 124 103 = some (Instr.iload_n 1, 1, 0, 0, 0, []) := rfl
set_option maxRecDepth 100000 in theorem c_124_104 : mm_code 124 104 = some (Instr.iaload, 1, 0, 0, 0, []) := rfl
set_option maxRecDepth 100000 in theorem c_124_105 : mm_code 124 105 = some (Instr.ifCond .ne 6, 3, 0, 111, 0, []) := rfl
set_option maxRecDepth 100000 in theorem c_124_108 : mm_code 124 108 = some (Instr.iinc 2 (-1), 3, 0, 0, 0, []) := rfl
set_option maxRecDepth 100000 in theorem c_124_111 : mm_code 124 111 = some (Instr.iload_n 2, 1, 0, 0, 0, []) := rfl
set_option maxRecDepth 100000 in theorem c_124_112 : mm_code 124 112 = some (Instr.ifCond .le 10, 3, 0, 122, 0, []) := rfl
set_option maxRecDepth 100000 in theorem c_124_115 : mm_code 124 115 = some (Instr.iload_n 2, 1, 0, 0, 0, []) := rfl
set_option maxRecDepth 100000 in theorem c_124_116 : mm_code 124 116 = some (Instr.sipush 253, 3, 253, 0, 0, []) := rfl
set_option maxRecDepth 100000 in theorem c_124_119 : mm_code 124 119 = some (Instr.if_icmp .le 14, 3, 0, 133, 0, []) := rfl
set_option maxRecDepth 100000 in theorem c_124_122 : mm_code 124 122 = some (Instr.aload_n 0, 1, 0, 0, 0, []) := rfl
set_option maxRecDepth 100000 in theorem c_124_123 : mm_code 124 123 = some (Instr.bipush 53, 2, 53, 0, 0, []) := rfl
set_option maxRecDepth 100000 in theorem c_124_125 : mm_code 124 125 = some (Instr.iload_n 1, 1, 0, 0, 0, []) := rfl
set_option maxRecDepth 100000 in theorem c_124_126 : mm_code 124 126 = some (Instr.iconst 0, 1, 0, 0, 0, []) := rfl
set_option maxRecDepth 100000 in theorem c_124_127 : mm_code 124 127 = some (Instr.invokevirtual 113, 3, 0, 95, 3, [678, 680, 8, 63, 681]) := rfl
set_option maxRecDepth 100000 in theorem c_124_130 : mm_code 124 130 = some (Instr.ifCond .eq 7, 3, 0, 137, 0, []) := rfl
set_option maxRecDepth 100000 in theorem c_124_133 : mm_code 124 133 = some (Instr.iconst 1, 1, 1, 0, 0, []) := rfl
set_option maxRecDepth 100000 in theorem c_124_134 : mm_code 124 134 = some (Instr.goto 4, 3, 0, 138, 0, []) := rfl
set_option maxRecDepth 100000 in theorem c_124_137 : mm_code 124 137 = some (Instr.iconst 0, 1, 0, 0, 0, []) := rfl
set_option maxRecDepth 100000 in theorem c_124_138 : mm_code 124 138 = some (Instr.ireturn, 1, 1, 0, 0, []) := rfl
theorem c_125_0 : mm_code 125 0 = some (Instr.iconst 0, 1, 0, 0, 0, []) := rfl
theorem c_125_1 : mm_code 125 1 = some (Instr.istore_n 1, 1, 0, 0, 0, []) := rfl
theorem c_125_2 : mm_code 125 2 = some (Instr.iload_n 1, 1, 0, 0, 0, []) := rfl
theorem c_125_3 : mm_code 125 3 = some (Instr.aload_n 0, 1, 0, 0, 0, []) := rfl
theorem c_125_4 : mm_code 125 4 = some (Instr.getfield 41, 3, 0, 0, 6, [258]) := rfl
theorem c_125_7 : mm_code 125 7 = some (Instr.invokevirtual 73, 3, 3, 102, 0, [713, 714, 715, 65, 716]) := rfl
theorem c_125_10 : mm_code 125 10 = some (Instr.if_icmp .ge 69, 3, 0, 79, 0, []) := rfl
theorem c_125_13 : mm_code 125 13 = some (Instr.iload_n 1, 1, 0, 0, 0, []) := rfl
theorem c_125_14 : mm_code 125 14 = some (Instr.ifCond .le 13, 3, 0, 27, 0, []) := rfl
theorem c_125_17 : mm_code 125 17 = some (Instr.aload_n 0, 1, 0, 0, 0, []) := rfl
theorem c_125_18 : mm_code 125 18 = some (Instr.getfield 49, 3, 0, 0, 8, [260]) := rfl
theorem c_125_21 : mm_code 125 21 = some (Instr.bipush 46, 2, 46, 0, 0, []) := rfl
theorem c_125_23 : mm_code 125 23 = some (Instr.invokevirtual 122, 3, 7, 14, 1, [689, 337, 338, 57, 339]) := rfl
theorem c_125_26 : mm_code 125 26 = some (Instr.pop, 1, 0, 0, 0, []) := rfl
theorem c_125_27 : mm_code 125 27 = some (Instr.aload_n 0, 1, 0, 0, 0, []) := rfl
theorem c_125_28 : mm_code 125 28 = some (Instr.getfield 41, 3, 0, 0, 6, [258]) := rfl
theorem c_125_31 : mm_code 125 31 = some (Instr.iload_n 1, 1, 0, 0, 0, []) := rfl
theorem c_125_32 : mm_code 125 32 = some (Instr.invokevirtual 181, 3, 3, 117, 1, [791, 784, 785, 65, 786]) := rfl
theorem c_125_35 : mm_code 125 35 = some (Instr.istore_n 2, 1, 0, 0, 0, []) := rfl
theorem c_125_36 : mm_code 125 36 = some (Instr.iload_n 2, 1, 0, 0, 0, []) := rfl
theorem c_125_37 : mm_code 125 37 = some (Instr.aload_n 0, 1, 0, 0, 0, []) := rfl
theorem c_125_38 : mm_code 125 38 = some (Instr.getfield 41, 3, 0, 0, 6, [258]) := rfl
theorem c_125_41 : mm_code 125 41 = some (Instr.iload_n 1, 1, 0, 0, 0, []) := rfl
theorem c_125_42 : mm_code 125 42 = some (Instr.invokevirtual 184, 3, 3, 118, 1, [792, 788, 789, 65, 790]) := rfl
theorem c_125_45 : mm_code 125 45 = some (Instr.if_icmp .ge 28, 3, 0, 73, 0, []) := rfl
theorem c_125_48 : mm_code 125 48 = some (Instr.aload_n 0, 1, 0, 0, 0, []) := rfl
theorem c_125_49 : mm_code 125 49 = some (Instr.getfield 41, 3, 0, 0, 6, [258]) := rfl
theorem c_125_52 : mm_code 125 52 = some (Instr.invokevirtual 172, 3, 3, 113, 0, [768, 769, 770, 65, 771]) := rfl
theorem c_125_55 : mm_code 125 55 = some (Instr.iload_n 2, 1, 0, 0, 0, []) := rfl
theorem c_125_56 : mm_code 125 56 = some (Instr.invokevirtual 69, 3, 7, 17, 1, [687, 350, 351, 57, 352]) := rfl
theorem c_125_59 : mm_code 125 59 = some (Instr.aload_n 0, 1, 0, 0, 0, []) := rfl
theorem c_125_60 : mm_code 125 60 = some (Instr.getfield 49, 3, 0, 0, 8, [260]) := rfl
theorem c_125_63 : mm_code 125 63 = some (Instr.invokestatic 191, 3, 0, 126, 2, [823, 824, 67, 825]) := rfl
theorem c_125_66 : mm_code 125 66 = some (Instr.pop, 1, 0, 0, 0, []) := rfl
theorem c_125_67 : mm_code 125 67 = some (Instr.iinc 2 1, 3, 0, 0, 0, []) := rfl
theorem c_125_70 : mm_code 125 70 = some (Instr.goto (-34), 3, 0, 36, 0, []) := rfl
theorem c_125_73 : mm_code 125 73 = some (Instr.iinc 1 1, 3, 0, 0, 0, []) := rfl
theorem c_125_76 : mm_code 125 76 = some (Instr.goto (-74), 3, 0, 2, 0, []) := rfl
theorem c_125_79 : mm_code 125 79 = some (Instr.iconst 1, 1, 1, 0, 0, []) := rfl
theorem c_125_80 : mm_code 125 80 = some (Instr.ireturn, 1, 1, 0, 0, []) := rfl
theorem c_126_0 : mm_code 126 0 = some (Instr.iload_n 0, 1, 0, 0, 0, []) := rfl
theorem c_126_1 : mm_code 126 1 = some (Instr.sipush 128, 3, 128, 0, 0, []) := rfl
theorem c_126_4 : mm_code 126 4 = some (Instr.if_icmp .ge 9, 3, 0, 13, 0, []) := rfl
theorem c_126_7 : mm_code 126 7 = some (Instr.aload_n 1, 1, 0, 0, 0, []) := rfl
theorem c_126_8 : mm_code 126 8 = some (Instr.iload_n 0, 1, 0, 0, 0, []) := rfl
theorem c_126_9 : mm_code 126 9 = some (Instr.invokevirtual 42, 3, 7, 14, 1, [365, 337, 338, 57, 339]) := rfl
theorem c_126_12 : mm_code 126 12 = some (Instr.ireturn, 1, 1, 0, 0, []) := rfl
theorem c_126_13 : mm_code 126 13 = some (Instr.iload_n 0, 1, 0, 0, 0, []) := rfl
theorem c_126_14 : mm_code 126 14 = some (Instr.sipush 2048, 3, 2048, 0, 0, []) := rfl
theorem c_126_17 : mm_code 126 17 = some (Instr.if_icmp .ge 32, 3, 0, 49, 0, []) := rfl
theorem c_126_20 : mm_code 126 20 = some (Instr.aload_n 1, 1, 0, 0, 0, []) := rfl
theorem c_126_21 : mm_code 126 21 = some (Instr.sipush 192, 3, 192, 0, 0, []) := rfl
theorem c_126_24 : mm_code 126 24 = some (Instr.iload_n 0, 1, 0, 0, 0, []) := rfl
theorem c_126_25 : mm_code 126 25 = some (Instr.bipush 64, 2, 64, 0, 0, []) := rfl
theorem c_126_27 : mm_code 126 27 = some (Instr.idiv, 1, 0, 0, 0, []) := rfl
theorem c_126_28 : mm_code 126 28 = some (Instr.iadd, 1, 0, 0, 0, []) := rfl
theorem c_126_29 : mm_code 126 29 = some (Instr.invokevirtual 42, 3, 7, 14, 1, [365, 337, 338, 57, 339]) := rfl
theorem c_126_32 : mm_code 126 32 = some (Instr.ifCond .eq 15, 3, 0, 47, 0, []) := rfl
theorem c_126_35 : mm_code 126 35 = some (Instr.iload_n 0, 1, 0, 0, 0, []) := rfl
theorem c_126_36 : mm_code 126 36 = some (Instr.aload_n 1, 1, 0, 0, 0, []) := rfl
theorem c_126_37 : mm_code 126 37 = some (Instr.invokestatic 46, 3, 0, 127, 2, [826, 827, 67, 828]) := rfl
theorem c_126_40 : mm_code 126 40 = some (Instr.ifCond .eq 7, 3, 0, 47, 0, []) := rfl
theorem c_126_43 : mm_code 126 43 = some (Instr.iconst 1, 1, 1, 0, 0, []) := rfl
theorem c_126_44 : mm_code 126 44 = some (Instr.goto 4, 3, 0, 48, 0, []) := rfl
theorem c_126_47 : mm_code 126 47 = some (Instr.iconst 0, 1, 0, 0, 0, []) := rfl
theorem c_126_48 : mm_code 126 48 = some (Instr.ireturn, 1, 1, 0, 0, []) := rfl
theorem c_126_49 : mm_code 126 49 = some (Instr.iload_n 0, 1, 0, 0, 0, []) := rfl
theorem c_126_50 : mm_code 126 50 = some (Instr.ldc 50, 2, 65536, 0, 0, [829]) := rfl
theorem c_126_52 : mm_code 126 52 = some (Instr.if_icmp .ge 44, 3, 0, 96, 0, []) := rfl
theorem c_126_55 : mm_code 126 55 = some (Instr.aload_n 1, 1, 0, 0, 0, []) := rfl
theorem c_126_56 : mm_code 126 56 = some (Instr.sipush 224, 3, 224, 0, 0, []) := rfl
theorem c_126_59 : mm_code 126 59 = some (Instr.iload_n 0, 1, 0, 0, 0, []) := rfl
theorem c_126_60 : mm_code 126 60 = some (Instr.sipush 4096, 3, 4096, 0, 0, []) := rfl
theorem c_126_63 : mm_code 126 63 = some (Instr.idiv, 1, 0, 0, 0, []) := rfl
theorem c_126_64 : mm_code 126 64 = some (Instr.iadd, 1, 0, 0, 0, []) := rfl
theorem c_126_65 : mm_code 126 65 = some (Instr.invokevirtual 42, 3, 7, 14, 1, [365, 337, 338, 57, 339]) := rfl
theorem c_126_68 : mm_code 126 68 = some (Instr.ifCond .eq 26, 3, 0, 94, 0, []) := rfl
theorem c_126_71 : mm_code 126 71 = some (Instr.iload_n 0, 1, 0, 0, 0, []) := rfl
theorem c_126_72 : mm_code 126 72 = some (Instr.bipush 64, 2, 64, 0, 0, []) := rfl
theorem c_126_74 : mm_code 126 74 = some (Instr.idiv, 1, 0, 0, 0, []) := rfl
theorem c_126_75 : mm_code 126 75 = some (Instr.aload_n 1, 1, 0, 0, 0, []) := rfl
set_option maxRecDepth 100000 in theorem c_126_76 : mm_code 126 76 = some (Instr.invokestatic 46, 3, 0, 127, 2, [826, 827, 67, 828]) := rfl
set_option maxRecDepth 100000 in theorem c_126_79 : mm_code 126 79 = some (Instr.ifCond .eq 15, 3, 0, 94, 0, []) := rfl
set_option maxRecDepth 100000 in theorem c_126_82 : mm_code 126 82 = some (Instr.iload_n 0, 1, 0, 0, 0, []) := rfl
set_option maxRecDepth 100000 in theorem c_126_83 : mm_code 126 83 = some (Instr.aload_n 1, 1, 0, 0, 0, []) := rfl
set_option maxRecDepth 100000 in theorem c_126_84 : mm_code 126 84 = some (Instr.invokestatic 46, 3, 0, 127, 2, [826, 827, 67, 828]) := rfl
set_option maxRecDepth 100000 in theorem c_126_87 : mm_code 126 87 = some (Instr.ifCond .eq 7, 3, 0, 94, 0, []) := rfl
set_option maxRecDepth 100000 in theorem c_126_90 : mm_code 126 90 = some (Instr.iconst 1, 1, 1, 0, 0, []) := rfl
set_option maxRecDepth 100000 in theorem c_126_91 : mm_code 126 91 = some (Instr.goto 4, 3, 0, 95, 0, []) := rfl
set_option maxRecDepth 100000 in theorem c_126_94 : mm_code 126 94 = some (Instr.iconst 0, 1, 0, 0, 0, []) := rfl
set_option maxRecDepth 100000 in theorem c_126_95 : mm_code 126 95 = some (Instr.ireturn, 1, 1, 0, 0, []) := rfl
set_option maxRecDepth 100000 in theorem c_126_96 : mm_code 126 96 = some (Instr.aload_n 1, 1, 0, 0, 0, []) := rfl
set_option maxRecDepth 100000 in theorem c_126_97 : mm_code 126 97 = some (Instr.sipush 240, 3, 240, 0, 0, []) := rfl
set_option maxRecDepth 100000 in theorem c_126_100 : mm_code 126 100 = some (Instr.iload_n 0, 1, 0, 0, 0, []) := rfl
set_option maxRecDepth 100000 in theorem c_126_101 : mm_code 126 101 = some (Instr.ldc 51, 2, 262144, 0, 0, [830]) := rfl
set_option maxRecDepth 100000 in theorem c_126_103 : mm_code 126 103 = some (Instr.idiv, 1, 0, 0, 0, []) := rfl
set_option maxRecDepth 100000 in theorem c_126_104 : mm_code 126 104 = some (Instr.iadd, 1, 0, 0, 0, []) := rfl
set_option maxRecDepth 100000 in theorem c_126_105 : mm_code 126 105 = some (Instr.invokevirtual 42, 3, 7, 14, 1, [365, 337, 338, 57, 339]) := rfl
set_option maxRecDepth 100000 in theorem c_126_108 : mm_code 126 108 = some (Instr.ifCond .eq 38, 3, 0, 146, 0, []) := rfl
set_option maxRecDepth 100000 in theorem c_126_111 : mm_code 126 111 = some (Instr.iload_n 0, 1, 0, 0, 0, []) := rfl
set_option maxRecDepth 100000 in theorem c_126_112 : mm_code 126 112 = some (Instr.sipush 4096, 3, 4096, 0, 0, []) := rfl
set_option maxRecDepth 100000 in theorem c_126_115 : mm_code 126 115 = some (Instr.idiv, 1, 0, 0, 0, []) := rfl
set_option maxRecDepth 100000 in theorem c_126_116 : mm_code 126 116 = some (Instr.aload_n 1, 1, 0, 0, 0, []) := rfl
set_option maxRecDepth 100000 in theorem c_126_117 : mm_code 126 117 = some (Instr.invokestatic 46, 3, 0, 127, 2, [826, 827, 67, 828]) := rfl
set_option maxRecDepth 100000 in theorem c_126_120 : mm_code 126 120 = some (Instr.ifCond .eq 26, 3, 0, 146, 0, []) := rfl
set_option maxRecDepth 100000 in theorem c_126_123 : mm_code 126 123 = some (Instr.iload_n 0, 1, 0, 0, 0, []) := rfl
set_option maxRecDepth 100000 in theorem c_126_124 : mm_code 126 124 = some (Instr.bipush 64, 2, 64, 0, 0, []) := rfl
set_option maxRecDepth 100000 in theorem c_126_126 : mm_code 126 126 = some (Instr.idiv, 1, 0, 0, 0, []) := rfl
set_option maxRecDepth 100000 in theorem c_126_127 : mm_code 126 127 = some (Instr.aload_n 1, 1, 0, 0, 0, []) := rfl
set_option maxRecDepth 100000 in theorem c_126_128 : mm_code 126 128 = some (Instr.invokestatic 46, 3, 0, 127, 2, [826, 827, 67, 828]) := rfl
set_option maxRecDepth 100000 in theorem c_126_131 : mm_code 126 131 = some (Instr.ifCond .eq 15, 3, 0, 146, 0, []) := rfl
set_option maxRecDepth 100000 in theorem c_126_134 : mm_code 126 134 = some (Instr.iload_n 0, 1, 0, 0, 0, []) := rfl
set_option maxRecDepth 100000 in theorem c_126_135 : mm_code 126 135 = some (Instr.aload_n 1, 1, 0, 0, 0, []) := rfl
set_option maxRecDepth 100000 in theorem c_126_136 : mm_code 126 136 = some (Instr.invokestatic 46, 3, 0, 127, 2, [826, 827, 67, 828]) := rfl
set_option maxRecDepth 100000 in theorem c_126_139 : mm_code 126 139 = some (Instr.ifCond .eq 7, 3, 0, 146, 0, []) := rfl
set_option maxRecDepth 100000 in theorem c_126_142 : mm_code 126 142 = some (Instr.iconst 1, 1, 1, 0, 0, []) := rfl
set_option maxRecDepth 100000 in theorem c_126_143 : mm_code 126 143 = some (Instr.goto 4, 3, 0, 147, 0, []) := rfl
set_option maxRecDepth 100000 in theorem c_126_146 : mm_code 126 146 = some (Instr.iconst 0, 1, 0, 0, 0, []) := rfl
set_option maxRecDepth 100000 in theorem c_126_147 : mm_code 126 147 = some (Instr.ireturn, 1, 1, 0, 0, []) := rfl
theorem c_127_0 : mm_code 127 0 = some (Instr.aload_n 1, 1, 0, 0, 0, []) := rfl
theorem c_127_1 : mm_code 127 1 = some (Instr.sipush 128, 3, 128, 0, 0, []) := rfl
theorem c_127_4 : mm_code 127 4 = some (Instr.iload_n 0, 1, 0, 0, 0, []) := rfl
theorem c_127_5 : mm_code 127 5 = some (Instr.bipush 64, 2, 64, 0, 0, []) := rfl
theorem c_127_7 : mm_code 127 7 = some (Instr.irem, 1, 0, 0, 0, []) := rfl
theorem c_127_8 : mm_code 127 8 = some (Instr.iadd, 1, 0, 0, 0, []) := rfl
theorem c_127_9 : mm_code 127 9 = some (Instr.invokevirtual 42, 3, 7, 14, 1, [365, 337, 338, 57, 339]) := rfl
theorem c_127_12 : mm_code 127 12 = some (Instr.ireturn, 1, 1, 0, 0, []) := rfl
theorem c_128_0 : mm_code 128 0 = some (Instr.aload_n 0, 1, 0, 0, 0, []) := rfl
theorem c_128_1 : mm_code 128 1 = some (Instr.getfield 52, 3, 0, 0, 9, [261]) := rfl
theorem c_128_4 : mm_code 128 4 = some (Instr.invokevirtual 65, 3, 7, 13, 0, [686, 332, 333, 57, 334]) := rfl
theorem c_128_7 : mm_code 128 7 = some (Instr.ireturn, 1, 0, 0, 0, []) := rfl
theorem c_129_0 : mm_code 129 0 = some (Instr.iload_n 1, 1, 0, 0, 0, []) := rfl
theorem c_129_1 : mm_code 129 1 = some (Instr.tableswitch 42 0 2 #[27, 32, 37], 27, 0, 0, 0, []) := rfl
theorem c_129_28 : mm_code 129 28 = some (Instr.aload_n 0, 1, 0, 0, 0, []) := rfl
theorem c_129_29 : mm_code 129 29 = some (Instr.getfield 55, 3, 0, 0, 10, [262]) := rfl
theorem c_129_32 : mm_code 129 32 = some (Instr.ireturn, 1, 0, 0, 0, []) := rfl
theorem c_129_33 : mm_code 129 33 = some (Instr.aload_n 0, 1, 0, 0, 0, []) := rfl
theorem c_129_34 : mm_code 129 34 = some (Instr.getfield 59, 3, 0, 0, 11, [263]) := rfl
theorem c_129_37 : mm_code 129 37 = some (Instr.ireturn, 1, 0, 0, 0, []) := rfl
theorem c_129_38 : mm_code 129 38 = some (Instr.aload_n 0, 1, 0, 0, 0, []) := rfl
theorem c_129_39 : mm_code 129 39 = some (Instr.getfield 62, 3, 0, 0, 12, [264]) := rfl
theorem c_129_42 : mm_code 129 42 = some (Instr.ireturn, 1, 0, 0, 0, []) := rfl
theorem c_129_43 : mm_code 129 43 = some (Instr.aload_n 0, 1, 0, 0, 0, []) := rfl
theorem c_129_44 : mm_code 129 44 = some (Instr.getfield 41, 3, 0, 0, 6, [258]) := rfl
theorem c_129_47 : mm_code 129 47 = some (Instr.invokevirtual 73, 3, 3, 102, 0, [713, 714, 715, 65, 716]) := rfl
theorem c_129_50 : mm_code 129 50 = some (Instr.ireturn, 1, 0, 0, 0, []) := rfl
theorem c_130_0 : mm_code 130 0 = some (Instr.iload_n 1, 1, 0, 0, 0, []) := rfl
theorem c_130_1 : mm_code 130 1 = some (Instr.ifCond .lt 19, 3, 0, 20, 0, []) := rfl
theorem c_130_4 : mm_code 130 4 = some (Instr.iload_n 1, 1, 0, 0, 0, []) := rfl
theorem c_130_5 : mm_code 130 5 = some (Instr.iconst 3, 1, 3, 0, 0, []) := rfl
theorem c_130_6 : mm_code 130 6 = some (Instr.if_icmp .gt 14, 3, 0, 20, 0, []) := rfl
theorem c_130_9 : mm_code 130 9 = some (Instr.aload_n 0, 1, 0, 0, 0, []) := rfl
theorem c_130_10 : mm_code 130 10 = some (Instr.getfield 74, 3, 0, 9, 9, [301]) := rfl
theorem c_130_13 : mm_code 130 13 = some (Instr.iload_n 1, 1, 0, 0, 0, []) := rfl
theorem c_130_14 : mm_code 130 14 = some (Instr.invokevirtual 163, 3, 0, 129, 1, [835, 836, 837, 63, 838]) := rfl
theorem c_130_17 : mm_code 130 17 = some (Instr.goto 5, 3, 0, 22, 0, []) := rfl
theorem c_130_20 : mm_code 130 20 = some (Instr.bipush (-2), 2, (-2), 0, 0, []) := rfl
theorem c_130_22 : mm_code 130 22 = some (Instr.ireturn, 1, 0, 0, 0, []) := rfl
theorem c_131_0 : mm_code 131 0 = some (Instr.iload_n 1, 1, 0, 0, 0, []) := rfl
theorem c_131_1 : mm_code 131 1 = some (Instr.ifCond .lt 25, 3, 0, 26, 0, []) := rfl
theorem c_131_4 : mm_code 131 4 = some (Instr.iload_n 1, 1, 0, 0, 0, []) := rfl
theorem c_131_5 : mm_code 131 5 = some (Instr.aload_n 0, 1, 0, 0, 0, []) := rfl
theorem c_131_6 : mm_code 131 6 = some (Instr.getfield 74, 3, 0, 9, 9, [301]) := rfl
theorem c_131_9 : mm_code 131 9 = some (Instr.invokevirtual 160, 3, 0, 128, 0, [831, 832, 833, 63, 834]) := rfl
theorem c_131_12 : mm_code 131 12 = some (Instr.if_icmp .ge 14, 3, 0, 26, 0, []) := rfl
theorem c_131_15 : mm_code 131 15 = some (Instr.aload_n 0, 1, 0, 0, 0, []) := rfl
theorem c_131_16 : mm_code 131 16 = some (Instr.getfield 74, 3, 0, 9, 9, [301]) := rfl
theorem c_131_19 : mm_code 131 19 = some (Instr.iload_n 1, 1, 0, 0, 0, []) := rfl
theorem c_131_20 : mm_code 131 20 = some (Instr.invokevirtual 166, 3, 0, 132, 1, [847, 848, 849, 63, 850]) := rfl
theorem c_131_23 : mm_code 131 23 = some (Instr.goto 4, 3, 0, 27, 0, []) := rfl
theorem c_131_26 : mm_code 131 26 = some (Instr.iconst (-1), 1, (-1), 0, 0, []) := rfl
theorem c_131_27 : mm_code 131 27 = some (Instr.ireturn, 1, 0, 0, 0, []) := rfl
theorem c_132_0 : mm_code 132 0 = some (Instr.aload_n 0, 1, 0, 0, 0, []) := rfl
theorem c_132_1 : mm_code 132 1 = some (Instr.getfield 52, 3, 0, 0, 9, [261]) := rfl
theorem c_132_4 : mm_code 132 4 = some (Instr.iload_n 1, 1, 0, 0, 0, []) := rfl
theorem c_132_5 : mm_code 132 5 = some (Instr.invokevirtual 69, 3, 7, 17, 1, [687, 350, 351, 57, 352]) := rfl
theorem c_132_8 : mm_code 132 8 = some (Instr.ireturn, 1, 0, 0, 0, []) := rfl
theorem c_134_0 : mm_code 134 0 = some (Instr.aload_n 0, 1, 0, 0, 0, []) := rfl
theorem c_134_1 : mm_code 134 1 = some (Instr.iconst 0, 1, 0, 0, 0, []) := rfl
theorem c_134_2 : mm_code 134 2 = some (Instr.putfield 112, 3, 1, 10, 0, [857]) := rfl
theorem c_134_5 : mm_code 134 5 = some (Instr.iload_n 3, 1, 0, 0, 0, []) := rfl
theorem c_134_6 : mm_code 134 6 = some (Instr.iconst 0, 1, 0, 0, 0, []) := rfl
theorem c_134_7 : mm_code 134 7 = some (Instr.bipush 8, 2, 8, 0, 0, []) := rfl
theorem c_134_9 : mm_code 134 9 = some (Instr.invokestatic 116, 3, 0, 135, 3, [1022, 1023, 66, 1024]) := rfl
theorem c_134_12 : mm_code 134 12 = some (Instr.ifCond .ne 6, 3, 0, 18, 0, []) := rfl
theorem c_134_15 : mm_code 134 15 = some (Instr.bipush (-2), 2, (-2), 0, 0, []) := rfl
theorem c_134_17 : mm_code 134 17 = some (Instr.ireturn, 1, 0, 0, 0, []) := rfl
theorem c_134_18 : mm_code 134 18 = some (Instr.iload_n 3, 1, 0, 0, 0, []) := rfl
theorem c_134_19 : mm_code 134 19 = some (Instr.ifCond .ne 10, 3, 0, 29, 0, []) := rfl
theorem c_134_22 : mm_code 134 22 = some (Instr.aload_n 0, 1, 0, 0, 0, []) := rfl
theorem c_134_23 : mm_code 134 23 = some (Instr.iconst 0, 1, 0, 0, 0, []) := rfl
theorem c_134_24 : mm_code 134 24 = some (Instr.putfield 122, 3, 1, 10, 2, [859]) := rfl
theorem c_134_27 : mm_code 134 27 = some (Instr.iconst 0, 1, 0, 0, 0, []) := rfl
theorem c_134_28 : mm_code 134 28 = some (Instr.ireturn, 1, 0, 0, 0, []) := rfl
theorem c_134_29 : mm_code 134 29 = some (Instr.aload_n 0, 1, 0, 0, 0, []) := rfl
theorem c_134_30 : mm_code 134 30 = some (Instr.getfield 122, 3, 0, 10, 2, [859]) := rfl
theorem c_134_33 : mm_code 134 33 = some (Instr.iload_n 3, 1, 0, 0, 0, []) := rfl
theorem c_134_34 : mm_code 134 34 = some (Instr.iadd, 1, 0, 0, 0, []) := rfl
theorem c_134_35 : mm_code 134 35 = some (Instr.sipush 400, 3, 400, 0, 0, []) := rfl
theorem c_134_38 : mm_code 134 38 = some (Instr.if_icmp .le 6, 3, 0, 44, 0, []) := rfl
theorem c_134_41 : mm_code 134 41 = some (Instr.bipush (-4), 2, (-4), 0, 0, []) := rfl
theorem c_134_43 : mm_code 134 43 = some (Instr.ireturn, 1, 0, 0, 0, []) := rfl
theorem c_134_44 : mm_code 134 44 = some (Instr.iload_n 3, 1, 0, 0, 0, []) := rfl
theorem c_134_45 : mm_code 134 45 = some (Instr.iconst 1, 1, 1, 0, 0, []) := rfl
theorem c_134_46 : mm_code 134 46 = some (Instr.isub, 1, 0, 0, 0, []) := rfl
theorem c_134_47 : mm_code 134 47 = some (Instr.istore 4, 2, 0, 0, 0, []) := rfl
theorem c_134_49 : mm_code 134 49 = some (Instr.iload 4, 2, 0, 0, 0, []) := rfl
theorem c_134_51 : mm_code 134 51 = some (Instr.ifCond .lt 37, 3, 0, 88, 0, []) := rfl
theorem c_134_54 : mm_code 134 54 = some (Instr.aload_n 0, 1, 0, 0, 0, []) := rfl
theorem c_134_55 : mm_code 134 55 = some (Instr.getfield 7, 3, 0, 10, 1, [858]) := rfl
theorem c_134_58 : mm_code 134 58 = some (Instr.aload_n 0, 1, 0, 0, 0, []) := rfl
theorem c_134_59 : mm_code 134 59 = some (Instr.getfield 122, 3, 0, 10, 2, [859]) := rfl
theorem c_134_62 : mm_code 134 62 = some (Instr.lload_n 1, 1, 0, 0, 0, []) := rfl
theorem c_134_63 : mm_code 134 63 = some (Instr.bipush 8, 2, 8, 0, 0, []) := rfl
theorem c_134_65 : mm_code 134 65 = some (Instr.iload 4, 2, 0, 0, 0, []) := rfl
theorem c_134_67 : mm_code 134 67 = some (Instr.imul, 1, 0, 0, 0, []) := rfl
theorem c_134_68 : mm_code 134 68 = some (Instr.lshr, 1, 0, 0, 0, []) := rfl
theorem c_134_69 : mm_code 134 69 = some (Instr.l2i, 1, 0, 0, 0, []) := rfl
set_option maxRecDepth 100000 in theorem c_134_70 : mm_code 134 70 = some (Instr.i2b, 1, 0, 0, 0, []) := rfl
set_option maxRecDepth 100000 in theorem c_134_71 : mm_code 134 71 = some (Instr.bastore, 1, 0, 0, 0, []) := rfl
set_option maxRecDepth 100000 in theorem c_134_72 : mm_code 134 72 = some (Instr.aload_n 0, 1, 0, 0, 0, []) := rfl
set_option maxRecDepth 100000 in theorem c_134_73 : mm_code 134 73 = some (Instr.dup, 1, 0, 0, 0, []) := rfl
set_option maxRecDepth 100000 in theorem c_134_74 : mm_code 134 74 = some (Instr.getfield 122, 3, 0, 10, 2, [859]) := rfl
set_option maxRecDepth 100000 in theorem c_134_77 : mm_code 134 77 = some (Instr.iconst 1, 1, 1, 0, 0, []) := rfl
set_option maxRecDepth 100000 in theorem c_134_78 : mm_code 134 78 = some (Instr.iadd, 1, 0, 0, 0, []) := rfl
set_option maxRecDepth 100000 in theorem c_134_79 : mm_code 134 79 = some (Instr.putfield 122, 3, 1, 10, 2, [859]) := rfl
set_option maxRecDepth 100000 in theorem c_134_82 : mm_code 134 82 = some (Instr.iinc 4 (-1), 3, 0, 0, 0, []) := rfl
set_option maxRecDepth 100000 in theorem c_134_85 : mm_code 134 85 = some (Instr.goto (-36), 3, 0, 49, 0, []) := rfl
set_option maxRecDepth 100000 in theorem c_134_88 : mm_code 134 88 = some (Instr.aload_n 0, 1, 0, 0, 0, []) := rfl
set_option maxRecDepth 100000 in theorem c_134_89 : mm_code 134 89 = some (Instr.getfield 122, 3, 0, 10, 2, [859]) := rfl
set_option maxRecDepth 100000 in theorem c_134_92 : mm_code 134 92 = some (Instr.ireturn, 1, 0, 0, 0, []) := rfl
theorem c_135_0 : mm_code 135 0 = some (Instr.iload_n 0, 1, 0, 0, 0, []) := rfl
theorem c_135_1 : mm_code 135 1 = some (Instr.iload_n 1, 1, 0, 0, 0, []) := rfl
theorem c_135_2 : mm_code 135 2 = some (Instr.if_icmp .lt 12, 3, 0, 14, 0, []) := rfl
theorem c_135_5 : mm_code 135 5 = some (Instr.iload_n 0, 1, 0, 0, 0, []) := rfl
theorem c_135_6 : mm_code 135 6 = some (Instr.iload_n 2, 1, 0, 0, 0, []) := rfl
theorem c_135_7 : mm_code 135 7 = some (Instr.if_icmp .gt 7, 3, 0, 14, 0, []) := rfl
theorem c_135_10 : mm_code 135 10 = some (Instr.iconst 1, 1, 1, 0, 0, []) := rfl
theorem c_135_11 : mm_code 135 11 = some (Instr.goto 4, 3, 0, 15, 0, []) := rfl
theorem c_135_14 : mm_code 135 14 = some (Instr.iconst 0, 1, 0, 0, 0, []) := rfl
theorem c_135_15 : mm_code 135 15 = some (Instr.ireturn, 1, 1, 0, 0, []) := rfl
theorem c_136_0 : mm_code 136 0 = some (Instr.aload_n 0, 1, 0, 0, 0, []) := rfl
theorem c_136_1 : mm_code 136 1 = some (Instr.iconst 0, 1, 0, 0, 0, []) := rfl
theorem c_136_2 : mm_code 136 2 = some (Instr.putfield 112, 3, 1, 10, 0, [857]) := rfl
theorem c_136_5 : mm_code 136 5 = some (Instr.aload_n 0, 1, 0, 0, 0, []) := rfl
theorem c_136_6 : mm_code 136 6 = some (Instr.invokevirtual 135, 3, 10, 137, 0, [1029, 1031, 24, 66, 1032]) := rfl
theorem c_136_9 : mm_code 136 9 = some (Instr.aload_n 0, 1, 0, 0, 0, []) := rfl
theorem c_136_10 : mm_code 136 10 = some (Instr.getfield 128, 3, 0, 10, 26, [883]) := rfl
theorem c_136_13 : mm_code 136 13 = some (Instr.bipush (-2), 2, (-2), 0, 0, []) := rfl
theorem c_136_15 : mm_code 136 15 = some (Instr.if_icmp .ne 6, 3, 0, 21, 0, []) := rfl
theorem c_136_18 : mm_code 136 18 = some (Instr.bipush (-4), 2, (-4), 0, 0, []) := rfl
theorem c_136_20 : mm_code 136 20 = some (Instr.ireturn, 1, 0, 0, 0, []) := rfl
theorem c_136_21 : mm_code 136 21 = some (Instr.aload_n 0, 1, 0, 0, 0, []) := rfl
theorem c_136_22 : mm_code 136 22 = some (Instr.getfield 128, 3, 0, 10, 26, [883]) := rfl
theorem c_136_25 : mm_code 136 25 = some (Instr.ifCond .lt 11, 3, 0, 36, 0, []) := rfl
theorem c_136_28 : mm_code 136 28 = some (Instr.bipush (-10), 2, (-10), 0, 0, []) := rfl
theorem c_136_30 : mm_code 136 30 = some (Instr.aload_n 0, 1, 0, 0, 0, []) := rfl
theorem c_136_31 : mm_code 136 31 = some (Instr.getfield 128, 3, 0, 10, 26, [883]) := rfl
theorem c_136_34 : mm_code 136 34 = some (Instr.isub, 1, 0, 0, 0, []) := rfl
theorem c_136_35 : mm_code 136 35 = some (Instr.ireturn, 1, 0, 0, 0, []) := rfl
theorem c_136_36 : mm_code 136 36 = some (Instr.iconst 0, 1, 0, 0, 0, []) := rfl
theorem c_136_37 : mm_code 136 37 = some (Instr.istore_n 1, 1, 0, 0, 0, []) := rfl
theorem c_136_38 : mm_code 136 38 = some (Instr.iload_n 1, 1, 0, 0, 0, []) := rfl
theorem c_136_39 : mm_code 136 39 = some (Instr.aload_n 0, 1, 0, 0, 0, []) := rfl
theorem c_136_40 : mm_code 136 40 = some (Instr.getfield 125, 3, 0, 10, 25, [882]) := rfl
theorem c_136_43 : mm_code 136 43 = some (Instr.if_icmp .ge 21, 3, 0, 64, 0, []) := rfl
theorem c_136_46 : mm_code 136 46 = some (Instr.aload_n 0, 1, 0, 0, 0, []) := rfl
theorem c_136_47 : mm_code 136 47 = some (Instr.getfield 13, 3, 0, 10, 3, [860]) := rfl
theorem c_136_50 : mm_code 136 50 = some (Instr.iload_n 1, 1, 0, 0, 0, []) := rfl
theorem c_136_51 : mm_code 136 51 = some (Instr.aload_n 0, 1, 0, 0, 0, []) := rfl
theorem c_136_52 : mm_code 136 52 = some (Instr.getfield 63, 3, 0, 10, 24, [881]) := rfl
theorem c_136_55 : mm_code 136 55 = some (Instr.iload_n 1, 1, 0, 0, 0, []) := rfl
theorem c_136_56 : mm_code 136 56 = some (Instr.iaload, 1, 0, 0, 0, []) := rfl
theorem c_136_57 : mm_code 136 57 = some (Instr.iastore, 1, 0, 0, 0, []) := rfl
theorem c_136_58 : mm_code 136 58 = some (Instr.iinc 1 1, 3, 0, 0, 0, []) := rfl
theorem c_136_61 : mm_code 136 61 = some (Instr.goto (-23), 3, 0, 38, 0, []) := rfl
theorem c_136_64 : mm_code 136 64 = some (Instr.aload_n 0, 1, 0, 0, 0, []) := rfl
theorem c_136_65 : mm_code 136 65 = some (Instr.aload_n 0, 1, 0, 0, 0, []) := rfl
theorem c_136_66 : mm_code 136 66 = some (Instr.getfield 125, 3, 0, 10, 25, [882]) := rfl
theorem c_136_69 : mm_code 136 69 = some (Instr.putfield 108, 3, 1, 10, 4, [861]) := rfl
theorem c_136_72 : mm_code 136 72 = some (Instr.aload_n 0, 1, 0, 0, 0, []) := rfl
theorem c_136_73 : mm_code 136 73 = some (Instr.getfield 108, 3, 0, 10, 4, [861]) := rfl
set_option maxRecDepth 100000 in theorem c_136_76 : mm_code 136 76 = some (Instr.ireturn, 1, 0, 0, 0, []) := rfl
theorem c_137_0 : mm_code 137 0 = some (Instr.aload_n 0, 1, 0, 0, 0, []) := rfl
theorem c_137_1 : mm_code 137 1 = some (Instr.iconst 0, 1, 0, 0, 0, []) := rfl
theorem c_137_2 : mm_code 137 2 = some (Instr.putfield 125, 3, 1, 10, 25, [882]) := rfl
theorem c_137_5 : mm_code 137 5 = some (Instr.aload_n 0, 1, 0, 0, 0, []) := rfl
theorem c_137_6 : mm_code 137 6 = some (Instr.iconst (-1), 1, (-1), 0, 0, []) := rfl
theorem c_137_7 : mm_code 137 7 = some (Instr.putfield 128, 3, 1, 10, 26, [883]) := rfl
theorem c_137_10 : mm_code 137 10 = some (Instr.iconst 0, 1, 0, 0, 0, []) := rfl
theorem c_137_11 : mm_code 137 11 = some (Instr.istore_n 1, 1, 0, 0, 0, []) := rfl
theorem c_137_12 : mm_code 137 12 = some (Instr.iload_n 1, 1, 0, 0, 0, []) := rfl
theorem c_137_13 : mm_code 137 13 = some (Instr.aload_n 0, 1, 0, 0, 0, []) := rfl
theorem c_137_14 : mm_code 137 14 = some (Instr.getfield 122, 3, 0, 10, 2, [859]) := rfl
theorem c_137_17 : mm_code 137 17 = some (Instr.if_icmp .ge 321, 3, 0, 338, 0, []) := rfl
theorem c_137_20 : mm_code 137 20 = some (Instr.aload_n 0, 1, 0, 0, 0, []) := rfl
theorem c_137_21 : mm_code 137 21 = some (Instr.getfield 128, 3, 0, 10, 26, [883]) := rfl
theorem c_137_24 : mm_code 137 24 = some (Instr.iconst (-1), 1, (-1), 0, 0, []) := rfl
theorem c_137_25 : mm_code 137 25 = some (Instr.if_icmp .ne 313, 3, 0, 338, 0, []) := rfl
theorem c_137_28 : mm_code 137 28 = some (Instr.aload_n 0, 1, 0, 0, 0, []) := rfl
theorem c_137_29 : mm_code 137 29 = some (Instr.iload_n 1, 1, 0, 0, 0, []) := rfl
theorem c_137_30 : mm_code 137 30 = some (Instr.invokevirtual 131, 3, 10, 138, 1, [1033, 1035, 25, 66, 1036]) := rfl
theorem c_137_33 : mm_code 137 33 = some (Instr.istore_n 2, 1, 0, 0, 0, []) := rfl
theorem c_137_34 : mm_code 137 34 = some (Instr.iload_n 2, 1, 0, 0, 0, []) := rfl
theorem c_137_35 : mm_code 137 35 = some (Instr.sipush 128, 3, 128, 0, 0, []) := rfl
theorem c_137_38 : mm_code 137 38 = some (Instr.if_icmp .ge 7, 3, 0, 45, 0, []) := rfl
theorem c_137_41 : mm_code 137 41 = some (Instr.iconst 0, 1, 0, 0, 0, []) := rfl
theorem c_137_42 : mm_code 137 42 = some (Instr.goto 55, 3, 0, 97, 0, []) := rfl
theorem c_137_45 : mm_code 137 45 = some (Instr.iload_n 2, 1, 0, 0, 0, []) := rfl
theorem c_137_46 : mm_code 137 46 = some (Instr.sipush 194, 3, 194, 0, 0, []) := rfl
theorem c_137_49 : mm_code 137 49 = some (Instr.sipush 223, 3, 223, 0, 0, []) := rfl
theorem c_137_52 : mm_code 137 52 = some (Instr.invokestatic 116, 3, 0, 135, 3, [1022, 1023, 66, 1024]) := rfl
theorem c_137_55 : mm_code 137 55 = some (Instr.ifCond .eq 7, 3, 0, 62, 0, []) := rfl
theorem c_137_58 : mm_code 137 58 = some (Instr.iconst 1, 1, 1, 0, 0, []) := rfl
theorem c_137_59 : mm_code 137 59 = some (Instr.goto 38, 3, 0, 97, 0, []) := rfl
theorem c_137_62 : mm_code 137 62 = some (Instr.iload_n 2, 1, 0, 0, 0, []) := rfl
theorem c_137_63 : mm_code 137 63 = some (Instr.sipush 224, 3, 224, 0, 0, []) := rfl
theorem c_137_66 : mm_code 137 66 = some (Instr.sipush 239, 3, 239, 0, 0, []) := rfl
theorem c_137_69 : mm_code 137 69 = some (Instr.invokestatic 116, 3, 0, 135, 3, [1022, 1023, 66, 1024]) := rfl
theorem c_137_72 : mm_code 137 72 = some (Instr.ifCond .eq 7, 3, 0, 79, 0, []) := rfl
theorem c_137_75 : mm_code 137 75 = some (Instr.iconst 2, 1, 2, 0, 0, []) := rfl
theorem c_137_76 : mm_code 137 76 = some (Instr.goto 21, 3, 0, 97, 0, []) := rfl
theorem c_137_79 : mm_code 137 79 = some (Instr.iload_n 2, 1, 0, 0, 0, []) := rfl
theorem c_137_80 : mm_code 137 80 = some (Instr.sipush 240, 3, 240, 0, 0, []) := rfl
set_option maxRecDepth 100000 in theorem c_137_83 : mm_code 137 83 = some (Instr.sipush 244, 3, 244, 0, 0, []) := rfl
set_option maxRecDepth 100000 in theorem c_137_86 : mm_code 137 86 = some (Instr.invokestatic 116, 3, 0, 135, 3, [1022, 1023, 66, 1024]) := rfl
set_option maxRecDepth 100000 in theorem c_137_89 : mm_code 137 89 = some (Instr.ifCond .eq 7, 3, 0, 96, 0, []) := rfl
set_option maxRecDepth 100000 in theorem c_137_92 : mm_code 137 92 = some (Instr.iconst 3, 1, 3, 0, 0, []) := rfl
set_option maxRecDepth 100000 in theorem c_137_93 : mm_code 137 93 = some (Instr.goto 4, 3, 0, 97, 0, []) := rfl
set_option maxRecDepth 100000 in theorem c_137_96 : mm_code 137 96 = some (Instr.iconst (-1), 1, (-1), 0, 0, []) := rfl
set_option maxRecDepth 100000 in theorem c_137_97 : mm_code 137 97 = some (Instr.istore_n 3, 1, 0, 0, 0, []) := rfl
set_option maxRecDepth 100000 in theorem c_137_98 : mm_code 137 98 = some (Instr.iload_n 3, 1, 0, 0, 0, []) := rfl
set_option maxRecDepth 100000 in theorem c_137_99 : mm_code 137 99 = some (Instr.ifCond .ge 9, 3, 0, 108, 0, []) := rfl
set_option maxRecDepth 100000 in theorem c_137_102 : mm_code 137 102 = some (Instr.aload_n 0, 1, 0, 0, 0, []) := rfl
set_option maxRecDepth 100000 in theorem c_137_103 : mm_code 137 103 = some (Instr.iload_n 1, 1, 0, 0, 0, []) := rfl
set_option maxRecDepth 100000 in theorem c_137_104 : mm_code 137 104 = some (Instr.putfield 128, 3, 1, 10, 26, [883]) := rfl
set_option maxRecDepth 100000 in theorem c_137_107 : mm_code 137 107 = some (Instr.return_, 1, 0, 0, 0, []) := rfl
set_option maxRecDepth 100000 in theorem c_137_108 : mm_code 137 108 = some (Instr.iload_n 3, 1, 0, 0, 0, []) := rfl
set_option maxRecDepth 100000 in theorem c_137_109 : mm_code 137 109 = some (Instr.ifCond .ne 7, 3, 0, 116, 0, []) := rfl
set_option maxRecDepth 100000 in theorem c_137_112 : mm_code 137 112 = some (Instr.iload_n 2, 1, 0, 0, 0, []) := rfl
set_option maxRecDepth 100000 in theorem c_137_113 : mm_code 137 113 = some (Instr.goto 31, 3, 0, 144, 0, []) := rfl
set_option maxRecDepth 100000 in theorem c_137_116 : mm_code 137 116 = some (Instr.iload_n 3, 1, 0, 0, 0, []) := rfl
set_option maxRecDepth 100000 in theorem c_137_117 : mm_code 137 117 = some (Instr.iconst 1, 1, 1, 0, 0, []) := rfl
set_option maxRecDepth 100000 in theorem c_137_118 : mm_code 137 118 = some (Instr.if_icmp .ne 10, 3, 0, 128, 0, []) := rfl
set_option maxRecDepth 100000 in theorem c_137_121 : mm_code 137 121 = some (Instr.iload_n 2, 1, 0, 0, 0, []) := rfl
set_option maxRecDepth 100000 in theorem c_137_122 : mm_code 137 122 = some (Instr.bipush 31, 2, 31, 0, 0, []) := rfl
set_option maxRecDepth 100000 in theorem c_137_124 : mm_code 137 124 = some (Instr.iand, 1, 0, 0, 0, []) := rfl
set_option maxRecDepth 100000 in theorem c_137_125 : mm_code 137 125 = some (Instr.goto 19, 3, 0, 144, 0, []) := rfl
set_option maxRecDepth 100000 in theorem c_137_128 : mm_code 137 128 = some (Instr.iload_n 3, 1, 0, 0, 0, []) := rfl
set_option maxRecDepth 100000 in theorem c_137_129 : mm_code 137 129 = some (Instr.iconst 2, 1, 2, 0, 0, []) := rfl
set_option maxRecDepth 100000 in theorem c_137_130 : mm_code 137 130 = some (Instr.if_icmp .ne 10, 3, 0, 140, 0, []) := rfl
set_option maxRecDepth 100000 in theorem c_137_133 : mm_code 137 133 = some (Instr.iload_n 2, 1, 0, 0, 0, []) := rfl
set_option maxRecDepth 100000 in theorem c_137_134 : mm_code 137 134 = some (Instr.bipush 15, 2, 15, 0, 0, []) := rfl
set_option maxRecDepth 100000 in theorem c_137_136 : mm_code 137 136 = some (Instr.iand, 1, 0, 0, 0, []) := rfl
set_option maxRecDepth 100000 in theorem c_137_137 : mm_code 137 137 = some (Instr.goto 7, 3, 0, 144, 0, []) := rfl
set_option maxRecDepth 100000 in theorem c_137_140 : mm_code 137 140 = some (Instr.iload_n 2, 1, 0, 0, 0, []) := rfl
set_option maxRecDepth 100000 in theorem c_137_141 : mm_code 137 141 = some (Instr.bipush 7, 2, 7, 0, 0, []) := rfl
set_option maxRecDepth 100000 in theorem c_137_143 : mm_code 137 143 = some (Instr.iand, 1, 0, 0, 0, []) := rfl
set_option maxRecDepth 100000 in theorem c_137_144 : mm_code 137 144 = some (Instr.istore 4, 2, 0, 0, 0, []) := rfl
set_option maxRecDepth 100000 in theorem c_137_146 : mm_code 137 146 = some (Instr.iconst 1, 1, 1, 0, 0, []) := rfl
set_option maxRecDepth 100000 in theorem c_137_147 : mm_code 137 147 = some (Instr.istore 5, 2, 0, 0, 0, []) := rfl
set_option maxRecDepth 100000 in theorem c_137_149 : mm_code 137 149 = some (Instr.iload 5, 2, 0, 0, 0, []) := rfl
set_option maxRecDepth 100000 in theorem c_137_151 : mm_code 137 151 = some (Instr.iload_n 3, 1, 0, 0, 0, []) := rfl
set_option maxRecDepth 100000 in theorem c_137_152 : mm_code 137 152 = some (Instr.if_icmp .gt 139, 3, 0, 291, 0, []) := rfl
set_option maxRecDepth 100000 in theorem c_137_155 : mm_code 137 155 = some (Instr.aload_n 0, 1, 0, 0, 0, []) := rfl
set_option maxRecDepth 100000 in theorem c_137_156 : mm_code 137 156 = some (Instr.iload_n 1, 1, 0, 0, 0, []) := rfl
set_option maxRecDepth 100000 in theorem c_137_157 : mm_code 137 157 = some (Instr.iload 5, 2, 0, 0, 0, []) := rfl
set_option maxRecDepth 100000 in theorem c_137_159 : mm_code 137 159 = some (Instr.iadd, 1, 0, 0, 0, []) := rfl
set_option maxRecDepth 100000 in theorem c_137_160 : mm_code 137 160 = some (Instr.invokevirtual 131, 3, 10, 138, 1, [1033, 1035, 25, 66, 1036]) := rfl
set_option maxRecDepth 100000 in theorem c_137_163 : mm_code 137 163 = some (Instr.istore 6, 2, 0, 0, 0, []) := rfl
set_option maxRecDepth 100000 in theorem c_137_165 : mm_code 137 165 = some (Instr.iload 5, 2, 0, 0, 0, []) := rfl
set_option maxRecDepth 100000 in theorem c_137_167 : mm_code 137 167 = some (Instr.iconst 1, 1, 1, 0, 0, []) := rfl
set_option maxRecDepth 100000 in theorem c_137_168 : mm_code 137 168 = some (Instr.if_icmp .le 9, 3, 0, 177, 0, []) := rfl
set_option maxRecDepth 100000 in theorem c_137_171 : mm_code 137 171 = some (Instr.sipush 128, 3, 128, 0, 0, []) := rfl
set_option maxRecDepth 100000 in theorem c_137_174 : mm_code 137 174 = some (Instr.goto 32, 3, 0, 206, 0, []) := rfl
set_option maxRecDepth 100000 in theorem c_137_177 : mm_code 137 177 = some (Instr.iload_n 2, 1, 0, 0, 0, []) := rfl
set_option maxRecDepth 100000 in theorem c_137_178 : mm_code 137 178 = some (Instr.sipush 224, 3, 224, 0, 0, []) := rfl
set_option maxRecDepth 100000 in theorem c_137_181 : mm_code 137 181 = some (Instr.if_icmp .ne 9, 3, 0, 190, 0, []) := rfl
set_option maxRecDepth 100000 in theorem c_137_184 : mm_code 137 184 = some (Instr.sipush 160, 3, 160, 0, 0, []) := rfl
set_option maxRecDepth 100000 in theorem c_137_187 : mm_code 137 187 = some (Instr.goto 19, 3, 0, 206, 0, []) := rfl
set_option maxRecDepth 100000 in theorem c_137_190 : mm_code 137 190 = some (Instr.iload_n 2, 1, 0, 0, 0, []) := rfl
set_option maxRecDepth 100000 in theorem c_137_191 : mm_code 137 191 = some (Instr.sipush 240, 3, 240, 0, 0, []) := rfl
set_option maxRecDepth 100000 in theorem c_137_194 : mm_code 137 194 = some (Instr.if_icmp .ne 9, 3, 0, 203, 0, []) := rfl
set_option maxRecDepth 100000 in theorem c_137_197 : mm_code 137 197 = some (Instr.sipush 144, 3, 144, 0, 0, []) := rfl
set_option maxRecDepth 100000 in theorem c_137_200 : mm_code 137 200 = some (Instr.goto 6, 3, 0, 206, 0, []) := rfl
set_option maxRecDepth 100000 in theorem c_137_203 : mm_code 137 203 = some (Instr.sipush 128, 3, 128, 0, 0, []) := rfl
set_option maxRecDepth 100000 in theorem c_137_206 : mm_code 137 206 = some (Instr.istore 7, 2, 0, 0, 0, []) := rfl
set_option maxRecDepth 100000 in theorem c_137_208 : mm_code 137 208 = some (Instr.iload 5, 2, 0, 0, 0, []) := rfl
set_option maxRecDepth 100000 in theorem c_137_210 : mm_code 137 210 = some (Instr.iconst 1, 1, 1, 0, 0, []) := rfl
set_option maxRecDepth 100000 in theorem c_137_211 : mm_code 137 211 = some (Instr.if_icmp .le 9, 3, 0, 220, 0, []) := rfl
set_option maxRecDepth 100000 in theorem c_137_214 : mm_code 137 214 = some (Instr.sipush 191, 3, 191, 0, 0, []) := rfl
set_option maxRecDepth 100000 in theorem c_137_217 : mm_code 137 217 = some (Instr.goto 32, 3, 0, 249, 0, []) := rfl
set_option maxRecDepth 100000 in theorem c_137_220 : mm_code 137 220 = some (Instr.iload_n 2, 1, 0, 0, 0, []) := rfl
set_option maxRecDepth 100000 in theorem c_137_221 : mm_code 137 221 = some (Instr.sipush 237, 3, 237, 0, 0, []) := rfl
set_option maxRecDepth 100000 in theorem c_137_224 : mm_code 137 224 = some (Instr.if_icmp .ne 9, 3, 0, 233, 0, []) := rfl
set_option maxRecDepth 100000 in theorem c_137_227 : mm_code 137 227 = some (Instr.sipush 159, 3, 159, 0, 0, []) := rfl
set_option maxRecDepth 100000 in theorem c_137_230 : mm_code 137 230 = some (Instr.goto 19, 3, 0, 249, 0, []) := rfl
set_option maxRecDepth 100000 in theorem c_137_233 : mm_code 137 233 = some (Instr.iload_n 2, 1, 0, 0, 0, []) := rfl
set_option maxRecDepth 100000 in theorem c_137_234 : mm_code 137 234 = some (Instr.sipush 244, 3, 244, 0, 0, []) := rfl
set_option maxRecDepth 100000 in theorem c_137_237 : mm_code 137 237 = some (Instr.if_icmp .ne 9, 3, 0, 246, 0, []) := rfl
set_option maxRecDepth 100000 in theorem c_137_240 : mm_code 137 240 = some (Instr.sipush 143, 3, 143, 0, 0, []) := rfl
set_option maxRecDepth 100000 in theorem c_137_243 : mm_code 137 243 = some (Instr.goto 6, 3, 0, 249, 0, []) := rfl
set_option maxRecDepth 100000 in theorem c_137_246 : mm_code 137 246 = some (Instr.sipush 191, 3, 191, 0, 0, []) := rfl
set_option maxRecDepth 100000 in theorem c_137_249 : mm_code 137 249 = some (Instr.istore 8, 2, 0, 0, 0, []) := rfl
set_option maxRecDepth 100000 in theorem c_137_251 : mm_code 137 251 = some (Instr.iload 6, 2, 0, 0, 0, []) := rfl
set_option maxRecDepth 100000 in theorem c_137_253 : mm_code 137 253 = some (Instr.iload 7, 2, 0, 0, 0, []) := rfl
set_option maxRecDepth 100000 in theorem c_137_255 : mm_code 137 255 = some (Instr.iload 8, 2, 0, 0, 0, []) := rfl
set_option maxRecDepth 100000 in theorem c_137_257 : mm_code 137 257 = some (Instr.invokestatic 116, 3, 0, 135, 3, [1022, 1023, 66, 1024]) := rfl
set_option maxRecDepth 100000 in theorem c_137_260 : mm_code 137 260 = some (Instr.ifCond .ne 12, 3, 0, 272, 0, []) := rfl
set_option maxRecDepth 100000 in theorem c_137_263 : mm_code 137 263 = some (Instr.aload_n 0, 1, 0, 0, 0, []) := rfl
set_option maxRecDepth 100000 in theorem c_137_264 : mm_code 137 264 = some (Instr.iload_n 1, 1, 0, 0, 0, []) := rfl
set_option maxRecDepth 100000 in theorem c_137_265 : mm_code 137 265 = some (Instr.iload 5, 2, 0, 0, 0, []) := rfl
set_option maxRecDepth 100000 in theorem c_137_267 : mm_code 137 267 = some (Instr.iadd, 1, 0, 0, 0, []) := rfl
set_option maxRecDepth 100000 in theorem c_137_268 : mm_code 137 268 = some (Instr.putfield 128, 3, 1, 10, 26, [883]) := rfl
set_option maxRecDepth 100000 in theorem c_137_271 : mm_code 137 271 = some (Instr.return_, 1, 0, 0, 0, []) := rfl
set_option maxRecDepth 100000 in theorem c_137_272 : mm_code 137 272 = some (Instr.iload 4, 2, 0, 0, 0, []) := rfl
set_option maxRecDepth 100000 in theorem c_137_274 : mm_code 137 274 = some (Instr.bipush 6, 2, 6, 0, 0, []) := rfl
set_option maxRecDepth 100000 in theorem c_137_276 : mm_code 137 276 = some (Instr.ishl, 1, 0, 0, 0, []) := rfl
set_option maxRecDepth 100000 in theorem c_137_277 : mm_code 137 277 = some (Instr.iload 6, 2, 0, 0, 0, []) := rfl
set_option maxRecDepth 100000 in theorem c_137_279 : mm_code 137 279 = some (Instr.bipush 63, 2, 63, 0, 0, []) := rfl
set_option maxRecDepth 100000 in theorem c_137_281 : mm_code 137 281 = some (Instr.iand, 1, 0, 0, 0, []) := rfl
set_option maxRecDepth 100000 in theorem c_137_282 : mm_code 137 282 = some (Instr.ior, 1, 0, 0, 0, []) := rfl
set_option maxRecDepth 100000 in theorem c_137_283 : mm_code 137 283 = some (Instr.istore 4, 2, 0, 0, 0, []) := rfl
set_option maxRecDepth 100000 in theorem c_137_285 : mm_code 137 285 = some (Instr.iinc 5 1, 3, 0, 0, 0, []) := rfl
set_option maxRecDepth 100000 in theorem c_137_288 : mm_code 137 288 = some (Instr.goto (-139), 3, 0, 149, 0, []) := rfl
set_option maxRecDepth 100000 in theorem c_137_291 : mm_code 137 291 = some (Instr.aload_n 0, 1, 0, 0, 0, []) := rfl
set_option maxRecDepth 100000 in theorem c_137_292 : mm_code 137 292 = some (Instr.getfield 125, 3, 0, 10, 25, [882]) := rfl
set_option maxRecDepth 100000 in theorem c_137_295 : mm_code 137 295 = some (Instr.sipush 300, 3, 300, 0, 0, []) := rfl
set_option maxRecDepth 100000 in theorem c_137_298 : mm_code 137 298 = some (Instr.if_icmp .ne 10, 3, 0, 308, 0, []) := rfl
set_option maxRecDepth 100000 in theorem c_137_301 : mm_code 137 301 = some (Instr.aload_n 0, 1, 0, 0, 0, []) := rfl
set_option maxRecDepth 100000 in theorem c_137_302 : mm_code 137 302 = some (Instr.bipush (-2), 2, (-2), 0, 0, []) := rfl
set_option maxRecDepth 100000 in theorem c_137_304 : mm_code 137 304 = some (Instr.putfield 128, 3, 1, 10, 26, [883]) := rfl
set_option maxRecDepth 100000 in theorem c_137_307 : mm_code 137 307 = some (Instr.return_, 1, 0, 0, 0, []) := rfl
set_option maxRecDepth 100000 in theorem c_137_308 : mm_code 137 308 = some (Instr.aload_n 0, 1, 0, 0, 0, []) := rfl
set_option maxRecDepth 100000 in theorem c_137_309 : mm_code 137 309 = some (Instr.getfield 63, 3, 0, 10, 24, [881]) := rfl
set_option maxRecDepth 100000 in theorem c_137_312 : mm_code 137 312 = some (Instr.aload_n 0, 1, 0, 0, 0, []) := rfl
set_option maxRecDepth 100000 in theorem c_137_313 : mm_code 137 313 = some (Instr.getfield 125, 3, 0, 10, 25, [882]) := rfl
set_option maxRecDepth 100000 in theorem c_137_316 : mm_code 137 316 = some (Instr.iload 4, 2, 0, 0, 0, []) := rfl
set_option maxRecDepth 100000 in theorem c_137_318 : mm_code 137 318 = some (Instr.iastore, 1, 0, 0, 0, []) := rfl
set_option maxRecDepth 100000 in theorem c_137_319 : mm_code 137 319 = some (Instr.aload_n 0, 1, 0, 0, 0, []) := rfl
set_option maxRecDepth 100000 in theorem c_137_320 : mm_code 137 320 = some (Instr.dup, 1, 0, 0, 0, []) := rfl
set_option maxRecDepth 100000 in theorem c_137_321 : mm_code 137 321 = some (Instr.getfield 125, 3, 0, 10, 25, [882]) := rfl
set_option maxRecDepth 100000 in theorem c_137_324 : mm_code 137 324 = some (Instr.iconst 1, 1, 1, 0, 0, []) := rfl
set_option maxRecDepth 100000 in theorem c_137_325 : mm_code 137 325 = some (Instr.iadd, 1, 0, 0, 0, []) := rfl
set_option maxRecDepth 100000 in theorem c_137_326 : mm_code 137 326 = some (Instr.putfield 125, 3, 1, 10, 25, [882]) := rfl
set_option maxRecDepth 100000 in theorem c_137_329 : mm_code 137 329 = some (Instr.iload_n 1, 1, 0, 0, 0, []) := rfl
set_option maxRecDepth 100000 in theorem c_137_330 : mm_code 137 330 = some (Instr.iload_n 3, 1, 0, 0, 0, []) := rfl
set_option maxRecDepth 100000 in theorem c_137_331 : mm_code 137 331 = some (Instr.iconst 1, 1, 1, 0, 0, []) := rfl
set_option maxRecDepth 100000 in theorem c_137_332 : mm_code 137 332 = some (Instr.iadd, 1, 0, 0, 0, []) := rfl
set_option maxRecDepth 100000 in theorem c_137_333 : mm_code 137 333 = some (Instr.iadd, 1, 0, 0, 0, []) := rfl
set_option maxRecDepth 100000 in theorem c_137_334 : mm_code 137 334 = some (Instr.istore_n 1, 1, 0, 0, 0, []) := rfl
set_option maxRecDepth 100000 in theorem c_137_335 : mm_code 137 335 = some (Instr.goto (-323), 3, 0, 12, 0, []) := rfl
set_option maxRecDepth 100000 in theorem c_137_338 : mm_code 137 338 = some (Instr.return_, 1, 0, 0, 0, []) := rfl
theorem c_138_0 : mm_code 138 0 = some (Instr.iload_n 1, 1, 0, 0, 0, []) := rfl
theorem c_138_1 : mm_code 138 1 = some (Instr.aload_n 0, 1, 0, 0, 0, []) := rfl
theorem c_138_2 : mm_code 138 2 = some (Instr.getfield 122, 3, 0, 10, 2, [859]) := rfl
theorem c_138_5 : mm_code 138 5 = some (Instr.if_icmp .ge 16, 3, 0, 21, 0, []) := rfl
theorem c_138_8 : mm_code 138 8 = some (Instr.aload_n 0, 1, 0, 0, 0, []) := rfl
theorem c_138_9 : mm_code 138 9 = some (Instr.getfield 7, 3, 0, 10, 1, [858]) := rfl
theorem c_138_12 : mm_code 138 12 = some (Instr.iload_n 1, 1, 0, 0, 0, []) := rfl
theorem c_138_13 : mm_code 138 13 = some (Instr.baload, 1, 0, 0, 0, []) := rfl
theorem c_138_14 : mm_code 138 14 = some (Instr.sipush 255, 3, 255, 0, 0, []) := rfl
theorem c_138_17 : mm_code 138 17 = some (Instr.iand, 1, 0, 0, 0, []) := rfl
theorem c_138_18 : mm_code 138 18 = some (Instr.goto 4, 3, 0, 22, 0, []) := rfl
theorem c_138_21 : mm_code 138 21 = some (Instr.iconst (-1), 1, (-1), 0, 0, []) := rfl
theorem c_138_22 : mm_code 138 22 = some (Instr.ireturn, 1, 0, 0, 0, []) := rfl
theorem c_139_0 : mm_code 139 0 = some (Instr.aload_n 0, 1, 0, 0, 0, []) := rfl
theorem c_139_1 : mm_code 139 1 = some (Instr.iconst 0, 1, 0, 0, 0, []) := rfl
theorem c_139_2 : mm_code 139 2 = some (Instr.putfield 112, 3, 1, 10, 0, [857]) := rfl
theorem c_139_5 : mm_code 139 5 = some (Instr.iload_n 1, 1, 0, 0, 0, []) := rfl
theorem c_139_6 : mm_code 139 6 = some (Instr.iconst 0, 1, 0, 0, 0, []) := rfl
theorem c_139_7 : mm_code 139 7 = some (Instr.aload_n 0, 1, 0, 0, 0, []) := rfl
theorem c_139_8 : mm_code 139 8 = some (Instr.getfield 108, 3, 0, 10, 4, [861]) := rfl
theorem c_139_11 : mm_code 139 11 = some (Instr.iconst 1, 1, 1, 0, 0, []) := rfl
theorem c_139_12 : mm_code 139 12 = some (Instr.isub, 1, 0, 0, 0, []) := rfl
theorem c_139_13 : mm_code 139 13 = some (Instr.invokestatic 116, 3, 0, 135, 3, [1022, 1023, 66, 1024]) := rfl
theorem c_139_16 : mm_code 139 16 = some (Instr.ifCond .eq 12, 3, 0, 28, 0, []) := rfl
theorem c_139_19 : mm_code 139 19 = some (Instr.aload_n 0, 1, 0, 0, 0, []) := rfl
theorem c_139_20 : mm_code 139 20 = some (Instr.getfield 13, 3, 0, 10, 3, [860]) := rfl
theorem c_139_23 : mm_code 139 23 = some (Instr.iload_n 1, 1, 0, 0, 0, []) := rfl
theorem c_139_24 : mm_code 139 24 = some (Instr.iaload, 1, 0, 0, 0, []) := rfl
theorem c_139_25 : mm_code 139 25 = some (Instr.goto 4, 3, 0, 29, 0, []) := rfl
theorem c_139_28 : mm_code 139 28 = some (Instr.iconst (-1), 1, (-1), 0, 0, []) := rfl
theorem c_139_29 : mm_code 139 29 = some (Instr.ireturn, 1, 0, 0, 0, []) := rfl
theorem c_140_0 : mm_code 140 0 = some (Instr.aload_n 0, 1, 0, 0, 0, []) := rfl
theorem c_140_1 : mm_code 140 1 = some (Instr.iconst 0, 1, 0, 0, 0, []) := rfl
theorem c_140_2 : mm_code 140 2 = some (Instr.putfield 112, 3, 1, 10, 0, [857]) := rfl
theorem c_140_5 : mm_code 140 5 = some (Instr.iload_n 1, 1, 0, 0, 0, []) := rfl
theorem c_140_6 : mm_code 140 6 = some (Instr.iconst (-1), 1, (-1), 0, 0, []) := rfl
theorem c_140_7 : mm_code 140 7 = some (Instr.if_icmp .ne 10, 3, 0, 17, 0, []) := rfl
theorem c_140_10 : mm_code 140 10 = some (Instr.aload_n 0, 1, 0, 0, 0, []) := rfl
theorem c_140_11 : mm_code 140 11 = some (Instr.iconst 0, 1, 0, 0, 0, []) := rfl
theorem c_140_12 : mm_code 140 12 = some (Instr.putfield 108, 3, 1, 10, 4, [861]) := rfl
theorem c_140_15 : mm_code 140 15 = some (Instr.iconst 0, 1, 0, 0, 0, []) := rfl
theorem c_140_16 : mm_code 140 16 = some (Instr.ireturn, 1, 0, 0, 0, []) := rfl
theorem c_140_17 : mm_code 140 17 = some (Instr.iload_n 1, 1, 0, 0, 0, []) := rfl
theorem c_140_18 : mm_code 140 18 = some (Instr.invokestatic 138, 3, 0, 141, 1, [1045, 1046, 66, 1047]) := rfl
theorem c_140_21 : mm_code 140 21 = some (Instr.ifCond .ne 6, 3, 0, 27, 0, []) := rfl
theorem c_140_24 : mm_code 140 24 = some (Instr.bipush (-2), 2, (-2), 0, 0, []) := rfl
theorem c_140_26 : mm_code 140 26 = some (Instr.ireturn, 1, 0, 0, 0, []) := rfl
theorem c_140_27 : mm_code 140 27 = some (Instr.aload_n 0, 1, 0, 0, 0, []) := rfl
theorem c_140_28 : mm_code 140 28 = some (Instr.getfield 108, 3, 0, 10, 4, [861]) := rfl
theorem c_140_31 : mm_code 140 31 = some (Instr.sipush 300, 3, 300, 0, 0, []) := rfl
theorem c_140_34 : mm_code 140 34 = some (Instr.if_icmp .ne 6, 3, 0, 40, 0, []) := rfl
theorem c_140_37 : mm_code 140 37 = some (Instr.bipush (-4), 2, (-4), 0, 0, []) := rfl
theorem c_140_39 : mm_code 140 39 = some (Instr.ireturn, 1, 0, 0, 0, []) := rfl
theorem c_140_40 : mm_code 140 40 = some (Instr.aload_n 0, 1, 0, 0, 0, []) := rfl
theorem c_140_41 : mm_code 140 41 = some (Instr.getfield 13, 3, 0, 10, 3, [860]) := rfl
theorem c_140_44 : mm_code 140 44 = some (Instr.aload_n 0, 1, 0, 0, 0, []) := rfl
theorem c_140_45 : mm_code 140 45 = some (Instr.getfield 108, 3, 0, 10, 4, [861]) := rfl
theorem c_140_48 : mm_code 140 48 = some (Instr.iload_n 1, 1, 0, 0, 0, []) := rfl
theorem c_140_49 : mm_code 140 49 = some (Instr.iastore, 1, 0, 0, 0, []) := rfl
theorem c_140_50 : mm_code 140 50 = some (Instr.aload_n 0, 1, 0, 0, 0, []) := rfl
theorem c_140_51 : mm_code 140 51 = some (Instr.dup, 1, 0, 0, 0, []) := rfl
theorem c_140_52 : mm_code 140 52 = some (Instr.getfield 108, 3, 0, 10, 4, [861]) := rfl
theorem c_140_55 : mm_code 140 55 = some (Instr.iconst 1, 1, 1, 0, 0, []) := rfl
theorem c_140_56 : mm_code 140 56 = some (Instr.iadd, 1, 0, 0, 0, []) := rfl
theorem c_140_57 : mm_code 140 57 = some (Instr.putfield 108, 3, 1, 10, 4, [861]) := rfl
theorem c_140_60 : mm_code 140 60 = some (Instr.aload_n 0, 1, 0, 0, 0, []) := rfl
theorem c_140_61 : mm_code 140 61 = some (Instr.getfield 108, 3, 0, 10, 4, [861]) := rfl
theorem c_140_64 : mm_code 140 64 = some (Instr.ireturn, 1, 0, 0, 0, []) := rfl
theorem c_141_0 : mm_code 141 0 = some (Instr.iload_n 0, 1, 0, 0, 0, []) := rfl
theorem c_141_1 : mm_code 141 1 = some (Instr.iconst 0, 1, 0, 0, 0, []) := rfl
theorem c_141_2 : mm_code 141 2 = some (Instr.ldc 115, 2, 1114111, 0, 0, [1048]) := rfl
theorem c_141_4 : mm_code 141 4 = some (Instr.invokestatic 116, 3, 0, 135, 3, [1022, 1023, 66, 1024]) := rfl
theorem c_141_7 : mm_code 141 7 = some (Instr.ifCond .eq 18, 3, 0, 25, 0, []) := rfl
theorem c_141_10 : mm_code 141 10 = some (Instr.iload_n 0, 1, 0, 0, 0, []) := rfl
theorem c_141_11 : mm_code 141 11 = some (Instr.ldc 120, 2, 55296, 0, 0, [1049]) := rfl
theorem c_141_13 : mm_code 141 13 = some (Instr.ldc 121, 2, 57343, 0, 0, [1050]) := rfl
theorem c_141_15 : mm_code 141 15 = some (Instr.invokestatic 116, 3, 0, 135, 3, [1022, 1023, 66, 1024]) := rfl
theorem c_141_18 : mm_code 141 18 = some (Instr.ifCond .ne 7, 3, 0, 25, 0, []) := rfl
theorem c_141_21 : mm_code 141 21 = some (Instr.iconst 1, 1, 1, 0, 0, []) := rfl
theorem c_141_22 : mm_code 141 22 = some (Instr.goto 4, 3, 0, 26, 0, []) := rfl
theorem c_141_25 : mm_code 141 25 = some (Instr.iconst 0, 1, 0, 0, 0, []) := rfl
theorem c_141_26 : mm_code 141 26 = some (Instr.ireturn, 1, 1, 0, 0, []) := rfl
theorem c_142_0 : mm_code 142 0 = some (Instr.aload_n 0, 1, 0, 0, 0, []) := rfl
theorem c_142_1 : mm_code 142 1 = some (Instr.iconst 0, 1, 0, 0, 0, []) := rfl
theorem c_142_2 : mm_code 142 2 = some (Instr.putfield 112, 3, 1, 10, 0, [857]) := rfl
theorem c_142_5 : mm_code 142 5 = some (Instr.iload_n 1, 1, 0, 0, 0, []) := rfl
theorem c_142_6 : mm_code 142 6 = some (Instr.iconst 0, 1, 0, 0, 0, []) := rfl
theorem c_142_7 : mm_code 142 7 = some (Instr.ldc 115, 2, 1114111, 0, 0, [1048]) := rfl
theorem c_142_9 : mm_code 142 9 = some (Instr.invokestatic 116, 3, 0, 135, 3, [1022, 1023, 66, 1024]) := rfl
theorem c_142_12 : mm_code 142 12 = some (Instr.ifCond .eq 32, 3, 0, 44, 0, []) := rfl
theorem c_142_15 : mm_code 142 15 = some (Instr.iload_n 2, 1, 0, 0, 0, []) := rfl
theorem c_142_16 : mm_code 142 16 = some (Instr.iconst 0, 1, 0, 0, 0, []) := rfl
theorem c_142_17 : mm_code 142 17 = some (Instr.ldc 115, 2, 1114111, 0, 0, [1048]) := rfl
theorem c_142_19 : mm_code 142 19 = some (Instr.invokestatic 116, 3, 0, 135, 3, [1022, 1023, 66, 1024]) := rfl
theorem c_142_22 : mm_code 142 22 = some (Instr.ifCond .eq 22, 3, 0, 44, 0, []) := rfl
theorem c_142_25 : mm_code 142 25 = some (Instr.iload_n 1, 1, 0, 0, 0, []) := rfl
theorem c_142_26 : mm_code 142 26 = some (Instr.iload_n 2, 1, 0, 0, 0, []) := rfl
theorem c_142_27 : mm_code 142 27 = some (Instr.if_icmp .gt 17, 3, 0, 44, 0, []) := rfl
theorem c_142_30 : mm_code 142 30 = some (Instr.iload_n 3, 1, 0, 0, 0, []) := rfl
theorem c_142_31 : mm_code 142 31 = some (Instr.ifCond .eq 16, 3, 0, 47, 0, []) := rfl
theorem c_142_34 : mm_code 142 34 = some (Instr.iload_n 3, 1, 0, 0, 0, []) := rfl
theorem c_142_35 : mm_code 142 35 = some (Instr.iconst 1, 1, 1, 0, 0, []) := rfl
theorem c_142_36 : mm_code 142 36 = some (Instr.if_icmp .eq 11, 3, 0, 47, 0, []) := rfl
theorem c_142_39 : mm_code 142 39 = some (Instr.iload_n 3, 1, 0, 0, 0, []) := rfl
theorem c_142_40 : mm_code 142 40 = some (Instr.iconst 3, 1, 3, 0, 0, []) := rfl
theorem c_142_41 : mm_code 142 41 = some (Instr.if_icmp .eq 6, 3, 0, 47, 0, []) := rfl
theorem c_142_44 : mm_code 142 44 = some (Instr.bipush (-2), 2, (-2), 0, 0, []) := rfl
theorem c_142_46 : mm_code 142 46 = some (Instr.ireturn, 1, 0, 0, 0, []) := rfl
theorem c_142_47 : mm_code 142 47 = some (Instr.aload_n 0, 1, 0, 0, 0, []) := rfl
theorem c_142_48 : mm_code 142 48 = some (Instr.getfield 142, 3, 0, 10, 5, [862]) := rfl
theorem c_142_51 : mm_code 142 51 = some (Instr.sipush 200, 3, 200, 0, 0, []) := rfl
theorem c_142_54 : mm_code 142 54 = some (Instr.if_icmp .ne 6, 3, 0, 60, 0, []) := rfl
theorem c_142_57 : mm_code 142 57 = some (Instr.bipush (-4), 2, (-4), 0, 0, []) := rfl
theorem c_142_59 : mm_code 142 59 = some (Instr.ireturn, 1, 0, 0, 0, []) := rfl
theorem c_142_60 : mm_code 142 60 = some (Instr.aload_n 0, 1, 0, 0, 0, []) := rfl
theorem c_142_61 : mm_code 142 61 = some (Instr.iload_n 1, 1, 0, 0, 0, []) := rfl
theorem c_142_62 : mm_code 142 62 = some (Instr.iload_n 2, 1, 0, 0, 0, []) := rfl
theorem c_142_63 : mm_code 142 63 = some (Instr.iload_n 3, 1, 0, 0, 0, []) := rfl
theorem c_142_64 : mm_code 142 64 = some (Instr.invokevirtual 145, 3, 10, 143, 3, [1055, 1057, 26, 66, 1058]) := rfl
theorem c_142_67 : mm_code 142 67 = some (Instr.iconst 1, 1, 1, 0, 0, []) := rfl
theorem c_142_68 : mm_code 142 68 = some (Instr.ireturn, 1, 0, 0, 0, []) := rfl
theorem c_143_0 : mm_code 143 0 = some (Instr.aload_n 0, 1, 0, 0, 0, []) := rfl
theorem c_143_1 : mm_code 143 1 = some (Instr.getfield 17, 3, 0, 10, 6, [863]) := rfl
theorem c_143_4 : mm_code 143 4 = some (Instr.aload_n 0, 1, 0, 0, 0, []) := rfl
theorem c_143_5 : mm_code 143 5 = some (Instr.getfield 142, 3, 0, 10, 5, [862]) := rfl
theorem c_143_8 : mm_code 143 8 = some (Instr.iload_n 1, 1, 0, 0, 0, []) := rfl
theorem c_143_9 : mm_code 143 9 = some (Instr.iastore, 1, 0, 0, 0, []) := rfl
theorem c_143_10 : mm_code 143 10 = some (Instr.aload_n 0, 1, 0, 0, 0, []) := rfl
theorem c_143_11 : mm_code 143 11 = some (Instr.getfield 20, 3, 0, 10, 7, [864]) := rfl
theorem c_143_14 : mm_code 143 14 = some (Instr.aload_n 0, 1, 0, 0, 0, []) := rfl
theorem c_143_15 : mm_code 143 15 = some (Instr.getfield 142, 3, 0, 10, 5, [862]) := rfl
theorem c_143_18 : mm_code 143 18 = some (Instr.iload_n 2, 1, 0, 0, 0, []) := rfl
theorem c_143_19 : mm_code 143 19 = some (Instr.iastore, 1, 0, 0, 0, []) := rfl
theorem c_143_20 : mm_code 143 20 = some (Instr.aload_n 0, 1, 0, 0, 0, []) := rfl
theorem c_143_21 : mm_code 143 21 = some (Instr.getfield 23, 3, 0, 10, 8, [865]) := rfl
theorem c_143_24 : mm_code 143 24 = some (Instr.aload_n 0, 1, 0, 0, 0, []) := rfl
theorem c_143_25 : mm_code 143 25 = some (Instr.getfield 142, 3, 0, 10, 5, [862]) := rfl
theorem c_143_28 : mm_code 143 28 = some (Instr.iload_n 3, 1, 0, 0, 0, []) := rfl
theorem c_143_29 : mm_code 143 29 = some (Instr.iastore, 1, 0, 0, 0, []) := rfl
theorem c_143_30 : mm_code 143 30 = some (Instr.aload_n 0, 1, 0, 0, 0, []) := rfl
theorem c_143_31 : mm_code 143 31 = some (Instr.getfield 29, 3, 0, 10, 10, [867]) := rfl
theorem c_143_34 : mm_code 143 34 = some (Instr.aload_n 0, 1, 0, 0, 0, []) := rfl
theorem c_143_35 : mm_code 143 35 = some (Instr.getfield 142, 3, 0, 10, 5, [862]) := rfl
theorem c_143_38 : mm_code 143 38 = some (Instr.iconst 0, 1, 0, 0, 0, []) := rfl
theorem c_143_39 : mm_code 143 39 = some (Instr.iastore, 1, 0, 0, 0, []) := rfl
theorem c_143_40 : mm_code 143 40 = some (Instr.aload_n 0, 1, 0, 0, 0, []) := rfl
theorem c_143_41 : mm_code 143 41 = some (Instr.dup, 1, 0, 0, 0, []) := rfl
theorem c_143_42 : mm_code 143 42 = some (Instr.getfield 142, 3, 0, 10, 5, [862]) := rfl
theorem c_143_45 : mm_code 143 45 = some (Instr.iconst 1, 1, 1, 0, 0, []) := rfl
theorem c_143_46 : mm_code 143 46 = some (Instr.iadd, 1, 0, 0, 0, []) := rfl
theorem c_143_47 : mm_code 143 47 = some (Instr.putfield 142, 3, 1, 10, 5, [862]) := rfl
theorem c_143_50 : mm_code 143 50 = some (Instr.return_, 1, 0, 0, 0, []) := rfl
theorem c_144_0 : mm_code 144 0 = some (Instr.aload_n 0, 1, 0, 0, 0, []) := rfl
theorem c_144_1 : mm_code 144 1 = some (Instr.iconst 0, 1, 0, 0, 0, []) := rfl
theorem c_144_2 : mm_code 144 2 = some (Instr.putfield 112, 3, 1, 10, 0, [857]) := rfl
theorem c_144_5 : mm_code 144 5 = some (Instr.iload_n 1, 1, 0, 0, 0, []) := rfl
theorem c_144_6 : mm_code 144 6 = some (Instr.invokestatic 138, 3, 0, 141, 1, [1045, 1046, 66, 1047]) := rfl
theorem c_144_9 : mm_code 144 9 = some (Instr.ifCond .eq 15, 3, 0, 24, 0, []) := rfl
theorem c_144_12 : mm_code 144 12 = some (Instr.aload_n 0, 1, 0, 0, 0, []) := rfl
theorem c_144_13 : mm_code 144 13 = some (Instr.getfield 108, 3, 0, 10, 4, [861]) := rfl
theorem c_144_16 : mm_code 144 16 = some (Instr.iconst 1, 1, 1, 0, 0, []) := rfl
theorem c_144_17 : mm_code 144 17 = some (Instr.iconst 4, 1, 4, 0, 0, []) := rfl
theorem c_144_18 : mm_code 144 18 = some (Instr.invokestatic 116, 3, 0, 135, 3, [1022, 1023, 66, 1024]) := rfl
theorem c_144_21 : mm_code 144 21 = some (Instr.ifCond .ne 6, 3, 0, 27, 0, []) := rfl
theorem c_144_24 : mm_code 144 24 = some (Instr.bipush (-2), 2, (-2), 0, 0, []) := rfl
theorem c_144_26 : mm_code 144 26 = some (Instr.ireturn, 1, 0, 0, 0, []) := rfl
theorem c_144_27 : mm_code 144 27 = some (Instr.aload_n 0, 1, 0, 0, 0, []) := rfl
theorem c_144_28 : mm_code 144 28 = some (Instr.getfield 142, 3, 0, 10, 5, [862]) := rfl
theorem c_144_31 : mm_code 144 31 = some (Instr.sipush 200, 3, 200, 0, 0, []) := rfl
theorem c_144_34 : mm_code 144 34 = some (Instr.if_icmp .ne 6, 3, 0, 40, 0, []) := rfl
theorem c_144_37 : mm_code 144 37 = some (Instr.bipush (-4), 2, (-4), 0, 0, []) := rfl
theorem c_144_39 : mm_code 144 39 = some (Instr.ireturn, 1, 0, 0, 0, []) := rfl
theorem c_144_40 : mm_code 144 40 = some (Instr.aload_n 0, 1, 0, 0, 0, []) := rfl
theorem c_144_41 : mm_code 144 41 = some (Instr.iload_n 1, 1, 0, 0, 0, []) := rfl
theorem c_144_42 : mm_code 144 42 = some (Instr.iload_n 1, 1, 0, 0, 0, []) := rfl
theorem c_144_43 : mm_code 144 43 = some (Instr.iconst 2, 1, 2, 0, 0, []) := rfl
theorem c_144_44 : mm_code 144 44 = some (Instr.invokevirtual 145, 3, 10, 143, 3, [1055, 1057, 26, 66, 1058]) := rfl
theorem c_144_47 : mm_code 144 47 = some (Instr.iconst 0, 1, 0, 0, 0, []) := rfl
theorem c_144_48 : mm_code 144 48 = some (Instr.istore_n 2, 1, 0, 0, 0, []) := rfl
theorem c_144_49 : mm_code 144 49 = some (Instr.iload_n 2, 1, 0, 0, 0, []) := rfl
theorem c_144_50 : mm_code 144 50 = some (Instr.aload_n 0, 1, 0, 0, 0, []) := rfl
theorem c_144_51 : mm_code 144 51 = some (Instr.getfield 108, 3, 0, 10, 4, [861]) := rfl
theorem c_144_54 : mm_code 144 54 = some (Instr.if_icmp .ge 30, 3, 0, 84, 0, []) := rfl
theorem c_144_57 : mm_code 144 57 = some (Instr.aload_n 0, 1, 0, 0, 0, []) := rfl
theorem c_144_58 : mm_code 144 58 = some (Instr.getfield 26, 3, 0, 10, 9, [866]) := rfl
theorem c_144_61 : mm_code 144 61 = some (Instr.iconst 4, 1, 4, 0, 0, []) := rfl
theorem c_144_62 : mm_code 144 62 = some (Instr.aload_n 0, 1, 0, 0, 0, []) := rfl
theorem c_144_63 : mm_code 144 63 = some (Instr.getfield 142, 3, 0, 10, 5, [862]) := rfl
theorem c_144_66 : mm_code 144 66 = some (Instr.iconst 1, 1, 1, 0, 0, []) := rfl
theorem c_144_67 : mm_code 144 67 = some (Instr.isub, 1, 0, 0, 0, []) := rfl
theorem c_144_68 : mm_code 144 68 = some (Instr.imul, 1, 0, 0, 0, []) := rfl
theorem c_144_69 : mm_code 144 69 = some (Instr.iload_n 2, 1, 0, 0, 0, []) := rfl
theorem c_144_70 : mm_code 144 70 = some (Instr.iadd, 1, 0, 0, 0, []) := rfl
set_option maxRecDepth 100000 in theorem c_144_71 : mm_code 144 71 = some (Instr.aload_n 0, 1, 0, 0, 0, []) := rfl
set_option maxRecDepth 100000 in theorem c_144_72 : mm_code 144 72 = some (Instr.getfield 13, 3, 0, 10, 3, [860]) := rfl
set_option maxRecDepth 100000 in theorem c_144_75 : mm_code 144 75 = some (Instr.iload_n 2, 1, 0, 0, 0, []) := rfl
set_option maxRecDepth 100000 in theorem c_144_76 : mm_code 144 76 = some (Instr.iaload, 1, 0, 0, 0, []) := rfl
set_option maxRecDepth 100000 in theorem c_144_77 : mm_code 144 77 = some (Instr.iastore, 1, 0, 0, 0, []) := rfl
set_option maxRecDepth 100000 in theorem c_144_78 : mm_code 144 78 = some (Instr.iinc 2 1, 3, 0, 0, 0, []) := rfl
set_option maxRecDepth 100000 in theorem c_144_81 : mm_code 144 81 = some (Instr.goto (-32), 3, 0, 49, 0, []) := rfl
set_option maxRecDepth 100000 in theorem c_144_84 : mm_code 144 84 = some (Instr.aload_n 0, 1, 0, 0, 0, []) := rfl
set_option maxRecDepth 100000 in theorem c_144_85 : mm_code 144 85 = some (Instr.getfield 29, 3, 0, 10, 10, [867]) := rfl
set_option maxRecDepth 100000 in theorem c_144_88 : mm_code 144 88 = some (Instr.aload_n 0, 1, 0, 0, 0, []) := rfl
set_option maxRecDepth 100000 in theorem c_144_89 : mm_code 144 89 = some (Instr.getfield 142, 3, 0, 10, 5, [862]) := rfl
set_option maxRecDepth 100000 in theorem c_144_92 : mm_code 144 92 = some (Instr.iconst 1, 1, 1, 0, 0, []) := rfl
set_option maxRecDepth 100000 in theorem c_144_93 : mm_code 144 93 = some (Instr.isub, 1, 0, 0, 0, []) := rfl
set_option maxRecDepth 100000 in theorem c_144_94 : mm_code 144 94 = some (Instr.aload_n 0, 1, 0, 0, 0, []) := rfl
set_option maxRecDepth 100000 in theorem c_144_95 : mm_code 144 95 = some (Instr.getfield 108, 3, 0, 10, 4, [861]) := rfl
set_option maxRecDepth 100000 in theorem c_144_98 : mm_code 144 98 = some (Instr.iastore, 1, 0, 0, 0, []) := rfl
set_option maxRecDepth 100000 in theorem c_144_99 : mm_code 144 99 = some (Instr.iconst 1, 1, 1, 0, 0, []) := rfl
set_option maxRecDepth 100000 in theorem c_144_100 : mm_code 144 100 = some (Instr.ireturn, 1, 0, 0, 0, []) := rfl
theorem c_145_0 : mm_code 145 0 = some (Instr.aload_n 0, 1, 0, 0, 0, []) := rfl
theorem c_145_1 : mm_code 145 1 = some (Instr.iconst 0, 1, 0, 0, 0, []) := rfl
theorem c_145_2 : mm_code 145 2 = some (Instr.putfield 112, 3, 1, 10, 0, [857]) := rfl
theorem c_145_5 : mm_code 145 5 = some (Instr.iload_n 1, 1, 0, 0, 0, []) := rfl
theorem c_145_6 : mm_code 145 6 = some (Instr.invokestatic 138, 3, 0, 141, 1, [1045, 1046, 66, 1047]) := rfl
theorem c_145_9 : mm_code 145 9 = some (Instr.ifCond .eq 59, 3, 0, 68, 0, []) := rfl
theorem c_145_12 : mm_code 145 12 = some (Instr.iload_n 2, 1, 0, 0, 0, []) := rfl
theorem c_145_13 : mm_code 145 13 = some (Instr.invokestatic 138, 3, 0, 141, 1, [1045, 1046, 66, 1047]) := rfl
theorem c_145_16 : mm_code 145 16 = some (Instr.ifCond .eq 52, 3, 0, 68, 0, []) := rfl
theorem c_145_19 : mm_code 145 19 = some (Instr.iload_n 3, 1, 0, 0, 0, []) := rfl
theorem c_145_20 : mm_code 145 20 = some (Instr.invokestatic 138, 3, 0, 141, 1, [1045, 1046, 66, 1047]) := rfl
theorem c_145_23 : mm_code 145 23 = some (Instr.ifCond .eq 45, 3, 0, 68, 0, []) := rfl
theorem c_145_26 : mm_code 145 26 = some (Instr.iload_n 2, 1, 0, 0, 0, []) := rfl
theorem c_145_27 : mm_code 145 27 = some (Instr.iload_n 1, 1, 0, 0, 0, []) := rfl
theorem c_145_28 : mm_code 145 28 = some (Instr.if_icmp .ge 40, 3, 0, 68, 0, []) := rfl
theorem c_145_31 : mm_code 145 31 = some (Instr.iload_n 3, 1, 0, 0, 0, []) := rfl
theorem c_145_32 : mm_code 145 32 = some (Instr.iload_n 1, 1, 0, 0, 0, []) := rfl
theorem c_145_33 : mm_code 145 33 = some (Instr.if_icmp .ge 35, 3, 0, 68, 0, []) := rfl
theorem c_145_36 : mm_code 145 36 = some (Instr.iload_n 2, 1, 0, 0, 0, []) := rfl
theorem c_145_37 : mm_code 145 37 = some (Instr.ifCond .eq 31, 3, 0, 68, 0, []) := rfl
theorem c_145_40 : mm_code 145 40 = some (Instr.iload_n 1, 1, 0, 0, 0, []) := rfl
theorem c_145_41 : mm_code 145 41 = some (Instr.sipush 128, 3, 128, 0, 0, []) := rfl
theorem c_145_44 : mm_code 145 44 = some (Instr.if_icmp .lt 24, 3, 0, 68, 0, []) := rfl
theorem c_145_47 : mm_code 145 47 = some (Instr.iload_n 1, 1, 0, 0, 0, []) := rfl
theorem c_145_48 : mm_code 145 48 = some (Instr.invokestatic 157, 3, 0, 146, 1, [1067, 1068, 66, 1069]) := rfl
theorem c_145_51 : mm_code 145 51 = some (Instr.ifCond .ne 17, 3, 0, 68, 0, []) := rfl
theorem c_145_54 : mm_code 145 54 = some (Instr.iload_n 2, 1, 0, 0, 0, []) := rfl
theorem c_145_55 : mm_code 145 55 = some (Instr.invokestatic 157, 3, 0, 146, 1, [1067, 1068, 66, 1069]) := rfl
theorem c_145_58 : mm_code 145 58 = some (Instr.ifCond .ne 10, 3, 0, 68, 0, []) := rfl
theorem c_145_61 : mm_code 145 61 = some (Instr.iload_n 3, 1, 0, 0, 0, []) := rfl
theorem c_145_62 : mm_code 145 62 = some (Instr.invokestatic 157, 3, 0, 146, 1, [1067, 1068, 66, 1069]) := rfl
theorem c_145_65 : mm_code 145 65 = some (Instr.ifCond .eq 6, 3, 0, 71, 0, []) := rfl
theorem c_145_68 : mm_code 145 68 = some (Instr.bipush (-2), 2, (-2), 0, 0, []) := rfl
theorem c_145_70 : mm_code 145 70 = some (Instr.ireturn, 1, 0, 0, 0, []) := rfl
theorem c_145_71 : mm_code 145 71 = some (Instr.iconst 0, 1, 0, 0, 0, []) := rfl
theorem c_145_72 : mm_code 145 72 = some (Instr.istore 5, 2, 0, 0, 0, []) := rfl
theorem c_145_74 : mm_code 145 74 = some (Instr.iload 5, 2, 0, 0, 0, []) := rfl
theorem c_145_76 : mm_code 145 76 = some (Instr.aload_n 0, 1, 0, 0, 0, []) := rfl
theorem c_145_77 : mm_code 145 77 = some (Instr.getfield 160, 3, 0, 10, 11, [868]) := rfl
theorem c_145_80 : mm_code 145 80 = some (Instr.if_icmp .ge 76, 3, 0, 156, 0, []) := rfl
theorem c_145_83 : mm_code 145 83 = some (Instr.iload_n 3, 1, 0, 0, 0, []) := rfl
set_option maxRecDepth 100000 in theorem c_145_84 : mm_code 145 84 = some (Instr.ifCond .eq 44, 3, 0, 128, 0, []) := rfl
set_option maxRecDepth 100000 in theorem c_145_87 : mm_code 145 87 = some (Instr.iload 4, 2, 0, 0, 0, []) := rfl
set_option maxRecDepth 100000 in theorem c_145_89 : mm_code 145 89 = some (Instr.ifCond .ne 39, 3, 0, 128, 0, []) := rfl
set_option maxRecDepth 100000 in theorem c_145_92 : mm_code 145 92 = some (Instr.aload_n 0, 1, 0, 0, 0, []) := rfl
set_option maxRecDepth 100000 in theorem c_145_93 : mm_code 145 93 = some (Instr.getfield 41, 3, 0, 10, 15, [872]) := rfl
set_option maxRecDepth 100000 in theorem c_145_96 : mm_code 145 96 = some (Instr.iload 5, 2, 0, 0, 0, []) := rfl
set_option maxRecDepth 100000 in theorem c_145_98 : mm_code 145 98 = some (Instr.baload, 1, 0, 0, 0, []) := rfl
set_option maxRecDepth 100000 in theorem c_145_99 : mm_code 145 99 = some (Instr.ifCond .ne 29, 3, 0, 128, 0, []) := rfl
set_option maxRecDepth 100000 in theorem c_145_102 : mm_code 145 102 = some (Instr.aload_n 0, 1, 0, 0, 0, []) := rfl
set_option maxRecDepth 100000 in theorem c_145_103 : mm_code 145 103 = some (Instr.getfield 35, 3, 0, 10, 13, [870]) := rfl
set_option maxRecDepth 100000 in theorem c_145_106 : mm_code 145 106 = some (Instr.iload 5, 2, 0, 0, 0, []) := rfl
set_option maxRecDepth 100000 in theorem c_145_108 : mm_code 145 108 = some (Instr.iaload, 1, 0, 0, 0, []) := rfl
set_option maxRecDepth 100000 in theorem c_145_109 : mm_code 145 109 = some (Instr.iload_n 2, 1, 0, 0, 0, []) := rfl
set_option maxRecDepth 100000 in theorem c_145_110 : mm_code 145 110 = some (Instr.if_icmp .ne 18, 3, 0, 128, 0, []) := rfl
set_option maxRecDepth 100000 in theorem c_145_113 : mm_code 145 113 = some (Instr.aload_n 0, 1, 0, 0, 0, []) := rfl
set_option maxRecDepth 100000 in theorem c_145_114 : mm_code 145 114 = some (Instr.getfield 38, 3, 0, 10, 14, [871]) := rfl
set_option maxRecDepth 100000 in theorem c_145_117 : mm_code 145 117 = some (Instr.iload 5, 2, 0, 0, 0, []) := rfl
set_option maxRecDepth 100000 in theorem c_145_119 : mm_code 145 119 = some (Instr.iaload, 1, 0, 0, 0, []) := rfl
set_option maxRecDepth 100000 in theorem c_145_120 : mm_code 145 120 = some (Instr.iload_n 3, 1, 0, 0, 0, []) := rfl
set_option maxRecDepth 100000 in theorem c_145_121 : mm_code 145 121 = some (Instr.if_icmp .ne 7, 3, 0, 128, 0, []) := rfl
set_option maxRecDepth 100000 in theorem c_145_124 : mm_code 145 124 = some (Instr.iconst 1, 1, 1, 0, 0, []) := rfl
set_option maxRecDepth 100000 in theorem c_145_125 : mm_code 145 125 = some (Instr.goto 4, 3, 0, 129, 0, []) := rfl
set_option maxRecDepth 100000 in theorem c_145_128 : mm_code 145 128 = some (Instr.iconst 0, 1, 0, 0, 0, []) := rfl
set_option maxRecDepth 100000 in theorem c_145_129 : mm_code 145 129 = some (Instr.istore 6, 2, 0, 0, 0, []) := rfl
set_option maxRecDepth 100000 in theorem c_145_131 : mm_code 145 131 = some (Instr.aload_n 0, 1, 0, 0, 0, []) := rfl
set_option maxRecDepth 100000 in theorem c_145_132 : mm_code 145 132 = some (Instr.getfield 32, 3, 0, 10, 12, [869]) := rfl
set_option maxRecDepth 100000 in theorem c_145_135 : mm_code 145 135 = some (Instr.iload 5, 2, 0, 0, 0, []) := rfl
set_option maxRecDepth 100000 in theorem c_145_137 : mm_code 145 137 = some (Instr.iaload, 1, 0, 0, 0, []) := rfl
set_option maxRecDepth 100000 in theorem c_145_138 : mm_code 145 138 = some (Instr.iload_n 1, 1, 0, 0, 0, []) := rfl
set_option maxRecDepth 100000 in theorem c_145_139 : mm_code 145 139 = some (Instr.if_icmp .eq 8, 3, 0, 147, 0, []) := rfl
set_option maxRecDepth 100000 in theorem c_145_142 : mm_code 145 142 = some (Instr.iload 6, 2, 0, 0, 0, []) := rfl
set_option maxRecDepth 100000 in theorem c_145_144 : mm_code 145 144 = some (Instr.ifCond .eq 6, 3, 0, 150, 0, []) := rfl
set_option maxRecDepth 100000 in theorem c_145_147 : mm_code 145 147 = some (Instr.bipush (-3), 2, (-3), 0, 0, []) := rfl
set_option maxRecDepth 100000 in theorem c_145_149 : mm_code 145 149 = some (Instr.ireturn, 1, 0, 0, 0, []) := rfl
set_option maxRecDepth 100000 in theorem c_145_150 : mm_code 145 150 = some (Instr.iinc 5 1, 3, 0, 0, 0, []) := rfl
set_option maxRecDepth 100000 in theorem c_145_153 : mm_code 145 153 = some (Instr.goto (-79), 3, 0, 74, 0, []) := rfl
set_option maxRecDepth 100000 in theorem c_145_156 : mm_code 145 156 = some (Instr.aload_n 0, 1, 0, 0, 0, []) := rfl
set_option maxRecDepth 100000 in theorem c_145_157 : mm_code 145 157 = some (Instr.getfield 160, 3, 0, 10, 11, [868]) := rfl
set_option maxRecDepth 100000 in theorem c_145_160 : mm_code 145 160 = some (Instr.bipush 100, 2, 100, 0, 0, []) := rfl
set_option maxRecDepth 100000 in theorem c_145_162 : mm_code 145 162 = some (Instr.if_icmp .ne 6, 3, 0, 168, 0, []) := rfl
set_option maxRecDepth 100000 in theorem c_145_165 : mm_code 145 165 = some (Instr.bipush (-4), 2, (-4), 0, 0, []) := rfl
set_option maxRecDepth 100000 in theorem c_145_167 : mm_code 145 167 = some (Instr.ireturn, 1, 0, 0, 0, []) := rfl
set_option maxRecDepth 100000 in theorem c_145_168 : mm_code 145 168 = some (Instr.aload_n 0, 1, 0, 0, 0, []) := rfl
set_option maxRecDepth 100000 in theorem c_145_169 : mm_code 145 169 = some (Instr.getfield 32, 3, 0, 10, 12, [869]) := rfl
set_option maxRecDepth 100000 in theorem c_145_172 : mm_code 145 172 = some (Instr.aload_n 0, 1, 0, 0, 0, []) := rfl
set_option maxRecDepth 100000 in theorem c_145_173 : mm_code 145 173 = some (Instr.getfield 160, 3, 0, 10, 11, [868]) := rfl
set_option maxRecDepth 100000 in theorem c_145_176 : mm_code 145 176 = some (Instr.iload_n 1, 1, 0, 0, 0, []) := rfl
set_option maxRecDepth 100000 in theorem c_145_177 : mm_code 145 177 = some (Instr.iastore, 1, 0, 0, 0, []) := rfl
set_option maxRecDepth 100000 in theorem c_145_178 : mm_code 145 178 = some (Instr.aload_n 0, 1, 0, 0, 0, []) := rfl
set_option maxRecDepth 100000 in theorem c_145_179 : mm_code 145 179 = some (Instr.getfield 35, 3, 0, 10, 13, [870]) := rfl
set_option maxRecDepth 100000 in theorem c_145_182 : mm_code 145 182 = some (Instr.aload_n 0, 1, 0, 0, 0, []) := rfl
set_option maxRecDepth 100000 in theorem c_145_183 : mm_code 145 183 = some (Instr.getfield 160, 3, 0, 10, 11, [868]) := rfl
set_option maxRecDepth 100000 in theorem c_145_186 : mm_code 145 186 = some (Instr.iload_n 2, 1, 0, 0, 0, []) := rfl
set_option maxRecDepth 100000 in theorem c_145_187 : mm_code 145 187 = some (Instr.iastore, 1, 0, 0, 0, []) := rfl
set_option maxRecDepth 100000 in theorem c_145_188 : mm_code 145 188 = some (Instr.aload_n 0, 1, 0, 0, 0, []) := rfl
set_option maxRecDepth 100000 in theorem c_145_189 : mm_code 145 189 = some (Instr.getfield 38, 3, 0, 10, 14, [871]) := rfl
set_option maxRecDepth 100000 in theorem c_145_192 : mm_code 145 192 = some (Instr.aload_n 0, 1, 0, 0, 0, []) := rfl
set_option maxRecDepth 100000 in theorem c_145_193 : mm_code 145 193 = some (Instr.getfield 160, 3, 0, 10, 11, [868]) := rfl
set_option maxRecDepth 100000 in theorem c_145_196 : mm_code 145 196 = some (Instr.iload_n 3, 1, 0, 0, 0, []) := rfl
set_option maxRecDepth 100000 in theorem c_145_197 : mm_code 145 197 = some (Instr.iastore, 1, 0, 0, 0, []) := rfl
set_option maxRecDepth 100000 in theorem c_145_198 : mm_code 145 198 = some (Instr.aload_n 0, 1, 0, 0, 0, []) := rfl
set_option maxRecDepth 100000 in theorem c_145_199 : mm_code 145 199 = some (Instr.getfield 41, 3, 0, 10, 15, [872]) := rfl
set_option maxRecDepth 100000 in theorem c_145_202 : mm_code 145 202 = some (Instr.aload_n 0, 1, 0, 0, 0, []) := rfl
set_option maxRecDepth 100000 in theorem c_145_203 : mm_code 145 203 = some (Instr.getfield 160, 3, 0, 10, 11, [868]) := rfl
set_option maxRecDepth 100000 in theorem c_145_206 : mm_code 145 206 = some (Instr.iload 4, 2, 0, 0, 0, []) := rfl
set_option maxRecDepth 100000 in theorem c_145_208 : mm_code 145 208 = some (Instr.bastore, 1, 0, 0, 0, []) := rfl
set_option maxRecDepth 100000 in theorem c_145_209 : mm_code 145 209 = some (Instr.aload_n 0, 1, 0, 0, 0, []) := rfl
set_option maxRecDepth 100000 in theorem c_145_210 : mm_code 145 210 = some (Instr.dup, 1, 0, 0, 0, []) := rfl
set_option maxRecDepth 100000 in theorem c_145_211 : mm_code 145 211 = some (Instr.getfield 160, 3, 0, 10, 11, [868]) := rfl
set_option maxRecDepth 100000 in theorem c_145_214 : mm_code 145 214 = some (Instr.iconst 1, 1, 1, 0, 0, []) := rfl
set_option maxRecDepth 100000 in theorem c_145_215 : mm_code 145 215 = some (Instr.iadd, 1, 0, 0, 0, []) := rfl
set_option maxRecDepth 100000 in theorem c_145_216 : mm_code 145 216 = some (Instr.putfield 160, 3, 1, 10, 11, [868]) := rfl
set_option maxRecDepth 100000 in theorem c_145_219 : mm_code 145 219 = some (Instr.aload_n 0, 1, 0, 0, 0, []) := rfl
set_option maxRecDepth 100000 in theorem c_145_220 : mm_code 145 220 = some (Instr.getfield 160, 3, 0, 10, 11, [868]) := rfl
set_option maxRecDepth 100000 in theorem c_145_223 : mm_code 145 223 = some (Instr.ireturn, 1, 0, 0, 0, []) := rfl
theorem c_146_0 : mm_code 146 0 = some (Instr.iload_n 0, 1, 0, 0, 0, []) := rfl
theorem c_146_1 : mm_code 146 1 = some (Instr.invokestatic 154, 3, 0, 147, 1, [1070, 1071, 66, 1072]) := rfl
theorem c_146_4 : mm_code 146 4 = some (Instr.ifCond .ne 42, 3, 0, 46, 0, []) := rfl
theorem c_146_7 : mm_code 146 7 = some (Instr.iload_n 0, 1, 0, 0, 0, []) := rfl
theorem c_146_8 : mm_code 146 8 = some (Instr.sipush 4352, 3, 4352, 0, 0, []) := rfl
theorem c_146_11 : mm_code 146 11 = some (Instr.sipush 4370, 3, 4370, 0, 0, []) := rfl
theorem c_146_14 : mm_code 146 14 = some (Instr.invokestatic 116, 3, 0, 135, 3, [1022, 1023, 66, 1024]) := rfl
theorem c_146_17 : mm_code 146 17 = some (Instr.ifCond .ne 29, 3, 0, 46, 0, []) := rfl
theorem c_146_20 : mm_code 146 20 = some (Instr.iload_n 0, 1, 0, 0, 0, []) := rfl
theorem c_146_21 : mm_code 146 21 = some (Instr.sipush 4449, 3, 4449, 0, 0, []) := rfl
theorem c_146_24 : mm_code 146 24 = some (Instr.sipush 4469, 3, 4469, 0, 0, []) := rfl
theorem c_146_27 : mm_code 146 27 = some (Instr.invokestatic 116, 3, 0, 135, 3, [1022, 1023, 66, 1024]) := rfl
theorem c_146_30 : mm_code 146 30 = some (Instr.ifCond .ne 16, 3, 0, 46, 0, []) := rfl
theorem c_146_33 : mm_code 146 33 = some (Instr.iload_n 0, 1, 0, 0, 0, []) := rfl
theorem c_146_34 : mm_code 146 34 = some (Instr.sipush 4520, 3, 4520, 0, 0, []) := rfl
theorem c_146_37 : mm_code 146 37 = some (Instr.sipush 4546, 3, 4546, 0, 0, []) := rfl
theorem c_146_40 : mm_code 146 40 = some (Instr.invokestatic 116, 3, 0, 135, 3, [1022, 1023, 66, 1024]) := rfl
theorem c_146_43 : mm_code 146 43 = some (Instr.ifCond .eq 7, 3, 0, 50, 0, []) := rfl
theorem c_146_46 : mm_code 146 46 = some (Instr.iconst 1, 1, 1, 0, 0, []) := rfl
theorem c_146_47 : mm_code 146 47 = some (Instr.goto 4, 3, 0, 51, 0, []) := rfl
theorem c_146_50 : mm_code 146 50 = some (Instr.iconst 0, 1, 0, 0, 0, []) := rfl
theorem c_146_51 : mm_code 146 51 = some (Instr.ireturn, 1, 1, 0, 0, []) := rfl
theorem c_147_0 : mm_code 147 0 = some (Instr.iload_n 0, 1, 0, 0, 0, []) := rfl
theorem c_147_1 : mm_code 147 1 = some (Instr.ldc 152, 2, 44032, 0, 0, [1073]) := rfl
theorem c_147_3 : mm_code 147 3 = some (Instr.ldc 153, 2, 55203, 0, 0, [1074]) := rfl
theorem c_147_5 : mm_code 147 5 = some (Instr.invokestatic 116, 3, 0, 135, 3, [1022, 1023, 66, 1024]) := rfl
theorem c_147_8 : mm_code 147 8 = some (Instr.ireturn, 1, 1, 0, 0, []) := rfl
theorem c_148_0 : mm_code 148 0 = some (Instr.aload_n 0, 1, 0, 0, 0, []) := rfl
theorem c_148_1 : mm_code 148 1 = some (Instr.iconst 0, 1, 0, 0, 0, []) := rfl
theorem c_148_2 : mm_code 148 2 = some (Instr.putfield 112, 3, 1, 10, 0, [857]) := rfl
theorem c_148_5 : mm_code 148 5 = some (Instr.iload_n 1, 1, 0, 0, 0, []) := rfl
theorem c_148_6 : mm_code 148 6 = some (Instr.invokestatic 138, 3, 0, 141, 1, [1045, 1046, 66, 1047]) := rfl
theorem c_148_9 : mm_code 148 9 = some (Instr.ifCond .eq 21, 3, 0, 30, 0, []) := rfl
theorem c_148_12 : mm_code 148 12 = some (Instr.iload_n 1, 1, 0, 0, 0, []) := rfl
theorem c_148_13 : mm_code 148 13 = some (Instr.sipush 128, 3, 128, 0, 0, []) := rfl
theorem c_148_16 : mm_code 148 16 = some (Instr.if_icmp .lt 14, 3, 0, 30, 0, []) := rfl
theorem c_148_19 : mm_code 148 19 = some (Instr.iload_n 2, 1, 0, 0, 0, []) := rfl
theorem c_148_20 : mm_code 148 20 = some (Instr.iconst 0, 1, 0, 0, 0, []) := rfl
theorem c_148_21 : mm_code 148 21 = some (Instr.sipush 254, 3, 254, 0, 0, []) := rfl
theorem c_148_24 : mm_code 148 24 = some (Instr.invokestatic 116, 3, 0, 135, 3, [1022, 1023, 66, 1024]) := rfl
theorem c_148_27 : mm_code 148 27 = some (Instr.ifCond .ne 6, 3, 0, 33, 0, []) := rfl
theorem c_148_30 : mm_code 148 30 = some (Instr.bipush (-2), 2, (-2), 0, 0, []) := rfl
theorem c_148_32 : mm_code 148 32 = some (Instr.ireturn, 1, 0, 0, 0, []) := rfl
theorem c_148_33 : mm_code 148 33 = some (Instr.aload_n 0, 1, 0, 0, 0, []) := rfl
theorem c_148_34 : mm_code 148 34 = some (Instr.iload_n 1, 1, 0, 0, 0, []) := rfl
theorem c_148_35 : mm_code 148 35 = some (Instr.invokevirtual 166, 3, 10, 149, 1, [1079, 1081, 27, 66, 1082]) := rfl
theorem c_148_38 : mm_code 148 38 = some (Instr.istore_n 3, 1, 0, 0, 0, []) := rfl
theorem c_148_39 : mm_code 148 39 = some (Instr.iload_n 3, 1, 0, 0, 0, []) := rfl
theorem c_148_40 : mm_code 148 40 = some (Instr.ifCond .ge 15, 3, 0, 55, 0, []) := rfl
theorem c_148_43 : mm_code 148 43 = some (Instr.aload_n 0, 1, 0, 0, 0, []) := rfl
theorem c_148_44 : mm_code 148 44 = some (Instr.getfield 163, 3, 0, 10, 16, [873]) := rfl
theorem c_148_47 : mm_code 148 47 = some (Instr.bipush 100, 2, 100, 0, 0, []) := rfl
theorem c_148_49 : mm_code 148 49 = some (Instr.if_icmp .ne 6, 3, 0, 55, 0, []) := rfl
theorem c_148_52 : mm_code 148 52 = some (Instr.bipush (-4), 2, (-4), 0, 0, []) := rfl
theorem c_148_54 : mm_code 148 54 = some (Instr.ireturn, 1, 0, 0, 0, []) := rfl
theorem c_148_55 : mm_code 148 55 = some (Instr.aload_n 0, 1, 0, 0, 0, []) := rfl
theorem c_148_56 : mm_code 148 56 = some (Instr.iload_n 1, 1, 0, 0, 0, []) := rfl
theorem c_148_57 : mm_code 148 57 = some (Instr.invokevirtual 169, 3, 10, 150, 1, [1083, 1085, 28, 66, 1086]) := rfl
theorem c_148_60 : mm_code 148 60 = some (Instr.istore 4, 2, 0, 0, 0, []) := rfl
theorem c_148_62 : mm_code 148 62 = some (Instr.iload_n 3, 1, 0, 0, 0, []) := rfl
theorem c_148_63 : mm_code 148 63 = some (Instr.ifCond .ge 18, 3, 0, 81, 0, []) := rfl
theorem c_148_66 : mm_code 148 66 = some (Instr.aload_n 0, 1, 0, 0, 0, []) := rfl
theorem c_148_67 : mm_code 148 67 = some (Instr.getfield 163, 3, 0, 10, 16, [873]) := rfl
theorem c_148_70 : mm_code 148 70 = some (Instr.istore_n 3, 1, 0, 0, 0, []) := rfl
theorem c_148_71 : mm_code 148 71 = some (Instr.aload_n 0, 1, 0, 0, 0, []) := rfl
theorem c_148_72 : mm_code 148 72 = some (Instr.dup, 1, 0, 0, 0, []) := rfl
theorem c_148_73 : mm_code 148 73 = some (Instr.getfield 163, 3, 0, 10, 16, [873]) := rfl
theorem c_148_76 : mm_code 148 76 = some (Instr.iconst 1, 1, 1, 0, 0, []) := rfl
set_option maxRecDepth 100000 in theorem c_148_77 : mm_code 148 77 = some (Instr.iadd, 1, 0, 0, 0, []) := rfl
set_option maxRecDepth 100000 in theorem c_148_78 : mm_code 148 78 = some (Instr.putfield 163, 3, 1, 10, 16, [873]) := rfl
set_option maxRecDepth 100000 in theorem c_148_81 : mm_code 148 81 = some (Instr.aload_n 0, 1, 0, 0, 0, []) := rfl
set_option maxRecDepth 100000 in theorem c_148_82 : mm_code 148 82 = some (Instr.getfield 45, 3, 0, 10, 17, [874]) := rfl
set_option maxRecDepth 100000 in theorem c_148_85 : mm_code 148 85 = some (Instr.iload_n 3, 1, 0, 0, 0, []) := rfl
set_option maxRecDepth 100000 in theorem c_148_86 : mm_code 148 86 = some (Instr.iload_n 1, 1, 0, 0, 0, []) := rfl
set_option maxRecDepth 100000 in theorem c_148_87 : mm_code 148 87 = some (Instr.iastore, 1, 0, 0, 0, []) := rfl
set_option maxRecDepth 100000 in theorem c_148_88 : mm_code 148 88 = some (Instr.aload_n 0, 1, 0, 0, 0, []) := rfl
set_option maxRecDepth 100000 in theorem c_148_89 : mm_code 148 89 = some (Instr.getfield 48, 3, 0, 10, 18, [875]) := rfl
set_option maxRecDepth 100000 in theorem c_148_92 : mm_code 148 92 = some (Instr.iload_n 3, 1, 0, 0, 0, []) := rfl
set_option maxRecDepth 100000 in theorem c_148_93 : mm_code 148 93 = some (Instr.iload_n 2, 1, 0, 0, 0, []) := rfl
set_option maxRecDepth 100000 in theorem c_148_94 : mm_code 148 94 = some (Instr.iastore, 1, 0, 0, 0, []) := rfl
set_option maxRecDepth 100000 in theorem c_148_95 : mm_code 148 95 = some (Instr.iload 4, 2, 0, 0, 0, []) := rfl
set_option maxRecDepth 100000 in theorem c_148_97 : mm_code 148 97 = some (Instr.ireturn, 1, 0, 0, 0, []) := rfl
theorem c_149_0 : mm_code 149 0 = some (Instr.iconst 0, 1, 0, 0, 0, []) := rfl
theorem c_149_1 : mm_code 149 1 = some (Instr.istore_n 2, 1, 0, 0, 0, []) := rfl
theorem c_149_2 : mm_code 149 2 = some (Instr.iload_n 2, 1, 0, 0, 0, []) := rfl
theorem c_149_3 : mm_code 149 3 = some (Instr.aload_n 0, 1, 0, 0, 0, []) := rfl
theorem c_149_4 : mm_code 149 4 = some (Instr.getfield 163, 3, 0, 10, 16, [873]) := rfl
theorem c_149_7 : mm_code 149 7 = some (Instr.if_icmp .ge 21, 3, 0, 28, 0, []) := rfl
theorem c_149_10 : mm_code 149 10 = some (Instr.aload_n 0, 1, 0, 0, 0, []) := rfl
theorem c_149_11 : mm_code 149 11 = some (Instr.getfield 45, 3, 0, 10, 17, [874]) := rfl
theorem c_149_14 : mm_code 149 14 = some (Instr.iload_n 2, 1, 0, 0, 0, []) := rfl
theorem c_149_15 : mm_code 149 15 = some (Instr.iaload, 1, 0, 0, 0, []) := rfl
theorem c_149_16 : mm_code 149 16 = some (Instr.iload_n 1, 1, 0, 0, 0, []) := rfl
theorem c_149_17 : mm_code 149 17 = some (Instr.if_icmp .ne 5, 3, 0, 22, 0, []) := rfl
theorem c_149_20 : mm_code 149 20 = some (Instr.iload_n 2, 1, 0, 0, 0, []) := rfl
theorem c_149_21 : mm_code 149 21 = some (Instr.ireturn, 1, 0, 0, 0, []) := rfl
theorem c_149_22 : mm_code 149 22 = some (Instr.iinc 2 1, 3, 0, 0, 0, []) := rfl
theorem c_149_25 : mm_code 149 25 = some (Instr.goto (-23), 3, 0, 2, 0, []) := rfl
theorem c_149_28 : mm_code 149 28 = some (Instr.iconst (-1), 1, (-1), 0, 0, []) := rfl
theorem c_149_29 : mm_code 149 29 = some (Instr.ireturn, 1, 0, 0, 0, []) := rfl
theorem c_150_0 : mm_code 150 0 = some (Instr.aload_n 0, 1, 0, 0, 0, []) := rfl
theorem c_150_1 : mm_code 150 1 = some (Instr.iload_n 1, 1, 0, 0, 0, []) := rfl
theorem c_150_2 : mm_code 150 2 = some (Instr.invokevirtual 166, 3, 10, 149, 1, [1079, 1081, 27, 66, 1082]) := rfl
theorem c_150_5 : mm_code 150 5 = some (Instr.istore_n 2, 1, 0, 0, 0, []) := rfl
theorem c_150_6 : mm_code 150 6 = some (Instr.iload_n 2, 1, 0, 0, 0, []) := rfl
theorem c_150_7 : mm_code 150 7 = some (Instr.ifCond .ge 7, 3, 0, 14, 0, []) := rfl
theorem c_150_10 : mm_code 150 10 = some (Instr.iconst 0, 1, 0, 0, 0, []) := rfl
theorem c_150_11 : mm_code 150 11 = some (Instr.goto 9, 3, 0, 20, 0, []) := rfl
theorem c_150_14 : mm_code 150 14 = some (Instr.aload_n 0, 1, 0, 0, 0, []) := rfl
theorem c_150_15 : mm_code 150 15 = some (Instr.getfield 48, 3, 0, 10, 18, [875]) := rfl
theorem c_150_18 : mm_code 150 18 = some (Instr.iload_n 2, 1, 0, 0, 0, []) := rfl
theorem c_150_19 : mm_code 150 19 = some (Instr.iaload, 1, 0, 0, 0, []) := rfl
theorem c_150_20 : mm_code 150 20 = some (Instr.ireturn, 1, 0, 0, 0, []) := rfl
theorem c_151_0 : mm_code 151 0 = some (Instr.aload_n 0, 1, 0, 0, 0, []) := rfl
theorem c_151_1 : mm_code 151 1 = some (Instr.iconst 0, 1, 0, 0, 0, []) := rfl
theorem c_151_2 : mm_code 151 2 = some (Instr.putfield 112, 3, 1, 10, 0, [857]) := rfl
theorem c_151_5 : mm_code 151 5 = some (Instr.iload_n 1, 1, 0, 0, 0, []) := rfl
theorem c_151_6 : mm_code 151 6 = some (Instr.ifCond .ne 7, 3, 0, 13, 0, []) := rfl
theorem c_151_9 : mm_code 151 9 = some (Instr.iconst 1, 1, 1, 0, 0, []) := rfl
theorem c_151_10 : mm_code 151 10 = some (Instr.goto 14, 3, 0, 24, 0, []) := rfl
theorem c_151_13 : mm_code 151 13 = some (Instr.iload_n 1, 1, 0, 0, 0, []) := rfl
theorem c_151_14 : mm_code 151 14 = some (Instr.iconst 1, 1, 1, 0, 0, []) := rfl
theorem c_151_15 : mm_code 151 15 = some (Instr.if_icmp .ne 8, 3, 0, 23, 0, []) := rfl
theorem c_151_18 : mm_code 151 18 = some (Instr.bipush 10, 2, 10, 0, 0, []) := rfl
theorem c_151_20 : mm_code 151 20 = some (Instr.goto 4, 3, 0, 24, 0, []) := rfl
theorem c_151_23 : mm_code 151 23 = some (Instr.iconst 4, 1, 4, 0, 0, []) := rfl
theorem c_151_24 : mm_code 151 24 = some (Instr.istore 5, 2, 0, 0, 0, []) := rfl
theorem c_151_26 : mm_code 151 26 = some (Instr.iload_n 1, 1, 0, 0, 0, []) := rfl
theorem c_151_27 : mm_code 151 27 = some (Instr.iconst 0, 1, 0, 0, 0, []) := rfl
theorem c_151_28 : mm_code 151 28 = some (Instr.iconst 2, 1, 2, 0, 0, []) := rfl
theorem c_151_29 : mm_code 151 29 = some (Instr.invokestatic 116, 3, 0, 135, 3, [1022, 1023, 66, 1024]) := rfl
theorem c_151_32 : mm_code 151 32 = some (Instr.ifCond .eq 39, 3, 0, 71, 0, []) := rfl
theorem c_151_35 : mm_code 151 35 = some (Instr.iload 4, 2, 0, 0, 0, []) := rfl
theorem c_151_37 : mm_code 151 37 = some (Instr.iconst 0, 1, 0, 0, 0, []) := rfl
theorem c_151_38 : mm_code 151 38 = some (Instr.iload 5, 2, 0, 0, 0, []) := rfl
theorem c_151_40 : mm_code 151 40 = some (Instr.invokestatic 116, 3, 0, 135, 3, [1022, 1023, 66, 1024]) := rfl
theorem c_151_43 : mm_code 151 43 = some (Instr.ifCond .eq 28, 3, 0, 71, 0, []) := rfl
theorem c_151_46 : mm_code 151 46 = some (Instr.iload_n 2, 1, 0, 0, 0, []) := rfl
theorem c_151_47 : mm_code 151 47 = some (Instr.iconst 0, 1, 0, 0, 0, []) := rfl
theorem c_151_48 : mm_code 151 48 = some (Instr.ldc 115, 2, 1114111, 0, 0, [1048]) := rfl
theorem c_151_50 : mm_code 151 50 = some (Instr.invokestatic 116, 3, 0, 135, 3, [1022, 1023, 66, 1024]) := rfl
theorem c_151_53 : mm_code 151 53 = some (Instr.ifCond .eq 18, 3, 0, 71, 0, []) := rfl
theorem c_151_56 : mm_code 151 56 = some (Instr.iload_n 3, 1, 0, 0, 0, []) := rfl
theorem c_151_57 : mm_code 151 57 = some (Instr.iconst 0, 1, 0, 0, 0, []) := rfl
theorem c_151_58 : mm_code 151 58 = some (Instr.ldc 115, 2, 1114111, 0, 0, [1048]) := rfl
theorem c_151_60 : mm_code 151 60 = some (Instr.invokestatic 116, 3, 0, 135, 3, [1022, 1023, 66, 1024]) := rfl
theorem c_151_63 : mm_code 151 63 = some (Instr.ifCond .eq 8, 3, 0, 71, 0, []) := rfl
theorem c_151_66 : mm_code 151 66 = some (Instr.iload_n 2, 1, 0, 0, 0, []) := rfl
theorem c_151_67 : mm_code 151 67 = some (Instr.iload_n 3, 1, 0, 0, 0, []) := rfl
theorem c_151_68 : mm_code 151 68 = some (Instr.if_icmp .le 6, 3, 0, 74, 0, []) := rfl
theorem c_151_71 : mm_code 151 71 = some (Instr.bipush (-2), 2, (-2), 0, 0, []) := rfl
theorem c_151_73 : mm_code 151 73 = some (Instr.ireturn, 1, 0, 0, 0, []) := rfl
theorem c_151_74 : mm_code 151 74 = some (Instr.aload_n 0, 1, 0, 0, 0, []) := rfl
theorem c_151_75 : mm_code 151 75 = some (Instr.getfield 172, 3, 0, 10, 19, [876]) := rfl
set_option maxRecDepth 100000 in theorem c_151_78 : mm_code 151 78 = some (Instr.sipush 200, 3, 200, 0, 0, []) := rfl
set_option maxRecDepth 100000 in theorem c_151_81 : mm_code 151 81 = some (Instr.if_icmp .ne 6, 3, 0, 87, 0, []) := rfl
set_option maxRecDepth 100000 in theorem c_151_84 : mm_code 151 84 = some (Instr.bipush (-4), 2, (-4), 0, 0, []) := rfl
set_option maxRecDepth 100000 in theorem c_151_86 : mm_code 151 86 = some (Instr.ireturn, 1, 0, 0, 0, []) := rfl
set_option maxRecDepth 100000 in theorem c_151_87 : mm_code 151 87 = some (Instr.aload_n 0, 1, 0, 0, 0, []) := rfl
set_option maxRecDepth 100000 in theorem c_151_88 : mm_code 151 88 = some (Instr.getfield 51, 3, 0, 10, 20, [877]) := rfl
set_option maxRecDepth 100000 in theorem c_151_91 : mm_code 151 91 = some (Instr.aload_n 0, 1, 0, 0, 0, []) := rfl
set_option maxRecDepth 100000 in theorem c_151_92 : mm_code 151 92 = some (Instr.getfield 172, 3, 0, 10, 19, [876]) := rfl
set_option maxRecDepth 100000 in theorem c_151_95 : mm_code 151 95 = some (Instr.iload_n 1, 1, 0, 0, 0, []) := rfl
set_option maxRecDepth 100000 in theorem c_151_96 : mm_code 151 96 = some (Instr.iastore, 1, 0, 0, 0, []) := rfl
set_option maxRecDepth 100000 in theorem c_151_97 : mm_code 151 97 = some (Instr.aload_n 0, 1, 0, 0, 0, []) := rfl
set_option maxRecDepth 100000 in theorem c_151_98 : mm_code 151 98 = some (Instr.getfield 54, 3, 0, 10, 21, [878]) := rfl
set_option maxRecDepth 100000 in theorem c_151_101 : mm_code 151 101 = some (Instr.aload_n 0, 1, 0, 0, 0, []) := rfl
set_option maxRecDepth 100000 in theorem c_151_102 : mm_code 151 102 = some (Instr.getfield 172, 3, 0, 10, 19, [876]) := rfl
set_option maxRecDepth 100000 in theorem c_151_105 : mm_code 151 105 = some (Instr.iload_n 2, 1, 0, 0, 0, []) := rfl
set_option maxRecDepth 100000 in theorem c_151_106 : mm_code 151 106 = some (Instr.iastore, 1, 0, 0, 0, []) := rfl
set_option maxRecDepth 100000 in theorem c_151_107 : mm_code 151 107 = some (Instr.aload_n 0, 1, 0, 0, 0, []) := rfl
set_option maxRecDepth 100000 in theorem c_151_108 : mm_code 151 108 = some (Instr.getfield 57, 3, 0, 10, 22, [879]) := rfl
set_option maxRecDepth 100000 in theorem c_151_111 : mm_code 151 111 = some (Instr.aload_n 0, 1, 0, 0, 0, []) := rfl
set_option maxRecDepth 100000 in theorem c_151_112 : mm_code 151 112 = some (Instr.getfield 172, 3, 0, 10, 19, [876]) := rfl
set_option maxRecDepth 100000 in theorem c_151_115 : mm_code 151 115 = some (Instr.iload_n 3, 1, 0, 0, 0, []) := rfl
set_option maxRecDepth 100000 in theorem c_151_116 : mm_code 151 116 = some (Instr.iastore, 1, 0, 0, 0, []) := rfl
set_option maxRecDepth 100000 in theorem c_151_117 : mm_code 151 117 = some (Instr.aload_n 0, 1, 0, 0, 0, []) := rfl
set_option maxRecDepth 100000 in theorem c_151_118 : mm_code 151 118 = some (Instr.getfield 60, 3, 0, 10, 23, [880]) := rfl
set_option maxRecDepth 100000 in theorem c_151_121 : mm_code 151 121 = some (Instr.aload_n 0, 1, 0, 0, 0, []) := rfl
set_option maxRecDepth 100000 in theorem c_151_122 : mm_code 151 122 = some (Instr.getfield 172, 3, 0, 10, 19, [876]) := rfl
set_option maxRecDepth 100000 in theorem c_151_125 : mm_code 151 125 = some (Instr.iload 4, 2, 0, 0, 0, []) := rfl
set_option maxRecDepth 100000 in theorem c_151_127 : mm_code 151 127 = some (Instr.iastore, 1, 0, 0, 0, []) := rfl
set_option maxRecDepth 100000 in theorem c_151_128 : mm_code 151 128 = some (Instr.aload_n 0, 1, 0, 0, 0, []) := rfl
set_option maxRecDepth 100000 in theorem c_151_129 : mm_code 151 129 = some (Instr.dup, 1, 0, 0, 0, []) := rfl
set_option maxRecDepth 100000 in theorem c_151_130 : mm_code 151 130 = some (Instr.getfield 172, 3, 0, 10, 19, [876]) := rfl
set_option maxRecDepth 100000 in theorem c_151_133 : mm_code 151 133 = some (Instr.iconst 1, 1, 1, 0, 0, []) := rfl
set_option maxRecDepth 100000 in theorem c_151_134 : mm_code 151 134 = some (Instr.iadd, 1, 0, 0, 0, []) := rfl
set_option maxRecDepth 100000 in theorem c_151_135 : mm_code 151 135 = some (Instr.putfield 172, 3, 1, 10, 19, [876]) := rfl
set_option maxRecDepth 100000 in theorem c_151_138 : mm_code 151 138 = some (Instr.iconst 1, 1, 1, 0, 0, []) := rfl
set_option maxRecDepth 100000 in theorem c_151_139 : mm_code 151 139 = some (Instr.ireturn, 1, 0, 0, 0, []) := rfl
theorem c_152_0 : mm_code 152 0 = some (Instr.aload_n 0, 1, 0, 0, 0, []) := rfl
theorem c_152_1 : mm_code 152 1 = some (Instr.iconst 0, 1, 0, 0, 0, []) := rfl
theorem c_152_2 : mm_code 152 2 = some (Instr.putfield 112, 3, 1, 10, 0, [857]) := rfl
theorem c_152_5 : mm_code 152 5 = some (Instr.iload_n 1, 1, 0, 0, 0, []) := rfl
theorem c_152_6 : mm_code 152 6 = some (Instr.invokestatic 138, 3, 0, 141, 1, [1045, 1046, 66, 1047]) := rfl
theorem c_152_9 : mm_code 152 9 = some (Instr.ifCond .ne 5, 3, 0, 14, 0, []) := rfl
theorem c_152_12 : mm_code 152 12 = some (Instr.iconst (-1), 1, (-1), 0, 0, []) := rfl
theorem c_152_13 : mm_code 152 13 = some (Instr.ireturn, 1, 0, 0, 0, []) := rfl
theorem c_152_14 : mm_code 152 14 = some (Instr.iload_n 2, 1, 0, 0, 0, []) := rfl
theorem c_152_15 : mm_code 152 15 = some (Instr.tableswitch 66 0 4 #[33, 39, 45, 52, 59], 33, 0, 0, 0, []) := rfl
theorem c_152_48 : mm_code 152 48 = some (Instr.aload_n 0, 1, 0, 0, 0, []) := rfl
theorem c_152_49 : mm_code 152 49 = some (Instr.iload_n 1, 1, 0, 0, 0, []) := rfl
theorem c_152_50 : mm_code 152 50 = some (Instr.invokevirtual 175, 3, 10, 153, 1, [1095, 1097, 29, 66, 1098]) := rfl
theorem c_152_53 : mm_code 152 53 = some (Instr.ireturn, 1, 0, 0, 0, []) := rfl
theorem c_152_54 : mm_code 152 54 = some (Instr.aload_n 0, 1, 0, 0, 0, []) := rfl
theorem c_152_55 : mm_code 152 55 = some (Instr.iload_n 1, 1, 0, 0, 0, []) := rfl
theorem c_152_56 : mm_code 152 56 = some (Instr.invokevirtual 169, 3, 10, 150, 1, [1083, 1085, 28, 66, 1086]) := rfl
theorem c_152_59 : mm_code 152 59 = some (Instr.ireturn, 1, 0, 0, 0, []) := rfl
theorem c_152_60 : mm_code 152 60 = some (Instr.aload_n 0, 1, 0, 0, 0, []) := rfl
theorem c_152_61 : mm_code 152 61 = some (Instr.iconst 0, 1, 0, 0, 0, []) := rfl
theorem c_152_62 : mm_code 152 62 = some (Instr.iload_n 1, 1, 0, 0, 0, []) := rfl
theorem c_152_63 : mm_code 152 63 = some (Instr.invokevirtual 178, 3, 10, 155, 2, [1103, 1105, 31, 66, 1106]) := rfl
theorem c_152_66 : mm_code 152 66 = some (Instr.ireturn, 1, 0, 0, 0, []) := rfl
theorem c_152_67 : mm_code 152 67 = some (Instr.aload_n 0, 1, 0, 0, 0, []) := rfl
theorem c_152_68 : mm_code 152 68 = some (Instr.iconst 1, 1, 1, 0, 0, []) := rfl
theorem c_152_69 : mm_code 152 69 = some (Instr.iload_n 1, 1, 0, 0, 0, []) := rfl
theorem c_152_70 : mm_code 152 70 = some (Instr.invokevirtual 178, 3, 10, 155, 2, [1103, 1105, 31, 66, 1106]) := rfl
theorem c_152_73 : mm_code 152 73 = some (Instr.ireturn, 1, 0, 0, 0, []) := rfl
theorem c_152_74 : mm_code 152 74 = some (Instr.aload_n 0, 1, 0, 0, 0, []) := rfl
theorem c_152_75 : mm_code 152 75 = some (Instr.iconst 2, 1, 2, 0, 0, []) := rfl
theorem c_152_76 : mm_code 152 76 = some (Instr.iload_n 1, 1, 0, 0, 0, []) := rfl
theorem c_152_77 : mm_code 152 77 = some (Instr.invokevirtual 178, 3, 10, 155, 2, [1103, 1105, 31, 66, 1106]) := rfl
theorem c_152_80 : mm_code 152 80 = some (Instr.ireturn, 1, 0, 0, 0, []) := rfl
theorem c_152_81 : mm_code 152 81 = some (Instr.bipush (-2), 2, (-2), 0, 0, []) := rfl
theorem c_152_83 : mm_code 152 83 = some (Instr.ireturn, 1, 0, 0, 0, []) := rfl
theorem c_153_0 : mm_code 153 0 = some (Instr.aload_n 0, 1, 0, 0, 0, []) := rfl
theorem c_153_1 : mm_code 153 1 = some (Instr.iload_n 1, 1, 0, 0, 0, []) := rfl
theorem c_153_2 : mm_code 153 2 = some (Instr.invokevirtual 149, 3, 10, 154, 1, [1099, 1101, 30, 66, 1102]) := rfl
theorem c_153_5 : mm_code 153 5 = some (Instr.istore_n 2, 1, 0, 0, 0, []) := rfl
theorem c_153_6 : mm_code 153 6 = some (Instr.iload_n 2, 1, 0, 0, 0, []) := rfl
theorem c_153_7 : mm_code 153 7 = some (Instr.ifCond .lt 10, 3, 0, 17, 0, []) := rfl
theorem c_153_10 : mm_code 153 10 = some (Instr.aload_n 0, 1, 0, 0, 0, []) := rfl
theorem c_153_11 : mm_code 153 11 = some (Instr.getfield 23, 3, 0, 10, 8, [865]) := rfl
theorem c_153_14 : mm_code 153 14 = some (Instr.iload_n 2, 1, 0, 0, 0, []) := rfl
theorem c_153_15 : mm_code 153 15 = some (Instr.iaload, 1, 0, 0, 0, []) := rfl
theorem c_153_16 : mm_code 153 16 = some (Instr.ireturn, 1, 0, 0, 0, []) := rfl
theorem c_153_17 : mm_code 153 17 = some (Instr.iload_n 1, 1, 0, 0, 0, []) := rfl
theorem c_153_18 : mm_code 153 18 = some (Instr.bipush 127, 2, 127, 0, 0, []) := rfl
theorem c_153_20 : mm_code 153 20 = some (Instr.if_icmp .gt 37, 3, 0, 57, 0, []) := rfl
theorem c_153_23 : mm_code 153 23 = some (Instr.iload_n 1, 1, 0, 0, 0, []) := rfl
theorem c_153_24 : mm_code 153 24 = some (Instr.bipush 97, 2, 97, 0, 0, []) := rfl
theorem c_153_26 : mm_code 153 26 = some (Instr.bipush 122, 2, 122, 0, 0, []) := rfl
theorem c_153_28 : mm_code 153 28 = some (Instr.invokestatic 116, 3, 0, 135, 3, [1022, 1023, 66, 1024]) := rfl
theorem c_153_31 : mm_code 153 31 = some (Instr.ifCond .ne 26, 3, 0, 57, 0, []) := rfl
theorem c_153_34 : mm_code 153 34 = some (Instr.iload_n 1, 1, 0, 0, 0, []) := rfl
theorem c_153_35 : mm_code 153 35 = some (Instr.bipush 48, 2, 48, 0, 0, []) := rfl
theorem c_153_37 : mm_code 153 37 = some (Instr.bipush 57, 2, 57, 0, 0, []) := rfl
theorem c_153_39 : mm_code 153 39 = some (Instr.invokestatic 116, 3, 0, 135, 3, [1022, 1023, 66, 1024]) := rfl
theorem c_153_42 : mm_code 153 42 = some (Instr.ifCond .ne 15, 3, 0, 57, 0, []) := rfl
theorem c_153_45 : mm_code 153 45 = some (Instr.iload_n 1, 1, 0, 0, 0, []) := rfl
theorem c_153_46 : mm_code 153 46 = some (Instr.bipush 45, 2, 45, 0, 0, []) := rfl
theorem c_153_48 : mm_code 153 48 = some (Instr.if_icmp .eq 9, 3, 0, 57, 0, []) := rfl
theorem c_153_51 : mm_code 153 51 = some (Instr.iload_n 1, 1, 0, 0, 0, []) := rfl
theorem c_153_52 : mm_code 153 52 = some (Instr.bipush 46, 2, 46, 0, 0, []) := rfl
theorem c_153_54 : mm_code 153 54 = some (Instr.if_icmp .ne 7, 3, 0, 61, 0, []) := rfl
theorem c_153_57 : mm_code 153 57 = some (Instr.iconst 0, 1, 0, 0, 0, []) := rfl
theorem c_153_58 : mm_code 153 58 = some (Instr.goto 19, 3, 0, 77, 0, []) := rfl
theorem c_153_61 : mm_code 153 61 = some (Instr.iload_n 1, 1, 0, 0, 0, []) := rfl
theorem c_153_62 : mm_code 153 62 = some (Instr.bipush 65, 2, 65, 0, 0, []) := rfl
theorem c_153_64 : mm_code 153 64 = some (Instr.bipush 90, 2, 90, 0, 0, []) := rfl
theorem c_153_66 : mm_code 153 66 = some (Instr.invokestatic 116, 3, 0, 135, 3, [1022, 1023, 66, 1024]) := rfl
theorem c_153_69 : mm_code 153 69 = some (Instr.ifCond .eq 7, 3, 0, 76, 0, []) := rfl
theorem c_153_72 : mm_code 153 72 = some (Instr.iconst 2, 1, 2, 0, 0, []) := rfl
theorem c_153_73 : mm_code 153 73 = some (Instr.goto 4, 3, 0, 77, 0, []) := rfl
theorem c_153_76 : mm_code 153 76 = some (Instr.iconst 3, 1, 3, 0, 0, []) := rfl
theorem c_153_77 : mm_code 153 77 = some (Instr.ireturn, 1, 0, 0, 0, []) := rfl
theorem c_154_0 : mm_code 154 0 = some (Instr.aload_n 0, 1, 0, 0, 0, []) := rfl
theorem c_154_1 : mm_code 154 1 = some (Instr.getfield 142, 3, 0, 10, 5, [862]) := rfl
theorem c_154_4 : mm_code 154 4 = some (Instr.iconst 1, 1, 1, 0, 0, []) := rfl
theorem c_154_5 : mm_code 154 5 = some (Instr.isub, 1, 0, 0, 0, []) := rfl
theorem c_154_6 : mm_code 154 6 = some (Instr.istore_n 2, 1, 0, 0, 0, []) := rfl
theorem c_154_7 : mm_code 154 7 = some (Instr.iload_n 2, 1, 0, 0, 0, []) := rfl
theorem c_154_8 : mm_code 154 8 = some (Instr.ifCond .lt 30, 3, 0, 38, 0, []) := rfl
theorem c_154_11 : mm_code 154 11 = some (Instr.iload_n 1, 1, 0, 0, 0, []) := rfl
theorem c_154_12 : mm_code 154 12 = some (Instr.aload_n 0, 1, 0, 0, 0, []) := rfl
theorem c_154_13 : mm_code 154 13 = some (Instr.getfield 17, 3, 0, 10, 6, [863]) := rfl
theorem c_154_16 : mm_code 154 16 = some (Instr.iload_n 2, 1, 0, 0, 0, []) := rfl
theorem c_154_17 : mm_code 154 17 = some (Instr.iaload, 1, 0, 0, 0, []) := rfl
theorem c_154_18 : mm_code 154 18 = some (Instr.aload_n 0, 1, 0, 0, 0, []) := rfl
theorem c_154_19 : mm_code 154 19 = some (Instr.getfield 20, 3, 0, 10, 7, [864]) := rfl
theorem c_154_22 : mm_code 154 22 = some (Instr.iload_n 2, 1, 0, 0, 0, []) := rfl
theorem c_154_23 : mm_code 154 23 = some (Instr.iaload, 1, 0, 0, 0, []) := rfl
theorem c_154_24 : mm_code 154 24 = some (Instr.invokestatic 116, 3, 0, 135, 3, [1022, 1023, 66, 1024]) := rfl
theorem c_154_27 : mm_code 154 27 = some (Instr.ifCond .eq 5, 3, 0, 32, 0, []) := rfl
theorem c_154_30 : mm_code 154 30 = some (Instr.iload_n 2, 1, 0, 0, 0, []) := rfl
theorem c_154_31 : mm_code 154 31 = some (Instr.ireturn, 1, 0, 0, 0, []) := rfl
theorem c_154_32 : mm_code 154 32 = some (Instr.iinc 2 (-1), 3, 0, 0, 0, []) := rfl
theorem c_154_35 : mm_code 154 35 = some (Instr.goto (-28), 3, 0, 7, 0, []) := rfl
theorem c_154_38 : mm_code 154 38 = some (Instr.iconst (-1), 1, (-1), 0, 0, []) := rfl
theorem c_154_39 : mm_code 154 39 = some (Instr.ireturn, 1, 0, 0, 0, []) := rfl
theorem c_155_0 : mm_code 155 0 = some (Instr.aload_n 0, 1, 0, 0, 0, []) := rfl
theorem c_155_1 : mm_code 155 1 = some (Instr.getfield 172, 3, 0, 10, 19, [876]) := rfl
theorem c_155_4 : mm_code 155 4 = some (Instr.iconst 1, 1, 1, 0, 0, []) := rfl
theorem c_155_5 : mm_code 155 5 = some (Instr.isub, 1, 0, 0, 0, []) := rfl
theorem c_155_6 : mm_code 155 6 = some (Instr.istore_n 3, 1, 0, 0, 0, []) := rfl
theorem c_155_7 : mm_code 155 7 = some (Instr.iload_n 3, 1, 0, 0, 0, []) := rfl
theorem c_155_8 : mm_code 155 8 = some (Instr.ifCond .lt 45, 3, 0, 53, 0, []) := rfl
theorem c_155_11 : mm_code 155 11 = some (Instr.aload_n 0, 1, 0, 0, 0, []) := rfl
theorem c_155_12 : mm_code 155 12 = some (Instr.getfield 51, 3, 0, 10, 20, [877]) := rfl
theorem c_155_15 : mm_code 155 15 = some (Instr.iload_n 3, 1, 0, 0, 0, []) := rfl
theorem c_155_16 : mm_code 155 16 = some (Instr.iaload, 1, 0, 0, 0, []) := rfl
theorem c_155_17 : mm_code 155 17 = some (Instr.iload_n 1, 1, 0, 0, 0, []) := rfl
theorem c_155_18 : mm_code 155 18 = some (Instr.if_icmp .ne 29, 3, 0, 47, 0, []) := rfl
theorem c_155_21 : mm_code 155 21 = some (Instr.iload_n 2, 1, 0, 0, 0, []) := rfl
theorem c_155_22 : mm_code 155 22 = some (Instr.aload_n 0, 1, 0, 0, 0, []) := rfl
theorem c_155_23 : mm_code 155 23 = some (Instr.getfield 54, 3, 0, 10, 21, [878]) := rfl
theorem c_155_26 : mm_code 155 26 = some (Instr.iload_n 3, 1, 0, 0, 0, []) := rfl
theorem c_155_27 : mm_code 155 27 = some (Instr.iaload, 1, 0, 0, 0, []) := rfl
theorem c_155_28 : mm_code 155 28 = some (Instr.aload_n 0, 1, 0, 0, 0, []) := rfl
theorem c_155_29 : mm_code 155 29 = some (Instr.getfield 57, 3, 0, 10, 22, [879]) := rfl
theorem c_155_32 : mm_code 155 32 = some (Instr.iload_n 3, 1, 0, 0, 0, []) := rfl
theorem c_155_33 : mm_code 155 33 = some (Instr.iaload, 1, 0, 0, 0, []) := rfl
theorem c_155_34 : mm_code 155 34 = some (Instr.invokestatic 116, 3, 0, 135, 3, [1022, 1023, 66, 1024]) := rfl
theorem c_155_37 : mm_code 155 37 = some (Instr.ifCond .eq 10, 3, 0, 47, 0, []) := rfl
theorem c_155_40 : mm_code 155 40 = some (Instr.aload_n 0, 1, 0, 0, 0, []) := rfl
theorem c_155_41 : mm_code 155 41 = some (Instr.getfield 60, 3, 0, 10, 23, [880]) := rfl
theorem c_155_44 : mm_code 155 44 = some (Instr.iload_n 3, 1, 0, 0, 0, []) := rfl
theorem c_155_45 : mm_code 155 45 = some (Instr.iaload, 1, 0, 0, 0, []) := rfl
theorem c_155_46 : mm_code 155 46 = some (Instr.ireturn, 1, 0, 0, 0, []) := rfl
theorem c_155_47 : mm_code 155 47 = some (Instr.iinc 3 (-1), 3, 0, 0, 0, []) := rfl
theorem c_155_50 : mm_code 155 50 = some (Instr.goto (-43), 3, 0, 7, 0, []) := rfl
theorem c_155_53 : mm_code 155 53 = some (Instr.iload_n 1, 1, 0, 0, 0, []) := rfl
theorem c_155_54 : mm_code 155 54 = some (Instr.iconst 1, 1, 1, 0, 0, []) := rfl
theorem c_155_55 : mm_code 155 55 = some (Instr.if_icmp .eq 7, 3, 0, 62, 0, []) := rfl
theorem c_155_58 : mm_code 155 58 = some (Instr.iconst 0, 1, 0, 0, 0, []) := rfl
theorem c_155_59 : mm_code 155 59 = some (Instr.goto 29, 3, 0, 88, 0, []) := rfl
theorem c_155_62 : mm_code 155 62 = some (Instr.iload_n 2, 1, 0, 0, 0, []) := rfl
theorem c_155_63 : mm_code 155 63 = some (Instr.bipush 48, 2, 48, 0, 0, []) := rfl
theorem c_155_65 : mm_code 155 65 = some (Instr.bipush 57, 2, 57, 0, 0, []) := rfl
theorem c_155_67 : mm_code 155 67 = some (Instr.invokestatic 116, 3, 0, 135, 3, [1022, 1023, 66, 1024]) := rfl
theorem c_155_70 : mm_code 155 70 = some (Instr.ifCond .eq 7, 3, 0, 77, 0, []) := rfl
set_option maxRecDepth 100000 in theorem c_155_73 : mm_code 155 73 = some (Instr.iconst 4, 1, 4, 0, 0, []) := rfl
set_option maxRecDepth 100000 in theorem c_155_74 : mm_code 155 74 = some (Instr.goto 14, 3, 0, 88, 0, []) := rfl
set_option maxRecDepth 100000 in theorem c_155_77 : mm_code 155 77 = some (Instr.iload_n 2, 1, 0, 0, 0, []) := rfl
set_option maxRecDepth 100000 in theorem c_155_78 : mm_code 155 78 = some (Instr.bipush 45, 2, 45, 0, 0, []) := rfl
set_option maxRecDepth 100000 in theorem c_155_80 : mm_code 155 80 = some (Instr.if_icmp .ne 7, 3, 0, 87, 0, []) := rfl
set_option maxRecDepth 100000 in theorem c_155_83 : mm_code 155 83 = some (Instr.iconst 5, 1, 5, 0, 0, []) := rfl
set_option maxRecDepth 100000 in theorem c_155_84 : mm_code 155 84 = some (Instr.goto 4, 3, 0, 88, 0, []) := rfl
set_option maxRecDepth 100000 in theorem c_155_87 : mm_code 155 87 = some (Instr.iconst 0, 1, 0, 0, 0, []) := rfl
set_option maxRecDepth 100000 in theorem c_155_88 : mm_code 155 88 = some (Instr.ireturn, 1, 0, 0, 0, []) := rfl
theorem c_156_0 : mm_code 156 0 = some (Instr.aload_n 0, 1, 0, 0, 0, []) := rfl
theorem c_156_1 : mm_code 156 1 = some (Instr.iconst 0, 1, 0, 0, 0, []) := rfl
theorem c_156_2 : mm_code 156 2 = some (Instr.putfield 112, 3, 1, 10, 0, [857]) := rfl
theorem c_156_5 : mm_code 156 5 = some (Instr.iload_n 1, 1, 0, 0, 0, []) := rfl
theorem c_156_6 : mm_code 156 6 = some (Instr.iconst 0, 1, 0, 0, 0, []) := rfl
theorem c_156_7 : mm_code 156 7 = some (Instr.iconst 1, 1, 1, 0, 0, []) := rfl
theorem c_156_8 : mm_code 156 8 = some (Instr.invokestatic 116, 3, 0, 135, 3, [1022, 1023, 66, 1024]) := rfl
theorem c_156_11 : mm_code 156 11 = some (Instr.ifCond .ne 6, 3, 0, 17, 0, []) := rfl
theorem c_156_14 : mm_code 156 14 = some (Instr.bipush (-2), 2, (-2), 0, 0, []) := rfl
theorem c_156_16 : mm_code 156 16 = some (Instr.ireturn, 1, 0, 0, 0, []) := rfl
theorem c_156_17 : mm_code 156 17 = some (Instr.aload_n 0, 1, 0, 0, 0, []) := rfl
theorem c_156_18 : mm_code 156 18 = some (Instr.aload_n 0, 1, 0, 0, 0, []) := rfl
theorem c_156_19 : mm_code 156 19 = some (Instr.getfield 13, 3, 0, 10, 3, [860]) := rfl
theorem c_156_22 : mm_code 156 22 = some (Instr.iconst 0, 1, 0, 0, 0, []) := rfl
theorem c_156_23 : mm_code 156 23 = some (Instr.aload_n 0, 1, 0, 0, 0, []) := rfl
theorem c_156_24 : mm_code 156 24 = some (Instr.getfield 108, 3, 0, 10, 4, [861]) := rfl
theorem c_156_27 : mm_code 156 27 = some (Instr.invokevirtual 198, 3, 10, 157, 3, [1111, 1113, 32, 66, 1114]) := rfl
theorem c_156_30 : mm_code 156 30 = some (Instr.ifCond .ne 6, 3, 0, 36, 0, []) := rfl
theorem c_156_33 : mm_code 156 33 = some (Instr.bipush (-4), 2, (-4), 0, 0, []) := rfl
theorem c_156_35 : mm_code 156 35 = some (Instr.ireturn, 1, 0, 0, 0, []) := rfl
theorem c_156_36 : mm_code 156 36 = some (Instr.aload_n 0, 1, 0, 0, 0, []) := rfl
theorem c_156_37 : mm_code 156 37 = some (Instr.iload_n 1, 1, 0, 0, 0, []) := rfl
theorem c_156_38 : mm_code 156 38 = some (Instr.ifCond .ne 10, 3, 0, 48, 0, []) := rfl
theorem c_156_41 : mm_code 156 41 = some (Instr.aload_n 0, 1, 0, 0, 0, []) := rfl
theorem c_156_42 : mm_code 156 42 = some (Instr.getfield 182, 3, 0, 10, 28, [885]) := rfl
theorem c_156_45 : mm_code 156 45 = some (Instr.goto 7, 3, 0, 52, 0, []) := rfl
theorem c_156_48 : mm_code 156 48 = some (Instr.aload_n 0, 1, 0, 0, 0, []) := rfl
theorem c_156_49 : mm_code 156 49 = some (Instr.getfield 192, 3, 0, 10, 31, [888]) := rfl
theorem c_156_52 : mm_code 156 52 = some (Instr.putfield 108, 3, 1, 10, 4, [861]) := rfl
theorem c_156_55 : mm_code 156 55 = some (Instr.iconst 0, 1, 0, 0, 0, []) := rfl
theorem c_156_56 : mm_code 156 56 = some (Instr.istore_n 2, 1, 0, 0, 0, []) := rfl
theorem c_156_57 : mm_code 156 57 = some (Instr.iload_n 2, 1, 0, 0, 0, []) := rfl
theorem c_156_58 : mm_code 156 58 = some (Instr.aload_n 0, 1, 0, 0, 0, []) := rfl
theorem c_156_59 : mm_code 156 59 = some (Instr.getfield 108, 3, 0, 10, 4, [861]) := rfl
theorem c_156_62 : mm_code 156 62 = some (Instr.if_icmp .ge 34, 3, 0, 96, 0, []) := rfl
theorem c_156_65 : mm_code 156 65 = some (Instr.aload_n 0, 1, 0, 0, 0, []) := rfl
theorem c_156_66 : mm_code 156 66 = some (Instr.getfield 13, 3, 0, 10, 3, [860]) := rfl
theorem c_156_69 : mm_code 156 69 = some (Instr.iload_n 2, 1, 0, 0, 0, []) := rfl
theorem c_156_70 : mm_code 156 70 = some (Instr.iload_n 1, 1, 0, 0, 0, []) := rfl
theorem c_156_71 : mm_code 156 71 = some (Instr.ifCond .ne 12, 3, 0, 83, 0, []) := rfl
theorem c_156_74 : mm_code 156 74 = some (Instr.aload_n 0, 1, 0, 0, 0, []) := rfl
set_option maxRecDepth 100000 in theorem c_156_75 : mm_code 156 75 = some (Instr.getfield 66, 3, 0, 10, 27, [884]) := rfl
set_option maxRecDepth 100000 in theorem c_156_78 : mm_code 156 78 = some (Instr.iload_n 2, 1, 0, 0, 0, []) := rfl
set_option maxRecDepth 100000 in theorem c_156_79 : mm_code 156 79 = some (Instr.iaload, 1, 0, 0, 0, []) := rfl
set_option maxRecDepth 100000 in theorem c_156_80 : mm_code 156 80 = some (Instr.goto 9, 3, 0, 89, 0, []) := rfl
set_option maxRecDepth 100000 in theorem c_156_83 : mm_code 156 83 = some (Instr.aload_n 0, 1, 0, 0, 0, []) := rfl
set_option maxRecDepth 100000 in theorem c_156_84 : mm_code 156 84 = some (Instr.getfield 72, 3, 0, 10, 30, [887]) := rfl
set_option maxRecDepth 100000 in theorem c_156_87 : mm_code 156 87 = some (Instr.iload_n 2, 1, 0, 0, 0, []) := rfl
set_option maxRecDepth 100000 in theorem c_156_88 : mm_code 156 88 = some (Instr.iaload, 1, 0, 0, 0, []) := rfl
set_option maxRecDepth 100000 in theorem c_156_89 : mm_code 156 89 = some (Instr.iastore, 1, 0, 0, 0, []) := rfl
set_option maxRecDepth 100000 in theorem c_156_90 : mm_code 156 90 = some (Instr.iinc 2 1, 3, 0, 0, 0, []) := rfl
set_option maxRecDepth 100000 in theorem c_156_93 : mm_code 156 93 = some (Instr.goto (-36), 3, 0, 57, 0, []) := rfl
set_option maxRecDepth 100000 in theorem c_156_96 : mm_code 156 96 = some (Instr.aload_n 0, 1, 0, 0, 0, []) := rfl
set_option maxRecDepth 100000 in theorem c_156_97 : mm_code 156 97 = some (Instr.getfield 108, 3, 0, 10, 4, [861]) := rfl
set_option maxRecDepth 100000 in theorem c_156_100 : mm_code 156 100 = some (Instr.ireturn, 1, 0, 0, 0, []) := rfl
theorem c_157_0 : mm_code 157 0 = some (Instr.aload_n 0, 1, 0, 0, 0, []) := rfl
theorem c_157_1 : mm_code 157 1 = some (Instr.aload_n 1, 1, 0, 0, 0, []) := rfl
theorem c_157_2 : mm_code 157 2 = some (Instr.iload_n 2, 1, 0, 0, 0, []) := rfl
theorem c_157_3 : mm_code 157 3 = some (Instr.iload_n 3, 1, 0, 0, 0, []) := rfl
theorem c_157_4 : mm_code 157 4 = some (Instr.invokevirtual 188, 3, 10, 158, 3, [1115, 1117, 33, 66, 1118]) := rfl
theorem c_157_7 : mm_code 157 7 = some (Instr.ifCond .ne 5, 3, 0, 12, 0, []) := rfl
theorem c_157_10 : mm_code 157 10 = some (Instr.iconst 0, 1, 0, 0, 0, []) := rfl
theorem c_157_11 : mm_code 157 11 = some (Instr.ireturn, 1, 1, 0, 0, []) := rfl
theorem c_157_12 : mm_code 157 12 = some (Instr.aload_n 0, 1, 0, 0, 0, []) := rfl
theorem c_157_13 : mm_code 157 13 = some (Instr.iconst 0, 1, 0, 0, 0, []) := rfl
theorem c_157_14 : mm_code 157 14 = some (Instr.putfield 192, 3, 1, 10, 31, [888]) := rfl
theorem c_157_17 : mm_code 157 17 = some (Instr.iconst (-1), 1, (-1), 0, 0, []) := rfl
theorem c_157_18 : mm_code 157 18 = some (Instr.istore 4, 2, 0, 0, 0, []) := rfl
theorem c_157_20 : mm_code 157 20 = some (Instr.iconst 0, 1, 0, 0, 0, []) := rfl
theorem c_157_21 : mm_code 157 21 = some (Instr.istore 5, 2, 0, 0, 0, []) := rfl
theorem c_157_23 : mm_code 157 23 = some (Instr.iload 5, 2, 0, 0, 0, []) := rfl
theorem c_157_25 : mm_code 157 25 = some (Instr.aload_n 0, 1, 0, 0, 0, []) := rfl
theorem c_157_26 : mm_code 157 26 = some (Instr.getfield 182, 3, 0, 10, 28, [885]) := rfl
theorem c_157_29 : mm_code 157 29 = some (Instr.if_icmp .ge 165, 3, 0, 194, 0, []) := rfl
theorem c_157_32 : mm_code 157 32 = some (Instr.aload_n 0, 1, 0, 0, 0, []) := rfl
theorem c_157_33 : mm_code 157 33 = some (Instr.getfield 66, 3, 0, 10, 27, [884]) := rfl
theorem c_157_36 : mm_code 157 36 = some (Instr.iload 5, 2, 0, 0, 0, []) := rfl
theorem c_157_38 : mm_code 157 38 = some (Instr.iaload, 1, 0, 0, 0, []) := rfl
theorem c_157_39 : mm_code 157 39 = some (Instr.istore 6, 2, 0, 0, 0, []) := rfl
theorem c_157_41 : mm_code 157 41 = some (Instr.aload_n 0, 1, 0, 0, 0, []) := rfl
theorem c_157_42 : mm_code 157 42 = some (Instr.iload 6, 2, 0, 0, 0, []) := rfl
theorem c_157_44 : mm_code 157 44 = some (Instr.invokevirtual 169, 3, 10, 150, 1, [1083, 1085, 28, 66, 1086]) := rfl
theorem c_157_47 : mm_code 157 47 = some (Instr.istore 7, 2, 0, 0, 0, []) := rfl
theorem c_157_49 : mm_code 157 49 = some (Instr.iload 4, 2, 0, 0, 0, []) := rfl
theorem c_157_51 : mm_code 157 51 = some (Instr.ifCond .lt 56, 3, 0, 107, 0, []) := rfl
theorem c_157_54 : mm_code 157 54 = some (Instr.iload 4, 2, 0, 0, 0, []) := rfl
theorem c_157_56 : mm_code 157 56 = some (Instr.aload_n 0, 1, 0, 0, 0, []) := rfl
theorem c_157_57 : mm_code 157 57 = some (Instr.getfield 192, 3, 0, 10, 31, [888]) := rfl
theorem c_157_60 : mm_code 157 60 = some (Instr.iconst 1, 1, 1, 0, 0, []) := rfl
theorem c_157_61 : mm_code 157 61 = some (Instr.isub, 1, 0, 0, 0, []) := rfl
theorem c_157_62 : mm_code 157 62 = some (Instr.if_icmp .eq 41, 3, 0, 103, 0, []) := rfl
theorem c_157_65 : mm_code 157 65 = some (Instr.aload_n 0, 1, 0, 0, 0, []) := rfl
theorem c_157_66 : mm_code 157 66 = some (Instr.aload_n 0, 1, 0, 0, 0, []) := rfl
theorem c_157_67 : mm_code 157 67 = some (Instr.getfield 72, 3, 0, 10, 30, [887]) := rfl
theorem c_157_70 : mm_code 157 70 = some (Instr.aload_n 0, 1, 0, 0, 0, []) := rfl
theorem c_157_71 : mm_code 157 71 = some (Instr.getfield 192, 3, 0, 10, 31, [888]) := rfl
set_option maxRecDepth 100000 in theorem c_157_74 : mm_code 157 74 = some (Instr.iconst 1, 1, 1, 0, 0, []) := rfl
set_option maxRecDepth 100000 in theorem c_157_75 : mm_code 157 75 = some (Instr.isub, 1, 0, 0, 0, []) := rfl
set_option maxRecDepth 100000 in theorem c_157_76 : mm_code 157 76 = some (Instr.iaload, 1, 0, 0, 0, []) := rfl
set_option maxRecDepth 100000 in theorem c_157_77 : mm_code 157 77 = some (Instr.invokevirtual 169, 3, 10, 150, 1, [1083, 1085, 28, 66, 1086]) := rfl
set_option maxRecDepth 100000 in theorem c_157_80 : mm_code 157 80 = some (Instr.ifCond .le 27, 3, 0, 107, 0, []) := rfl
set_option maxRecDepth 100000 in theorem c_157_83 : mm_code 157 83 = some (Instr.aload_n 0, 1, 0, 0, 0, []) := rfl
set_option maxRecDepth 100000 in theorem c_157_84 : mm_code 157 84 = some (Instr.aload_n 0, 1, 0, 0, 0, []) := rfl
set_option maxRecDepth 100000 in theorem c_157_85 : mm_code 157 85 = some (Instr.getfield 72, 3, 0, 10, 30, [887]) := rfl
set_option maxRecDepth 100000 in theorem c_157_88 : mm_code 157 88 = some (Instr.aload_n 0, 1, 0, 0, 0, []) := rfl
set_option maxRecDepth 100000 in theorem c_157_89 : mm_code 157 89 = some (Instr.getfield 192, 3, 0, 10, 31, [888]) := rfl
set_option maxRecDepth 100000 in theorem c_157_92 : mm_code 157 92 = some (Instr.iconst 1, 1, 1, 0, 0, []) := rfl
set_option maxRecDepth 100000 in theorem c_157_93 : mm_code 157 93 = some (Instr.isub, 1, 0, 0, 0, []) := rfl
set_option maxRecDepth 100000 in theorem c_157_94 : mm_code 157 94 = some (Instr.iaload, 1, 0, 0, 0, []) := rfl
set_option maxRecDepth 100000 in theorem c_157_95 : mm_code 157 95 = some (Instr.invokevirtual 169, 3, 10, 150, 1, [1083, 1085, 28, 66, 1086]) := rfl
set_option maxRecDepth 100000 in theorem c_157_98 : mm_code 157 98 = some (Instr.iload 7, 2, 0, 0, 0, []) := rfl
set_option maxRecDepth 100000 in theorem c_157_100 : mm_code 157 100 = some (Instr.if_icmp .ge 7, 3, 0, 107, 0, []) := rfl
set_option maxRecDepth 100000 in theorem c_157_103 : mm_code 157 103 = some (Instr.iconst 1, 1, 1, 0, 0, []) := rfl
set_option maxRecDepth 100000 in theorem c_157_104 : mm_code 157 104 = some (Instr.goto 4, 3, 0, 108, 0, []) := rfl
set_option maxRecDepth 100000 in theorem c_157_107 : mm_code 157 107 = some (Instr.iconst 0, 1, 0, 0, 0, []) := rfl
set_option maxRecDepth 100000 in theorem c_157_108 : mm_code 157 108 = some (Instr.istore 8, 2, 0, 0, 0, []) := rfl
set_option maxRecDepth 100000 in theorem c_157_110 : mm_code 157 110 = some (Instr.iload 8, 2, 0, 0, 0, []) := rfl
set_option maxRecDepth 100000 in theorem c_157_112 : mm_code 157 112 = some (Instr.ifCond .eq 19, 3, 0, 131, 0, []) := rfl
set_option maxRecDepth 100000 in theorem c_157_115 : mm_code 157 115 = some (Instr.aload_n 0, 1, 0, 0, 0, []) := rfl
set_option maxRecDepth 100000 in theorem c_157_116 : mm_code 157 116 = some (Instr.aload_n 0, 1, 0, 0, 0, []) := rfl
set_option maxRecDepth 100000 in theorem c_157_117 : mm_code 157 117 = some (Instr.getfield 72, 3, 0, 10, 30, [887]) := rfl
set_option maxRecDepth 100000 in theorem c_157_120 : mm_code 157 120 = some (Instr.iload 4, 2, 0, 0, 0, []) := rfl
set_option maxRecDepth 100000 in theorem c_157_122 : mm_code 157 122 = some (Instr.iaload, 1, 0, 0, 0, []) := rfl
set_option maxRecDepth 100000 in theorem c_157_123 : mm_code 157 123 = some (Instr.iload 6, 2, 0, 0, 0, []) := rfl
set_option maxRecDepth 100000 in theorem c_157_125 : mm_code 157 125 = some (Instr.invokevirtual 195, 3, 10, 160, 2, [1123, 1125, 35, 66, 1126]) := rfl
set_option maxRecDepth 100000 in theorem c_157_128 : mm_code 157 128 = some (Instr.goto 4, 3, 0, 132, 0, []) := rfl
set_option maxRecDepth 100000 in theorem c_157_131 : mm_code 157 131 = some (Instr.iconst (-1), 1, (-1), 0, 0, []) := rfl
set_option maxRecDepth 100000 in theorem c_157_132 : mm_code 157 132 = some (Instr.istore 9, 2, 0, 0, 0, []) := rfl
set_option maxRecDepth 100000 in theorem c_157_134 : mm_code 157 134 = some (Instr.iload 9, 2, 0, 0, 0, []) := rfl
set_option maxRecDepth 100000 in theorem c_157_136 : mm_code 157 136 = some (Instr.ifCond .lt 15, 3, 0, 151, 0, []) := rfl
set_option maxRecDepth 100000 in theorem c_157_139 : mm_code 157 139 = some (Instr.aload_n 0, 1, 0, 0, 0, []) := rfl
set_option maxRecDepth 100000 in theorem c_157_140 : mm_code 157 140 = some (Instr.getfield 72, 3, 0, 10, 30, [887]) := rfl
set_option maxRecDepth 100000 in theorem c_157_143 : mm_code 157 143 = some (Instr.iload 4, 2, 0, 0, 0, []) := rfl
set_option maxRecDepth 100000 in theorem c_157_145 : mm_code 157 145 = some (Instr.iload 9, 2, 0, 0, 0, []) := rfl
set_option maxRecDepth 100000 in theorem c_157_147 : mm_code 157 147 = some (Instr.iastore, 1, 0, 0, 0, []) := rfl
set_option maxRecDepth 100000 in theorem c_157_148 : mm_code 157 148 = some (Instr.goto 40, 3, 0, 188, 0, []) := rfl
set_option maxRecDepth 100000 in theorem c_157_151 : mm_code 157 151 = some (Instr.aload_n 0, 1, 0, 0, 0, []) := rfl
set_option maxRecDepth 100000 in theorem c_157_152 : mm_code 157 152 = some (Instr.getfield 72, 3, 0, 10, 30, [887]) := rfl
set_option maxRecDepth 100000 in theorem c_157_155 : mm_code 157 155 = some (Instr.aload_n 0, 1, 0, 0, 0, []) := rfl
set_option maxRecDepth 100000 in theorem c_157_156 : mm_code 157 156 = some (Instr.getfield 192, 3, 0, 10, 31, [888]) := rfl
set_option maxRecDepth 100000 in theorem c_157_159 : mm_code 157 159 = some (Instr.iload 6, 2, 0, 0, 0, []) := rfl
set_option maxRecDepth 100000 in theorem c_157_161 : mm_code 157 161 = some (Instr.iastore, 1, 0, 0, 0, []) := rfl
set_option maxRecDepth 100000 in theorem c_157_162 : mm_code 157 162 = some (Instr.iload 7, 2, 0, 0, 0, []) := rfl
set_option maxRecDepth 100000 in theorem c_157_164 : mm_code 157 164 = some (Instr.ifCond .ne 10, 3, 0, 174, 0, []) := rfl
set_option maxRecDepth 100000 in theorem c_157_167 : mm_code 157 167 = some (Instr.aload_n 0, 1, 0, 0, 0, []) := rfl
set_option maxRecDepth 100000 in theorem c_157_168 : mm_code 157 168 = some (Instr.getfield 192, 3, 0, 10, 31, [888]) := rfl
set_option maxRecDepth 100000 in theorem c_157_171 : mm_code 157 171 = some (Instr.goto 5, 3, 0, 176, 0, []) := rfl
set_option maxRecDepth 100000 in theorem c_157_174 : mm_code 157 174 = some (Instr.iload 4, 2, 0, 0, 0, []) := rfl
set_option maxRecDepth 100000 in theorem c_157_176 : mm_code 157 176 = some (Instr.istore 4, 2, 0, 0, 0, []) := rfl
set_option maxRecDepth 100000 in theorem c_157_178 : mm_code 157 178 = some (Instr.aload_n 0, 1, 0, 0, 0, []) := rfl
set_option maxRecDepth 100000 in theorem c_157_179 : mm_code 157 179 = some (Instr.dup, 1, 0, 0, 0, []) := rfl
set_option maxRecDepth 100000 in theorem c_157_180 : mm_code 157 180 = some (Instr.getfield 192, 3, 0, 10, 31, [888]) := rfl
set_option maxRecDepth 100000 in theorem c_157_183 : mm_code 157 183 = some (Instr.iconst 1, 1, 1, 0, 0, []) := rfl
set_option maxRecDepth 100000 in theorem c_157_184 : mm_code 157 184 = some (Instr.iadd, 1, 0, 0, 0, []) := rfl
set_option maxRecDepth 100000 in theorem c_157_185 : mm_code 157 185 = some (Instr.putfield 192, 3, 1, 10, 31, [888]) := rfl
set_option maxRecDepth 100000 in theorem c_157_188 : mm_code 157 188 = some (Instr.iinc 5 1, 3, 0, 0, 0, []) := rfl
set_option maxRecDepth 100000 in theorem c_157_191 : mm_code 157 191 = some (Instr.goto (-168), 3, 0, 23, 0, []) := rfl
set_option maxRecDepth 100000 in theorem c_157_194 : mm_code 157 194 = some (Instr.iconst 1, 1, 1, 0, 0, []) := rfl
set_option maxRecDepth 100000 in theorem c_157_195 : mm_code 157 195 = some (Instr.ireturn, 1, 1, 0, 0, []) := rfl
theorem c_158_0 : mm_code 158 0 = some (Instr.aload_n 0, 1, 0, 0, 0, []) := rfl
theorem c_158_1 : mm_code 158 1 = some (Instr.iconst 0, 1, 0, 0, 0, []) := rfl
theorem c_158_2 : mm_code 158 2 = some (Instr.putfield 182, 3, 1, 10, 28, [885]) := rfl
theorem c_158_5 : mm_code 158 5 = some (Instr.iconst 0, 1, 0, 0, 0, []) := rfl
theorem c_158_6 : mm_code 158 6 = some (Instr.istore 4, 2, 0, 0, 0, []) := rfl
theorem c_158_8 : mm_code 158 8 = some (Instr.iload 4, 2, 0, 0, 0, []) := rfl
theorem c_158_10 : mm_code 158 10 = some (Instr.iload_n 3, 1, 0, 0, 0, []) := rfl
theorem c_158_11 : mm_code 158 11 = some (Instr.if_icmp .ge 224, 3, 0, 235, 0, []) := rfl
theorem c_158_14 : mm_code 158 14 = some (Instr.iconst 1, 1, 1, 0, 0, []) := rfl
theorem c_158_15 : mm_code 158 15 = some (Instr.istore 5, 2, 0, 0, 0, []) := rfl
theorem c_158_17 : mm_code 158 17 = some (Instr.aload_n 0, 1, 0, 0, 0, []) := rfl
theorem c_158_18 : mm_code 158 18 = some (Instr.getfield 69, 3, 0, 10, 29, [886]) := rfl
theorem c_158_21 : mm_code 158 21 = some (Instr.iconst 0, 1, 0, 0, 0, []) := rfl
theorem c_158_22 : mm_code 158 22 = some (Instr.aload_n 1, 1, 0, 0, 0, []) := rfl
theorem c_158_23 : mm_code 158 23 = some (Instr.iload_n 2, 1, 0, 0, 0, []) := rfl
theorem c_158_24 : mm_code 158 24 = some (Instr.iload 4, 2, 0, 0, 0, []) := rfl
theorem c_158_26 : mm_code 158 26 = some (Instr.iadd, 1, 0, 0, 0, []) := rfl
theorem c_158_27 : mm_code 158 27 = some (Instr.iaload, 1, 0, 0, 0, []) := rfl
theorem c_158_28 : mm_code 158 28 = some (Instr.iastore, 1, 0, 0, 0, []) := rfl
theorem c_158_29 : mm_code 158 29 = some (Instr.iload 5, 2, 0, 0, 0, []) := rfl
theorem c_158_31 : mm_code 158 31 = some (Instr.ifCond .le 198, 3, 0, 229, 0, []) := rfl
theorem c_158_34 : mm_code 158 34 = some (Instr.iinc 5 (-1), 3, 0, 0, 0, []) := rfl
theorem c_158_37 : mm_code 158 37 = some (Instr.aload_n 0, 1, 0, 0, 0, []) := rfl
theorem c_158_38 : mm_code 158 38 = some (Instr.getfield 69, 3, 0, 10, 29, [886]) := rfl
theorem c_158_41 : mm_code 158 41 = some (Instr.iload 5, 2, 0, 0, 0, []) := rfl
theorem c_158_43 : mm_code 158 43 = some (Instr.iaload, 1, 0, 0, 0, []) := rfl
theorem c_158_44 : mm_code 158 44 = some (Instr.istore 6, 2, 0, 0, 0, []) := rfl
theorem c_158_46 : mm_code 158 46 = some (Instr.aload_n 0, 1, 0, 0, 0, []) := rfl
theorem c_158_47 : mm_code 158 47 = some (Instr.iload 6, 2, 0, 0, 0, []) := rfl
theorem c_158_49 : mm_code 158 49 = some (Instr.invokevirtual 185, 3, 10, 159, 1, [1119, 1121, 34, 66, 1122]) := rfl
theorem c_158_52 : mm_code 158 52 = some (Instr.istore 7, 2, 0, 0, 0, []) := rfl
theorem c_158_54 : mm_code 158 54 = some (Instr.iload 6, 2, 0, 0, 0, []) := rfl
theorem c_158_56 : mm_code 158 56 = some (Instr.invokestatic 154, 3, 0, 147, 1, [1070, 1071, 66, 1072]) := rfl
theorem c_158_59 : mm_code 158 59 = some (Instr.ifCond .eq 82, 3, 0, 141, 0, []) := rfl
theorem c_158_62 : mm_code 158 62 = some (Instr.iload 6, 2, 0, 0, 0, []) := rfl
theorem c_158_64 : mm_code 158 64 = some (Instr.ldc 152, 2, 44032, 0, 0, [1073]) := rfl
theorem c_158_66 : mm_code 158 66 = some (Instr.isub, 1, 0, 0, 0, []) := rfl
theorem c_158_67 : mm_code 158 67 = some (Instr.istore 8, 2, 0, 0, 0, []) := rfl
theorem c_158_69 : mm_code 158 69 = some (Instr.iload 8, 2, 0, 0, 0, []) := rfl
theorem c_158_71 : mm_code 158 71 = some (Instr.bipush 28, 2, 28, 0, 0, []) := rfl
theorem c_158_73 : mm_code 158 73 = some (Instr.irem, 1, 0, 0, 0, []) := rfl
set_option maxRecDepth 100000 in theorem c_158_74 : mm_code 158 74 = some (Instr.ifCond .le 22, 3, 0, 96, 0, []) := rfl
set_option maxRecDepth 100000 in theorem c_158_77 : mm_code 158 77 = some (Instr.aload_n 0, 1, 0, 0, 0, []) := rfl
set_option maxRecDepth 100000 in theorem c_158_78 : mm_code 158 78 = some (Instr.getfield 69, 3, 0, 10, 29, [886]) := rfl
set_option maxRecDepth 100000 in theorem c_158_81 : mm_code 158 81 = some (Instr.iload 5, 2, 0, 0, 0, []) := rfl
set_option maxRecDepth 100000 in theorem c_158_83 : mm_code 158 83 = some (Instr.sipush 4519, 3, 4519, 0, 0, []) := rfl
set_option maxRecDepth 100000 in theorem c_158_86 : mm_code 158 86 = some (Instr.iload 8, 2, 0, 0, 0, []) := rfl
set_option maxRecDepth 100000 in theorem c_158_88 : mm_code 158 88 = some (Instr.bipush 28, 2, 28, 0, 0, []) := rfl
set_option maxRecDepth 100000 in theorem c_158_90 : mm_code 158 90 = some (Instr.irem, 1, 0, 0, 0, []) := rfl
set_option maxRecDepth 100000 in theorem c_158_91 : mm_code 158 91 = some (Instr.iadd, 1, 0, 0, 0, []) := rfl
set_option maxRecDepth 100000 in theorem c_158_92 : mm_code 158 92 = some (Instr.iastore, 1, 0, 0, 0, []) := rfl
set_option maxRecDepth 100000 in theorem c_158_93 : mm_code 158 93 = some (Instr.iinc 5 1, 3, 0, 0, 0, []) := rfl
set_option maxRecDepth 100000 in theorem c_158_96 : mm_code 158 96 = some (Instr.aload_n 0, 1, 0, 0, 0, []) := rfl
set_option maxRecDepth 100000 in theorem c_158_97 : mm_code 158 97 = some (Instr.getfield 69, 3, 0, 10, 29, [886]) := rfl
set_option maxRecDepth 100000 in theorem c_158_100 : mm_code 158 100 = some (Instr.iload 5, 2, 0, 0, 0, []) := rfl
set_option maxRecDepth 100000 in theorem c_158_102 : mm_code 158 102 = some (Instr.sipush 4449, 3, 4449, 0, 0, []) := rfl
set_option maxRecDepth 100000 in theorem c_158_105 : mm_code 158 105 = some (Instr.iload 8, 2, 0, 0, 0, []) := rfl
set_option maxRecDepth 100000 in theorem c_158_107 : mm_code 158 107 = some (Instr.sipush 588, 3, 588, 0, 0, []) := rfl
set_option maxRecDepth 100000 in theorem c_158_110 : mm_code 158 110 = some (Instr.irem, 1, 0, 0, 0, []) := rfl
set_option maxRecDepth 100000 in theorem c_158_111 : mm_code 158 111 = some (Instr.bipush 28, 2, 28, 0, 0, []) := rfl
set_option maxRecDepth 100000 in theorem c_158_113 : mm_code 158 113 = some (Instr.idiv, 1, 0, 0, 0, []) := rfl
set_option maxRecDepth 100000 in theorem c_158_114 : mm_code 158 114 = some (Instr.iadd, 1, 0, 0, 0, []) := rfl
set_option maxRecDepth 100000 in theorem c_158_115 : mm_code 158 115 = some (Instr.iastore, 1, 0, 0, 0, []) := rfl
set_option maxRecDepth 100000 in theorem c_158_116 : mm_code 158 116 = some (Instr.aload_n 0, 1, 0, 0, 0, []) := rfl
set_option maxRecDepth 100000 in theorem c_158_117 : mm_code 158 117 = some (Instr.getfield 69, 3, 0, 10, 29, [886]) := rfl
set_option maxRecDepth 100000 in theorem c_158_120 : mm_code 158 120 = some (Instr.iload 5, 2, 0, 0, 0, []) := rfl
set_option maxRecDepth 100000 in theorem c_158_122 : mm_code 158 122 = some (Instr.iconst 1, 1, 1, 0, 0, []) := rfl
set_option maxRecDepth 100000 in theorem c_158_123 : mm_code 158 123 = some (Instr.iadd, 1, 0, 0, 0, []) := rfl
set_option maxRecDepth 100000 in theorem c_158_124 : mm_code 158 124 = some (Instr.sipush 4352, 3, 4352, 0, 0, []) := rfl
set_option maxRecDepth 100000 in theorem c_158_127 : mm_code 158 127 = some (Instr.iload 8, 2, 0, 0, 0, []) := rfl
set_option maxRecDepth 100000 in theorem c_158_129 : mm_code 158 129 = some (Instr.sipush 588, 3, 588, 0, 0, []) := rfl
set_option maxRecDepth 100000 in theorem c_158_132 : mm_code 158 132 = some (Instr.idiv, 1, 0, 0, 0, []) := rfl
set_option maxRecDepth 100000 in theorem c_158_133 : mm_code 158 133 = some (Instr.iadd, 1, 0, 0, 0, []) := rfl
set_option maxRecDepth 100000 in theorem c_158_134 : mm_code 158 134 = some (Instr.iastore, 1, 0, 0, 0, []) := rfl
set_option maxRecDepth 100000 in theorem c_158_135 : mm_code 158 135 = some (Instr.iinc 5 2, 3, 0, 0, 0, []) := rfl
set_option maxRecDepth 100000 in theorem c_158_138 : mm_code 158 138 = some (Instr.goto 88, 3, 0, 226, 0, []) := rfl
set_option maxRecDepth 100000 in theorem c_158_141 : mm_code 158 141 = some (Instr.iload 7, 2, 0, 0, 0, []) := rfl
set_option maxRecDepth 100000 in theorem c_158_143 : mm_code 158 143 = some (Instr.ifCond .lt 50, 3, 0, 193, 0, []) := rfl
set_option maxRecDepth 100000 in theorem c_158_146 : mm_code 158 146 = some (Instr.aload_n 0, 1, 0, 0, 0, []) := rfl
set_option maxRecDepth 100000 in theorem c_158_147 : mm_code 158 147 = some (Instr.getfield 38, 3, 0, 10, 14, [871]) := rfl
set_option maxRecDepth 100000 in theorem c_158_150 : mm_code 158 150 = some (Instr.iload 7, 2, 0, 0, 0, []) := rfl
set_option maxRecDepth 100000 in theorem c_158_152 : mm_code 158 152 = some (Instr.iaload, 1, 0, 0, 0, []) := rfl
set_option maxRecDepth 100000 in theorem c_158_153 : mm_code 158 153 = some (Instr.ifCond .eq 20, 3, 0, 173, 0, []) := rfl
set_option maxRecDepth 100000 in theorem c_158_156 : mm_code 158 156 = some (Instr.aload_n 0, 1, 0, 0, 0, []) := rfl
set_option maxRecDepth 100000 in theorem c_158_157 : mm_code 158 157 = some (Instr.getfield 69, 3, 0, 10, 29, [886]) := rfl
set_option maxRecDepth 100000 in theorem c_158_160 : mm_code 158 160 = some (Instr.iload 5, 2, 0, 0, 0, []) := rfl
set_option maxRecDepth 100000 in theorem c_158_162 : mm_code 158 162 = some (Instr.aload_n 0, 1, 0, 0, 0, []) := rfl
set_option maxRecDepth 100000 in theorem c_158_163 : mm_code 158 163 = some (Instr.getfield 38, 3, 0, 10, 14, [871]) := rfl
set_option maxRecDepth 100000 in theorem c_158_166 : mm_code 158 166 = some (Instr.iload 7, 2, 0, 0, 0, []) := rfl
set_option maxRecDepth 100000 in theorem c_158_168 : mm_code 158 168 = some (Instr.iaload, 1, 0, 0, 0, []) := rfl
set_option maxRecDepth 100000 in theorem c_158_169 : mm_code 158 169 = some (Instr.iastore, 1, 0, 0, 0, []) := rfl
set_option maxRecDepth 100000 in theorem c_158_170 : mm_code 158 170 = some (Instr.iinc 5 1, 3, 0, 0, 0, []) := rfl
set_option maxRecDepth 100000 in theorem c_158_173 : mm_code 158 173 = some (Instr.aload_n 0, 1, 0, 0, 0, []) := rfl
set_option maxRecDepth 100000 in theorem c_158_174 : mm_code 158 174 = some (Instr.getfield 69, 3, 0, 10, 29, [886]) := rfl
set_option maxRecDepth 100000 in theorem c_158_177 : mm_code 158 177 = some (Instr.iload 5, 2, 0, 0, 0, []) := rfl
set_option maxRecDepth 100000 in theorem c_158_179 : mm_code 158 179 = some (Instr.aload_n 0, 1, 0, 0, 0, []) := rfl
set_option maxRecDepth 100000 in theorem c_158_180 : mm_code 158 180 = some (Instr.getfield 35, 3, 0, 10, 13, [870]) := rfl
set_option maxRecDepth 100000 in theorem c_158_183 : mm_code 158 183 = some (Instr.iload 7, 2, 0, 0, 0, []) := rfl
set_option maxRecDepth 100000 in theorem c_158_185 : mm_code 158 185 = some (Instr.iaload, 1, 0, 0, 0, []) := rfl
set_option maxRecDepth 100000 in theorem c_158_186 : mm_code 158 186 = some (Instr.iastore, 1, 0, 0, 0, []) := rfl
set_option maxRecDepth 100000 in theorem c_158_187 : mm_code 158 187 = some (Instr.iinc 5 1, 3, 0, 0, 0, []) := rfl
set_option maxRecDepth 100000 in theorem c_158_190 : mm_code 158 190 = some (Instr.goto 36, 3, 0, 226, 0, []) := rfl
set_option maxRecDepth 100000 in theorem c_158_193 : mm_code 158 193 = some (Instr.aload_n 0, 1, 0, 0, 0, []) := rfl
set_option maxRecDepth 100000 in theorem c_158_194 : mm_code 158 194 = some (Instr.getfield 182, 3, 0, 10, 28, [885]) := rfl
set_option maxRecDepth 100000 in theorem c_158_197 : mm_code 158 197 = some (Instr.sipush 300, 3, 300, 0, 0, []) := rfl
set_option maxRecDepth 100000 in theorem c_158_200 : mm_code 158 200 = some (Instr.if_icmp .ne 5, 3, 0, 205, 0, []) := rfl
set_option maxRecDepth 100000 in theorem c_158_203 : mm_code 158 203 = some (Instr.iconst 0, 1, 0, 0, 0, []) := rfl
set_option maxRecDepth 100000 in theorem c_158_204 : mm_code 158 204 = some (Instr.ireturn, 1, 1, 0, 0, []) := rfl
set_option maxRecDepth 100000 in theorem c_158_205 : mm_code 158 205 = some (Instr.aload_n 0, 1, 0, 0, 0, []) := rfl
set_option maxRecDepth 100000 in theorem c_158_206 : mm_code 158 206 = some (Instr.getfield 66, 3, 0, 10, 27, [884]) := rfl
set_option maxRecDepth 100000 in theorem c_158_209 : mm_code 158 209 = some (Instr.aload_n 0, 1, 0, 0, 0, []) := rfl
set_option maxRecDepth 100000 in theorem c_158_210 : mm_code 158 210 = some (Instr.getfield 182, 3, 0, 10, 28, [885]) := rfl
set_option maxRecDepth 100000 in theorem c_158_213 : mm_code 158 213 = some (Instr.iload 6, 2, 0, 0, 0, []) := rfl
set_option maxRecDepth 100000 in theorem c_158_215 : mm_code 158 215 = some (Instr.iastore, 1, 0, 0, 0, []) := rfl
set_option maxRecDepth 100000 in theorem c_158_216 : mm_code 158 216 = some (Instr.aload_n 0, 1, 0, 0, 0, []) := rfl
set_option maxRecDepth 100000 in theorem c_158_217 : mm_code 158 217 = some (Instr.dup, 1, 0, 0, 0, []) := rfl
set_option maxRecDepth 100000 in theorem c_158_218 : mm_code 158 218 = some (Instr.getfield 182, 3, 0, 10, 28, [885]) := rfl
set_option maxRecDepth 100000 in theorem c_158_221 : mm_code 158 221 = some (Instr.iconst 1, 1, 1, 0, 0, []) := rfl
set_option maxRecDepth 100000 in theorem c_158_222 : mm_code 158 222 = some (Instr.iadd, 1, 0, 0, 0, []) := rfl
set_option maxRecDepth 100000 in theorem c_158_223 : mm_code 158 223 = some (Instr.putfield 182, 3, 1, 10, 28, [885]) := rfl
set_option maxRecDepth 100000 in theorem c_158_226 : mm_code 158 226 = some (Instr.goto (-197), 3, 0, 29, 0, []) := rfl
set_option maxRecDepth 100000 in theorem c_158_229 : mm_code 158 229 = some (Instr.iinc 4 1, 3, 0, 0, 0, []) := rfl
set_option maxRecDepth 100000 in theorem c_158_232 : mm_code 158 232 = some (Instr.goto (-224), 3, 0, 8, 0, []) := rfl
set_option maxRecDepth 100000 in theorem c_158_235 : mm_code 158 235 = some (Instr.iconst 1, 1, 1, 0, 0, []) := rfl
set_option maxRecDepth 100000 in theorem c_158_236 : mm_code 158 236 = some (Instr.istore 4, 2, 0, 0, 0, []) := rfl
set_option maxRecDepth 100000 in theorem c_158_238 : mm_code 158 238 = some (Instr.iload 4, 2, 0, 0, 0, []) := rfl
set_option maxRecDepth 100000 in theorem c_158_240 : mm_code 158 240 = some (Instr.ifCond .eq 102, 3, 0, 342, 0, []) := rfl
set_option maxRecDepth 100000 in theorem c_158_243 : mm_code 158 243 = some (Instr.iconst 0, 1, 0, 0, 0, []) := rfl
set_option maxRecDepth 100000 in theorem c_158_244 : mm_code 158 244 = some (Instr.istore 4, 2, 0, 0, 0, []) := rfl
set_option maxRecDepth 100000 in theorem c_158_246 : mm_code 158 246 = some (Instr.iconst 1, 1, 1, 0, 0, []) := rfl
set_option maxRecDepth 100000 in theorem c_158_247 : mm_code 158 247 = some (Instr.istore 5, 2, 0, 0, 0, []) := rfl
set_option maxRecDepth 100000 in theorem c_158_249 : mm_code 158 249 = some (Instr.iload 5, 2, 0, 0, 0, []) := rfl
set_option maxRecDepth 100000 in theorem c_158_251 : mm_code 158 251 = some (Instr.aload_n 0, 1, 0, 0, 0, []) := rfl
set_option maxRecDepth 100000 in theorem c_158_252 : mm_code 158 252 = some (Instr.getfield 182, 3, 0, 10, 28, [885]) := rfl
set_option maxRecDepth 100000 in theorem c_158_255 : mm_code 158 255 = some (Instr.if_icmp .ge 84, 3, 0, 339, 0, []) := rfl
set_option maxRecDepth 100000 in theorem c_158_258 : mm_code 158 258 = some (Instr.aload_n 0, 1, 0, 0, 0, []) := rfl
set_option maxRecDepth 100000 in theorem c_158_259 : mm_code 158 259 = some (Instr.aload_n 0, 1, 0, 0, 0, []) := rfl
set_option maxRecDepth 100000 in theorem c_158_260 : mm_code 158 260 = some (Instr.getfield 66, 3, 0, 10, 27, [884]) := rfl
set_option maxRecDepth 100000 in theorem c_158_263 : mm_code 158 263 = some (Instr.iload 5, 2, 0, 0, 0, []) := rfl
set_option maxRecDepth 100000 in theorem c_158_265 : mm_code 158 265 = some (Instr.iaload, 1, 0, 0, 0, []) := rfl
set_option maxRecDepth 100000 in theorem c_158_266 : mm_code 158 266 = some (Instr.invokevirtual 169, 3, 10, 150, 1, [1083, 1085, 28, 66, 1086]) := rfl
set_option maxRecDepth 100000 in theorem c_158_269 : mm_code 158 269 = some (Instr.istore 6, 2, 0, 0, 0, []) := rfl
set_option maxRecDepth 100000 in theorem c_158_271 : mm_code 158 271 = some (Instr.iload 6, 2, 0, 0, 0, []) := rfl
set_option maxRecDepth 100000 in theorem c_158_273 : mm_code 158 273 = some (Instr.ifCond .le 60, 3, 0, 333, 0, []) := rfl
set_option maxRecDepth 100000 in theorem c_158_276 : mm_code 158 276 = some (Instr.iload 6, 2, 0, 0, 0, []) := rfl
set_option maxRecDepth 100000 in theorem c_158_278 : mm_code 158 278 = some (Instr.aload_n 0, 1, 0, 0, 0, []) := rfl
set_option maxRecDepth 100000 in theorem c_158_279 : mm_code 158 279 = some (Instr.aload_n 0, 1, 0, 0, 0, []) := rfl
set_option maxRecDepth 100000 in theorem c_158_280 : mm_code 158 280 = some (Instr.getfield 66, 3, 0, 10, 27, [884]) := rfl
set_option maxRecDepth 100000 in theorem c_158_283 : mm_code 158 283 = some (Instr.iload 5, 2, 0, 0, 0, []) := rfl
set_option maxRecDepth 100000 in theorem c_158_285 : mm_code 158 285 = some (Instr.iconst 1, 1, 1, 0, 0, []) := rfl
set_option maxRecDepth 100000 in theorem c_158_286 : mm_code 158 286 = some (Instr.isub, 1, 0, 0, 0, []) := rfl
set_option maxRecDepth 100000 in theorem c_158_287 : mm_code 158 287 = some (Instr.iaload, 1, 0, 0, 0, []) := rfl
set_option maxRecDepth 100000 in theorem c_158_288 : mm_code 158 288 = some (Instr.invokevirtual 169, 3, 10, 150, 1, [1083, 1085, 28, 66, 1086]) := rfl
set_option maxRecDepth 100000 in theorem c_158_291 : mm_code 158 291 = some (Instr.if_icmp .ge 42, 3, 0, 333, 0, []) := rfl
set_option maxRecDepth 100000 in theorem c_158_294 : mm_code 158 294 = some (Instr.aload_n 0, 1, 0, 0, 0, []) := rfl
set_option maxRecDepth 100000 in theorem c_158_295 : mm_code 158 295 = some (Instr.getfield 66, 3, 0, 10, 27, [884]) := rfl
set_option maxRecDepth 100000 in theorem c_158_298 : mm_code 158 298 = some (Instr.iload 5, 2, 0, 0, 0, []) := rfl
set_option maxRecDepth 100000 in theorem c_158_300 : mm_code 158 300 = some (Instr.iaload, 1, 0, 0, 0, []) := rfl
set_option maxRecDepth 100000 in theorem c_158_301 : mm_code 158 301 = some (Instr.istore 7, 2, 0, 0, 0, []) := rfl
set_option maxRecDepth 100000 in theorem c_158_303 : mm_code 158 303 = some (Instr.aload_n 0, 1, 0, 0, 0, []) := rfl
set_option maxRecDepth 100000 in theorem c_158_304 : mm_code 158 304 = some (Instr.getfield 66, 3, 0, 10, 27, [884]) := rfl
set_option maxRecDepth 100000 in theorem c_158_307 : mm_code 158 307 = some (Instr.iload 5, 2, 0, 0, 0, []) := rfl
set_option maxRecDepth 100000 in theorem c_158_309 : mm_code 158 309 = some (Instr.aload_n 0, 1, 0, 0, 0, []) := rfl
set_option maxRecDepth 100000 in theorem c_158_310 : mm_code 158 310 = some (Instr.getfield 66, 3, 0, 10, 27, [884]) := rfl
set_option maxRecDepth 100000 in theorem c_158_313 : mm_code 158 313 = some (Instr.iload 5, 2, 0, 0, 0, []) := rfl
set_option maxRecDepth 100000 in theorem c_158_315 : mm_code 158 315 = some (Instr.iconst 1, 1, 1, 0, 0, []) := rfl
set_option maxRecDepth 100000 in theorem c_158_316 : mm_code 158 316 = some (Instr.isub, 1, 0, 0, 0, []) := rfl
set_option maxRecDepth 100000 in theorem c_158_317 : mm_code 158 317 = some (Instr.iaload, 1, 0, 0, 0, []) := rfl
set_option maxRecDepth 100000 in theorem c_158_318 : mm_code 158 318 = some (Instr.iastore, 1, 0, 0, 0, []) := rfl
set_option maxRecDepth 100000 in theorem c_158_319 : mm_code 158 319 = some (Instr.aload_n 0, 1, 0, 0, 0, []) := rfl
set_option maxRecDepth 100000 in theorem c_158_320 : mm_code 158 320 = some (Instr.getfield 66, 3, 0, 10, 27, [884]) := rfl
set_option maxRecDepth 100000 in theorem c_158_323 : mm_code 158 323 = some (Instr.iload 5, 2, 0, 0, 0, []) := rfl
set_option maxRecDepth 100000 in theorem c_158_325 : mm_code 158 325 = some (Instr.iconst 1, 1, 1, 0, 0, []) := rfl
set_option maxRecDepth 100000 in theorem c_158_326 : mm_code 158 326 = some (Instr.isub, 1, 0, 0, 0, []) := rfl
set_option maxRecDepth 100000 in theorem c_158_327 : mm_code 158 327 = some (Instr.iload 7, 2, 0, 0, 0, []) := rfl
set_option maxRecDepth 100000 in theorem c_158_329 : mm_code 158 329 = some (Instr.iastore, 1, 0, 0, 0, []) := rfl
set_option maxRecDepth 100000 in theorem c_158_330 : mm_code 158 330 = some (Instr.iconst 1, 1, 1, 0, 0, []) := rfl
set_option maxRecDepth 100000 in theorem c_158_331 : mm_code 158 331 = some (Instr.istore 4, 2, 0, 0, 0, []) := rfl
set_option maxRecDepth 100000 in theorem c_158_333 : mm_code 158 333 = some (Instr.iinc 5 1, 3, 0, 0, 0, []) := rfl
set_option maxRecDepth 100000 in theorem c_158_336 : mm_code 158 336 = some (Instr.goto (-87), 3, 0, 249, 0, []) := rfl
set_option maxRecDepth 100000 in theorem c_158_339 : mm_code 158 339 = some (Instr.goto (-101), 3, 0, 238, 0, []) := rfl
set_option maxRecDepth 100000 in theorem c_158_342 : mm_code 158 342 = some (Instr.iconst 1, 1, 1, 0, 0, []) := rfl
set_option maxRecDepth 100000 in theorem c_158_343 : mm_code 158 343 = some (Instr.ireturn, 1, 1, 0, 0, []) := rfl
