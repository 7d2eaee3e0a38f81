theorem dX4_init_0 : decode cX4_init 0 = .ok (.aload_n 0, 1) := by decide +kernel
theorem dX4_init_1 : decode cX4_init 1 = .ok (.invokespecial 3, 3) := by decide +kernel
theorem dX4_init_4 : decode cX4_init 4 = .ok (.aload_n 0, 1) := by decide +kernel
theorem dX4_init_5 : decode cX4_init 5 = .ok (.bipush 6, 2) := by decide +kernel
theorem dX4_init_7 : decode cX4_init 7 = .ok (.anewarray 9, 3) := by decide +kernel
theorem dX4_init_10 : decode cX4_init 10 = .ok (.putfield 11, 3) := by decide +kernel
theorem dX4_init_13 : decode cX4_init 13 = .ok (.aload_n 0, 1) := by decide +kernel
theorem dX4_init_14 : decode cX4_init 14 = .ok (.iconst 0, 1) := by decide +kernel
theorem dX4_init_15 : decode cX4_init 15 = .ok (.putfield 17, 3) := by decide +kernel
theorem dX4_init_18 : decode cX4_init 18 = .ok (.aload_n 0, 1) := by decide +kernel
theorem dX4_init_19 : decode cX4_init 19 = .ok (.bipush 6, 2) := by decide +kernel
theorem dX4_init_21 : decode cX4_init 21 = .ok (.newarray .int, 2) := by decide +kernel
theorem dX4_init_23 : decode cX4_init 23 = .ok (.putfield 21, 3) := by decide +kernel
theorem dX4_init_26 : decode cX4_init 26 = .ok (.aload_n 0, 1) := by decide +kernel
theorem dX4_init_27 : decode cX4_init 27 = .ok (.iconst 4, 1) := by decide +kernel
theorem dX4_init_28 : decode cX4_init 28 = .ok (.newarray .int, 2) := by decide +kernel
theorem dX4_init_30 : decode cX4_init 30 = .ok (.putfield 25, 3) := by decide +kernel
theorem dX4_init_33 : decode cX4_init 33 = .ok (.aload_n 0, 1) := by decide +kernel
theorem dX4_init_34 : decode cX4_init 34 = .ok (.new 28, 3) := by decide +kernel
theorem dX4_init_37 : decode cX4_init 37 = .ok (.dup, 1) := by decide +kernel
theorem dX4_init_38 : decode cX4_init 38 = .ok (.invokespecial 30, 3) := by decide +kernel
theorem dX4_init_41 : decode cX4_init 41 = .ok (.putfield 31, 3) := by decide +kernel
theorem dX4_init_44 : decode cX4_init 44 = .ok (.aload_n 0, 1) := by decide +kernel
theorem dX4_init_45 : decode cX4_init 45 = .ok (.iconst 0, 1) := by decide +kernel
theorem dX4_init_46 : decode cX4_init 46 = .ok (.putfield 35, 3) := by decide +kernel
theorem dX4_init_49 : decode cX4_init 49 = .ok (.aload_n 0, 1) := by decide +kernel
theorem dX4_init_50 : decode cX4_init 50 = .ok (.iconst 0, 1) := by decide +kernel
theorem dX4_init_51 : decode cX4_init 51 = .ok (.putfield 38, 3) := by decide +kernel
theorem dX4_init_54 : decode cX4_init 54 = .ok (.aload_n 0, 1) := by decide +kernel
theorem dX4_init_55 : decode cX4_init 55 = .ok (.iconst 0, 1) := by decide +kernel
theorem dX4_init_56 : decode cX4_init 56 = .ok (.putfield 41, 3) := by decide +kernel
theorem dX4_init_59 : decode cX4_init 59 = .ok (.aload_n 0, 1) := by decide +kernel
theorem dX4_init_60 : decode cX4_init 60 = .ok (.iconst 0, 1) := by decide +kernel
theorem dX4_init_61 : decode cX4_init 61 = .ok (.putfield 44, 3) := by decide +kernel
theorem dX4_init_64 : decode cX4_init 64 = .ok (.aload_n 0, 1) := by decide +kernel
theorem dX4_init_65 : decode cX4_init 65 = .ok (.iconst 0, 1) := by decide +kernel
theorem dX4_init_66 : decode cX4_init 66 = .ok (.putfield 47, 3) := by decide +kernel
theorem dX4_init_69 : decode cX4_init 69 = .ok (.aload_n 0, 1) := by decide +kernel
theorem dX4_init_70 : decode cX4_init 70 = .ok (.iconst 0, 1) := by decide +kernel
theorem dX4_init_71 : decode cX4_init 71 = .ok (.putfield 50, 3) := by decide +kernel
theorem dX4_init_74 : decode cX4_init 74 = .ok (.aload_n 0, 1) := by decide +kernel
theorem dX4_init_75 : decode cX4_init 75 = .ok (.iconst 0, 1) := by decide +kernel
theorem dX4_init_76 : decode cX4_init 76 = .ok (.putfield 53, 3) := by decide +kernel
theorem dX4_init_79 : decode cX4_init 79 = .ok (.aload_n 0, 1) := by decide +kernel
theorem dX4_init_80 : decode cX4_init 80 = .ok (.iconst 0, 1) := by decide +kernel
theorem dX4_init_81 : decode cX4_init 81 = .ok (.putfield 56, 3) := by decide +kernel
theorem dX4_init_84 : decode cX4_init 84 = .ok (.aload_n 0, 1) := by decide +kernel
theorem dX4_init_85 : decode cX4_init 85 = .ok (.iconst 0, 1) := by decide +kernel
theorem dX4_init_86 : decode cX4_init 86 = .ok (.putfield 59, 3) := by decide +kernel
theorem dX4_init_89 : decode cX4_init 89 = .ok (.iconst 0, 1) := by decide +kernel
theorem dX4_init_90 : decode cX4_init 90 = .ok (.istore_n 1, 1) := by decide +kernel
theorem dX4_init_91 : decode cX4_init 91 = .ok (.iload_n 1, 1) := by decide +kernel
theorem dX4_init_92 : decode cX4_init 92 = .ok (.aload_n 0, 1) := by decide +kernel
theorem dX4_init_93 : decode cX4_init 93 = .ok (.getfield 11, 3) := by decide +kernel
theorem dX4_init_96 : decode cX4_init 96 = .ok (.arraylength, 1) := by decide +kernel
theorem dX4_init_97 : decode cX4_init 97 = .ok (.if_icmp .ge 22, 3) := by decide +kernel
theorem dX4_init_100 : decode cX4_init 100 = .ok (.aload_n 0, 1) := by decide +kernel
theorem dX4_init_101 : decode cX4_init 101 = .ok (.getfield 11, 3) := by decide +kernel
theorem dX4_init_104 : decode cX4_init 104 = .ok (.iload_n 1, 1) := by decide +kernel
theorem dX4_init_105 : decode cX4_init 105 = .ok (.new 9, 3) := by decide +kernel
theorem dX4_init_108 : decode cX4_init 108 = .ok (.dup, 1) := by decide +kernel
theorem dX4_init_109 : decode cX4_init 109 = .ok (.invokespecial 62, 3) := by decide +kernel
theorem dX4_init_112 : decode cX4_init 112 = .ok (.aastore, 1) := by decide +kernel
theorem dX4_init_113 : decode cX4_init 113 = .ok (.iinc 1 1, 3) := by decide +kernel
theorem dX4_init_116 : decode cX4_init 116 = .ok (.goto (-25), 3) := by decide +kernel
theorem dX4_init_119 : decode cX4_init 119 = .ok (.iconst 0, 1) := by decide +kernel
theorem dX4_init_120 : decode cX4_init 120 = .ok (.istore_n 1, 1) := by decide +kernel
theorem dX4_init_121 : decode cX4_init 121 = .ok (.iload_n 1, 1) := by decide +kernel
theorem dX4_init_122 : decode cX4_init 122 = .ok (.aload_n 0, 1) := by decide +kernel
theorem dX4_init_123 : decode cX4_init 123 = .ok (.getfield 21, 3) := by decide +kernel
theorem dX4_init_126 : decode cX4_init 126 = .ok (.arraylength, 1) := by decide +kernel
theorem dX4_init_127 : decode cX4_init 127 = .ok (.if_icmp .ge 16, 3) := by decide +kernel
theorem dX4_init_130 : decode cX4_init 130 = .ok (.aload_n 0, 1) := by decide +kernel
theorem dX4_init_131 : decode cX4_init 131 = .ok (.getfield 21, 3) := by decide +kernel
theorem dX4_init_134 : decode cX4_init 134 = .ok (.iload_n 1, 1) := by decide +kernel
theorem dX4_init_135 : decode cX4_init 135 = .ok (.iconst (-1), 1) := by decide +kernel
theorem dX4_init_136 : decode cX4_init 136 = .ok (.iastore, 1) := by decide +kernel
theorem dX4_init_137 : decode cX4_init 137 = .ok (.iinc 1 1, 3) := by decide +kernel
theorem dX4_init_140 : decode cX4_init 140 = .ok (.goto (-19), 3) := by decide +kernel
theorem dX4_init_143 : decode cX4_init 143 = .ok (.iconst 0, 1) := by decide +kernel
theorem dX4_init_144 : decode cX4_init 144 = .ok (.istore_n 1, 1) := by decide +kernel
theorem dX4_init_145 : decode cX4_init 145 = .ok (.iload_n 1, 1) := by decide +kernel
theorem dX4_init_146 : decode cX4_init 146 = .ok (.aload_n 0, 1) := by decide +kernel
theorem dX4_init_147 : decode cX4_init 147 = .ok (.getfield 25, 3) := by decide +kernel
theorem dX4_init_150 : decode cX4_init 150 = .ok (.arraylength, 1) := by decide +kernel
theorem dX4_init_151 : decode cX4_init 151 = .ok (.if_icmp .ge 17, 3) := by decide +kernel
theorem dX4_init_154 : decode cX4_init 154 = .ok (.aload_n 0, 1) := by decide +kernel
theorem dX4_init_155 : decode cX4_init 155 = .ok (.getfield 25, 3) := by decide +kernel
theorem dX4_init_158 : decode cX4_init 158 = .ok (.iload_n 1, 1) := by decide +kernel
theorem dX4_init_159 : decode cX4_init 159 = .ok (.bipush 20, 2) := by decide +kernel
theorem dX4_init_161 : decode cX4_init 161 = .ok (.iastore, 1) := by decide +kernel
theorem dX4_init_162 : decode cX4_init 162 = .ok (.iinc 1 1, 3) := by decide +kernel
theorem dX4_init_165 : decode cX4_init 165 = .ok (.goto (-20), 3) := by decide +kernel
theorem dX4_init_168 : decode cX4_init 168 = .ok (.return_, 1) := by decide +kernel
theorem dX4_copyFrom_0 : decode cX4_copyFrom 0 = .ok (.iconst 0, 1) := by decide +kernel
theorem dX4_copyFrom_1 : decode cX4_copyFrom 1 = .ok (.istore_n 2, 1) := by decide +kernel
theorem dX4_copyFrom_2 : decode cX4_copyFrom 2 = .ok (.iload_n 2, 1) := by decide +kernel
theorem dX4_copyFrom_3 : decode cX4_copyFrom 3 = .ok (.aload_n 0, 1) := by decide +kernel
theorem dX4_copyFrom_4 : decode cX4_copyFrom 4 = .ok (.getfield 11, 3) := by decide +kernel
theorem dX4_copyFrom_7 : decode cX4_copyFrom 7 = .ok (.arraylength, 1) := by decide +kernel
theorem dX4_copyFrom_8 : decode cX4_copyFrom 8 = .ok (.if_icmp .ge 24, 3) := by decide +kernel
theorem dX4_copyFrom_11 : decode cX4_copyFrom 11 = .ok (.aload_n 0, 1) := by decide +kernel
theorem dX4_copyFrom_12 : decode cX4_copyFrom 12 = .ok (.getfield 11, 3) := by decide +kernel
theorem dX4_copyFrom_15 : decode cX4_copyFrom 15 = .ok (.iload_n 2, 1) := by decide +kernel
theorem dX4_copyFrom_16 : decode cX4_copyFrom 16 = .ok (.aaload, 1) := by decide +kernel
theorem dX4_copyFrom_17 : decode cX4_copyFrom 17 = .ok (.aload_n 1, 1) := by decide +kernel
theorem dX4_copyFrom_18 : decode cX4_copyFrom 18 = .ok (.getfield 11, 3) := by decide +kernel
theorem dX4_copyFrom_21 : decode cX4_copyFrom 21 = .ok (.iload_n 2, 1) := by decide +kernel
theorem dX4_copyFrom_22 : decode cX4_copyFrom 22 = .ok (.aaload, 1) := by decide +kernel
theorem dX4_copyFrom_23 : decode cX4_copyFrom 23 = .ok (.invokevirtual 63, 3) := by decide +kernel
theorem dX4_copyFrom_26 : decode cX4_copyFrom 26 = .ok (.iinc 2 1, 3) := by decide +kernel
theorem dX4_copyFrom_29 : decode cX4_copyFrom 29 = .ok (.goto (-27), 3) := by decide +kernel
theorem dX4_copyFrom_32 : decode cX4_copyFrom 32 = .ok (.aload_n 0, 1) := by decide +kernel
theorem dX4_copyFrom_33 : decode cX4_copyFrom 33 = .ok (.aload_n 1, 1) := by decide +kernel
theorem dX4_copyFrom_34 : decode cX4_copyFrom 34 = .ok (.getfield 17, 3) := by decide +kernel
theorem dX4_copyFrom_37 : decode cX4_copyFrom 37 = .ok (.putfield 17, 3) := by decide +kernel
theorem dX4_copyFrom_40 : decode cX4_copyFrom 40 = .ok (.aload_n 1, 1) := by decide +kernel
theorem dX4_copyFrom_41 : decode cX4_copyFrom 41 = .ok (.getfield 21, 3) := by decide +kernel
theorem dX4_copyFrom_44 : decode cX4_copyFrom 44 = .ok (.aload_n 0, 1) := by decide +kernel
theorem dX4_copyFrom_45 : decode cX4_copyFrom 45 = .ok (.getfield 21, 3) := by decide +kernel
theorem dX4_copyFrom_48 : decode cX4_copyFrom 48 = .ok (.invokestatic 67, 3) := by decide +kernel
theorem dX4_copyFrom_51 : decode cX4_copyFrom 51 = .ok (.aload_n 1, 1) := by decide +kernel
theorem dX4_copyFrom_52 : decode cX4_copyFrom 52 = .ok (.getfield 25, 3) := by decide +kernel
theorem dX4_copyFrom_55 : decode cX4_copyFrom 55 = .ok (.aload_n 0, 1) := by decide +kernel
theorem dX4_copyFrom_56 : decode cX4_copyFrom 56 = .ok (.getfield 25, 3) := by decide +kernel
theorem dX4_copyFrom_59 : decode cX4_copyFrom 59 = .ok (.invokestatic 67, 3) := by decide +kernel
theorem dX4_copyFrom_62 : decode cX4_copyFrom 62 = .ok (.aload_n 0, 1) := by decide +kernel
theorem dX4_copyFrom_63 : decode cX4_copyFrom 63 = .ok (.getfield 31, 3) := by decide +kernel
theorem dX4_copyFrom_66 : decode cX4_copyFrom 66 = .ok (.aload_n 1, 1) := by decide +kernel
theorem dX4_copyFrom_67 : decode cX4_copyFrom 67 = .ok (.getfield 31, 3) := by decide +kernel
theorem dX4_copyFrom_70 : decode cX4_copyFrom 70 = .ok (.invokevirtual 71, 3) := by decide +kernel
theorem dX4_copyFrom_73 : decode cX4_copyFrom 73 = .ok (.aload_n 0, 1) := by decide +kernel
theorem dX4_copyFrom_74 : decode cX4_copyFrom 74 = .ok (.aload_n 1, 1) := by decide +kernel
theorem dX4_copyFrom_75 : decode cX4_copyFrom 75 = .ok (.getfield 35, 3) := by decide +kernel
theorem dX4_copyFrom_78 : decode cX4_copyFrom 78 = .ok (.putfield 35, 3) := by decide +kernel
theorem dX4_copyFrom_81 : decode cX4_copyFrom 81 = .ok (.aload_n 0, 1) := by decide +kernel
theorem dX4_copyFrom_82 : decode cX4_copyFrom 82 = .ok (.aload_n 1, 1) := by decide +kernel
theorem dX4_copyFrom_83 : decode cX4_copyFrom 83 = .ok (.getfield 38, 3) := by decide +kernel
theorem dX4_copyFrom_86 : decode cX4_copyFrom 86 = .ok (.putfield 38, 3) := by decide +kernel
theorem dX4_copyFrom_89 : decode cX4_copyFrom 89 = .ok (.aload_n 0, 1) := by decide +kernel
theorem dX4_copyFrom_90 : decode cX4_copyFrom 90 = .ok (.aload_n 1, 1) := by decide +kernel
theorem dX4_copyFrom_91 : decode cX4_copyFrom 91 = .ok (.getfield 41, 3) := by decide +kernel
theorem dX4_copyFrom_94 : decode cX4_copyFrom 94 = .ok (.putfield 41, 3) := by decide +kernel
theorem dX4_copyFrom_97 : decode cX4_copyFrom 97 = .ok (.aload_n 0, 1) := by decide +kernel
theorem dX4_copyFrom_98 : decode cX4_copyFrom 98 = .ok (.aload_n 1, 1) := by decide +kernel
theorem dX4_copyFrom_99 : decode cX4_copyFrom 99 = .ok (.getfield 44, 3) := by decide +kernel
theorem dX4_copyFrom_102 : decode cX4_copyFrom 102 = .ok (.putfield 44, 3) := by decide +kernel
theorem dX4_copyFrom_105 : decode cX4_copyFrom 105 = .ok (.aload_n 0, 1) := by decide +kernel
theorem dX4_copyFrom_106 : decode cX4_copyFrom 106 = .ok (.aload_n 1, 1) := by decide +kernel
theorem dX4_copyFrom_107 : decode cX4_copyFrom 107 = .ok (.getfield 47, 3) := by decide +kernel
theorem dX4_copyFrom_110 : decode cX4_copyFrom 110 = .ok (.putfield 47, 3) := by decide +kernel
theorem dX4_copyFrom_113 : decode cX4_copyFrom 113 = .ok (.aload_n 0, 1) := by decide +kernel
theorem dX4_copyFrom_114 : decode cX4_copyFrom 114 = .ok (.aload_n 1, 1) := by decide +kernel
theorem dX4_copyFrom_115 : decode cX4_copyFrom 115 = .ok (.getfield 50, 3) := by decide +kernel
theorem dX4_copyFrom_118 : decode cX4_copyFrom 118 = .ok (.putfield 50, 3) := by decide +kernel
theorem dX4_copyFrom_121 : decode cX4_copyFrom 121 = .ok (.aload_n 0, 1) := by decide +kernel
theorem dX4_copyFrom_122 : decode cX4_copyFrom 122 = .ok (.aload_n 1, 1) := by decide +kernel
theorem dX4_copyFrom_123 : decode cX4_copyFrom 123 = .ok (.getfield 53, 3) := by decide +kernel
theorem dX4_copyFrom_126 : decode cX4_copyFrom 126 = .ok (.putfield 53, 3) := by decide +kernel
theorem dX4_copyFrom_129 : decode cX4_copyFrom 129 = .ok (.return_, 1) := by decide +kernel
theorem dX4_carryOut_0 : decode cX4_carryOut 0 = .ok (.getstatic 74, 3) := by decide +kernel
theorem dX4_carryOut_3 : decode cX4_carryOut 3 = .ok (.aload_n 1, 1) := by decide +kernel
theorem dX4_carryOut_4 : decode cX4_carryOut 4 = .ok (.invokevirtual 79, 3) := by decide +kernel
theorem dX4_carryOut_7 : decode cX4_carryOut 7 = .ok (.iaload, 1) := by decide +kernel
theorem dX4_carryOut_8 : decode cX4_carryOut 8 = .ok (.tableswitch 105 1 8 #[48, 57, 64, 71, 80, 87, 93, 99], 48) := by decide +kernel
theorem dX4_carryOut_56 : decode cX4_carryOut 56 = .ok (.aload_n 0, 1) := by decide +kernel
theorem dX4_carryOut_57 : decode cX4_carryOut 57 = .ok (.iload_n 2, 1) := by decide +kernel
theorem dX4_carryOut_58 : decode cX4_carryOut 58 = .ok (.iload_n 3, 1) := by decide +kernel
theorem dX4_carryOut_59 : decode cX4_carryOut 59 = .ok (.iload 4, 2) := by decide +kernel
theorem dX4_carryOut_61 : decode cX4_carryOut 61 = .ok (.invokevirtual 85, 3) := by decide +kernel
theorem dX4_carryOut_64 : decode cX4_carryOut 64 = .ok (.ireturn, 1) := by decide +kernel
theorem dX4_carryOut_65 : decode cX4_carryOut 65 = .ok (.aload_n 0, 1) := by decide +kernel
theorem dX4_carryOut_66 : decode cX4_carryOut 66 = .ok (.iload_n 2, 1) := by decide +kernel
theorem dX4_carryOut_67 : decode cX4_carryOut 67 = .ok (.iload_n 3, 1) := by decide +kernel
theorem dX4_carryOut_68 : decode cX4_carryOut 68 = .ok (.invokevirtual 89, 3) := by decide +kernel
theorem dX4_carryOut_71 : decode cX4_carryOut 71 = .ok (.ireturn, 1) := by decide +kernel
theorem dX4_carryOut_72 : decode cX4_carryOut 72 = .ok (.aload_n 0, 1) := by decide +kernel
theorem dX4_carryOut_73 : decode cX4_carryOut 73 = .ok (.iload_n 2, 1) := by decide +kernel
theorem dX4_carryOut_74 : decode cX4_carryOut 74 = .ok (.iload_n 3, 1) := by decide +kernel
theorem dX4_carryOut_75 : decode cX4_carryOut 75 = .ok (.invokevirtual 93, 3) := by decide +kernel
theorem dX4_carryOut_78 : decode cX4_carryOut 78 = .ok (.ireturn, 1) := by decide +kernel
theorem dX4_carryOut_79 : decode cX4_carryOut 79 = .ok (.aload_n 0, 1) := by decide +kernel
theorem dX4_carryOut_80 : decode cX4_carryOut 80 = .ok (.iload_n 2, 1) := by decide +kernel
theorem dX4_carryOut_81 : decode cX4_carryOut 81 = .ok (.iload_n 3, 1) := by decide +kernel
theorem dX4_carryOut_82 : decode cX4_carryOut 82 = .ok (.iload 4, 2) := by decide +kernel
theorem dX4_carryOut_84 : decode cX4_carryOut 84 = .ok (.invokevirtual 96, 3) := by decide +kernel
theorem dX4_carryOut_87 : decode cX4_carryOut 87 = .ok (.ireturn, 1) := by decide +kernel
theorem dX4_carryOut_88 : decode cX4_carryOut 88 = .ok (.aload_n 0, 1) := by decide +kernel
theorem dX4_carryOut_89 : decode cX4_carryOut 89 = .ok (.iload_n 2, 1) := by decide +kernel
theorem dX4_carryOut_90 : decode cX4_carryOut 90 = .ok (.iload_n 3, 1) := by decide +kernel
theorem dX4_carryOut_91 : decode cX4_carryOut 91 = .ok (.invokevirtual 99, 3) := by decide +kernel
theorem dX4_carryOut_94 : decode cX4_carryOut 94 = .ok (.ireturn, 1) := by decide +kernel
theorem dX4_carryOut_95 : decode cX4_carryOut 95 = .ok (.aload_n 0, 1) := by decide +kernel
theorem dX4_carryOut_96 : decode cX4_carryOut 96 = .ok (.iload_n 2, 1) := by decide +kernel
theorem dX4_carryOut_97 : decode cX4_carryOut 97 = .ok (.invokevirtual 102, 3) := by decide +kernel
theorem dX4_carryOut_100 : decode cX4_carryOut 100 = .ok (.ireturn, 1) := by decide +kernel
theorem dX4_carryOut_101 : decode cX4_carryOut 101 = .ok (.aload_n 0, 1) := by decide +kernel
theorem dX4_carryOut_102 : decode cX4_carryOut 102 = .ok (.iload_n 2, 1) := by decide +kernel
theorem dX4_carryOut_103 : decode cX4_carryOut 103 = .ok (.invokevirtual 106, 3) := by decide +kernel
theorem dX4_carryOut_106 : decode cX4_carryOut 106 = .ok (.ireturn, 1) := by decide +kernel
theorem dX4_carryOut_107 : decode cX4_carryOut 107 = .ok (.aload_n 0, 1) := by decide +kernel
theorem dX4_carryOut_108 : decode cX4_carryOut 108 = .ok (.iload_n 2, 1) := by decide +kernel
theorem dX4_carryOut_109 : decode cX4_carryOut 109 = .ok (.invokevirtual 109, 3) := by decide +kernel
theorem dX4_carryOut_112 : decode cX4_carryOut 112 = .ok (.ireturn, 1) := by decide +kernel
theorem dX4_carryOut_113 : decode cX4_carryOut 113 = .ok (.aload_n 0, 1) := by decide +kernel
theorem dX4_carryOut_114 : decode cX4_carryOut 114 = .ok (.invokevirtual 112, 3) := by decide +kernel
theorem dX4_carryOut_117 : decode cX4_carryOut 117 = .ok (.ireturn, 1) := by decide +kernel
theorem dX4_refuse_0 : decode cX4_refuse 0 = .ok (.aload_n 0, 1) := by decide +kernel
theorem dX4_refuse_1 : decode cX4_refuse 1 = .ok (.iload_n 1, 1) := by decide +kernel
theorem dX4_refuse_2 : decode cX4_refuse 2 = .ok (.putfield 56, 3) := by decide +kernel
theorem dX4_refuse_5 : decode cX4_refuse 5 = .ok (.aload_n 0, 1) := by decide +kernel
theorem dX4_refuse_6 : decode cX4_refuse 6 = .ok (.iload_n 2, 1) := by decide +kernel
theorem dX4_refuse_7 : decode cX4_refuse 7 = .ok (.putfield 59, 3) := by decide +kernel
theorem dX4_refuse_10 : decode cX4_refuse 10 = .ok (.iconst (-1), 1) := by decide +kernel
theorem dX4_refuse_11 : decode cX4_refuse 11 = .ok (.ireturn, 1) := by decide +kernel
theorem dX4_letCome_0 : decode cX4_letCome 0 = .ok (.iload_n 1, 1) := by decide +kernel
theorem dX4_letCome_1 : decode cX4_letCome 1 = .ok (.invokestatic 115, 3) := by decide +kernel
theorem dX4_letCome_4 : decode cX4_letCome 4 = .ok (.ifCond .ne 10, 3) := by decide +kernel
theorem dX4_letCome_7 : decode cX4_letCome 7 = .ok (.aload_n 0, 1) := by decide +kernel
theorem dX4_letCome_8 : decode cX4_letCome 8 = .ok (.iconst 2, 1) := by decide +kernel
theorem dX4_letCome_9 : decode cX4_letCome 9 = .ok (.iload_n 1, 1) := by decide +kernel
theorem dX4_letCome_10 : decode cX4_letCome 10 = .ok (.invokevirtual 119, 3) := by decide +kernel
theorem dX4_letCome_13 : decode cX4_letCome 13 = .ok (.ireturn, 1) := by decide +kernel
theorem dX4_letCome_14 : decode cX4_letCome 14 = .ok (.iload_n 2, 1) := by decide +kernel
theorem dX4_letCome_15 : decode cX4_letCome 15 = .ok (.bipush 6, 2) := by decide +kernel
theorem dX4_letCome_17 : decode cX4_letCome 17 = .ok (.invokestatic 122, 3) := by decide +kernel
theorem dX4_letCome_20 : decode cX4_letCome 20 = .ok (.ifCond .ne 10, 3) := by decide +kernel
theorem dX4_letCome_23 : decode cX4_letCome 23 = .ok (.aload_n 0, 1) := by decide +kernel
theorem dX4_letCome_24 : decode cX4_letCome 24 = .ok (.iconst 3, 1) := by decide +kernel
theorem dX4_letCome_25 : decode cX4_letCome 25 = .ok (.iload_n 2, 1) := by decide +kernel
theorem dX4_letCome_26 : decode cX4_letCome 26 = .ok (.invokevirtual 119, 3) := by decide +kernel
theorem dX4_letCome_29 : decode cX4_letCome 29 = .ok (.ireturn, 1) := by decide +kernel
theorem dX4_letCome_30 : decode cX4_letCome 30 = .ok (.iload_n 3, 1) := by decide +kernel
theorem dX4_letCome_31 : decode cX4_letCome 31 = .ok (.iconst 1, 1) := by decide +kernel
theorem dX4_letCome_32 : decode cX4_letCome 32 = .ok (.if_icmp .lt 9, 3) := by decide +kernel
theorem dX4_letCome_35 : decode cX4_letCome 35 = .ok (.iload_n 3, 1) := by decide +kernel
theorem dX4_letCome_36 : decode cX4_letCome 36 = .ok (.bipush 9, 2) := by decide +kernel
theorem dX4_letCome_38 : decode cX4_letCome 38 = .ok (.if_icmp .le 10, 3) := by decide +kernel
theorem dX4_letCome_41 : decode cX4_letCome 41 = .ok (.aload_n 0, 1) := by decide +kernel
theorem dX4_letCome_42 : decode cX4_letCome 42 = .ok (.iconst 3, 1) := by decide +kernel
theorem dX4_letCome_43 : decode cX4_letCome 43 = .ok (.iload_n 3, 1) := by decide +kernel
theorem dX4_letCome_44 : decode cX4_letCome 44 = .ok (.invokevirtual 119, 3) := by decide +kernel
theorem dX4_letCome_47 : decode cX4_letCome 47 = .ok (.ireturn, 1) := by decide +kernel
theorem dX4_letCome_48 : decode cX4_letCome 48 = .ok (.aload_n 0, 1) := by decide +kernel
theorem dX4_letCome_49 : decode cX4_letCome 49 = .ok (.getfield 17, 3) := by decide +kernel
theorem dX4_letCome_52 : decode cX4_letCome 52 = .ok (.bipush 6, 2) := by decide +kernel
theorem dX4_letCome_54 : decode cX4_letCome 54 = .ok (.invokestatic 122, 3) := by decide +kernel
theorem dX4_letCome_57 : decode cX4_letCome 57 = .ok (.ifCond .ne 13, 3) := by decide +kernel
theorem dX4_letCome_60 : decode cX4_letCome 60 = .ok (.aload_n 0, 1) := by decide +kernel
theorem dX4_letCome_61 : decode cX4_letCome 61 = .ok (.iconst 1, 1) := by decide +kernel
theorem dX4_letCome_62 : decode cX4_letCome 62 = .ok (.aload_n 0, 1) := by decide +kernel
theorem dX4_letCome_63 : decode cX4_letCome 63 = .ok (.getfield 17, 3) := by decide +kernel
theorem dX4_letCome_66 : decode cX4_letCome 66 = .ok (.invokevirtual 119, 3) := by decide +kernel
theorem dX4_letCome_69 : decode cX4_letCome 69 = .ok (.ireturn, 1) := by decide +kernel
theorem dX4_letCome_70 : decode cX4_letCome 70 = .ok (.aload_n 0, 1) := by decide +kernel
theorem dX4_letCome_71 : decode cX4_letCome 71 = .ok (.getfield 11, 3) := by decide +kernel
theorem dX4_letCome_74 : decode cX4_letCome 74 = .ok (.aload_n 0, 1) := by decide +kernel
theorem dX4_letCome_75 : decode cX4_letCome 75 = .ok (.getfield 17, 3) := by decide +kernel
theorem dX4_letCome_78 : decode cX4_letCome 78 = .ok (.aaload, 1) := by decide +kernel
theorem dX4_letCome_79 : decode cX4_letCome 79 = .ok (.iload_n 1, 1) := by decide +kernel
theorem dX4_letCome_80 : decode cX4_letCome 80 = .ok (.iload_n 2, 1) := by decide +kernel
theorem dX4_letCome_81 : decode cX4_letCome 81 = .ok (.iload_n 3, 1) := by decide +kernel
theorem dX4_letCome_82 : decode cX4_letCome 82 = .ok (.invokevirtual 126, 3) := by decide +kernel
theorem dX4_letCome_85 : decode cX4_letCome 85 = .ok (.aload_n 0, 1) := by decide +kernel
theorem dX4_letCome_86 : decode cX4_letCome 86 = .ok (.dup, 1) := by decide +kernel
theorem dX4_letCome_87 : decode cX4_letCome 87 = .ok (.getfield 17, 3) := by decide +kernel
theorem dX4_letCome_90 : decode cX4_letCome 90 = .ok (.iconst 1, 1) := by decide +kernel
theorem dX4_letCome_91 : decode cX4_letCome 91 = .ok (.iadd, 1) := by decide +kernel
theorem dX4_letCome_92 : decode cX4_letCome 92 = .ok (.putfield 17, 3) := by decide +kernel
theorem dX4_letCome_95 : decode cX4_letCome 95 = .ok (.aload_n 0, 1) := by decide +kernel
theorem dX4_letCome_96 : decode cX4_letCome 96 = .ok (.getfield 17, 3) := by decide +kernel
theorem dX4_letCome_99 : decode cX4_letCome 99 = .ok (.iconst 1, 1) := by decide +kernel
theorem dX4_letCome_100 : decode cX4_letCome 100 = .ok (.isub, 1) := by decide +kernel
theorem dX4_letCome_101 : decode cX4_letCome 101 = .ok (.ireturn, 1) := by decide +kernel
theorem dX4_giveVineyard_0 : decode cX4_giveVineyard 0 = .ok (.iload_n 1, 1) := by decide +kernel
theorem dX4_giveVineyard_1 : decode cX4_giveVineyard 1 = .ok (.invokestatic 115, 3) := by decide +kernel
theorem dX4_giveVineyard_4 : decode cX4_giveVineyard 4 = .ok (.ifCond .ne 10, 3) := by decide +kernel
theorem dX4_giveVineyard_7 : decode cX4_giveVineyard 7 = .ok (.aload_n 0, 1) := by decide +kernel
theorem dX4_giveVineyard_8 : decode cX4_giveVineyard 8 = .ok (.iconst 2, 1) := by decide +kernel
theorem dX4_giveVineyard_9 : decode cX4_giveVineyard 9 = .ok (.iload_n 1, 1) := by decide +kernel
theorem dX4_giveVineyard_10 : decode cX4_giveVineyard 10 = .ok (.invokevirtual 119, 3) := by decide +kernel
theorem dX4_giveVineyard_13 : decode cX4_giveVineyard 13 = .ok (.ireturn, 1) := by decide +kernel
theorem dX4_giveVineyard_14 : decode cX4_giveVineyard 14 = .ok (.iload_n 2, 1) := by decide +kernel
theorem dX4_giveVineyard_15 : decode cX4_giveVineyard 15 = .ok (.iconst (-1), 1) := by decide +kernel
theorem dX4_giveVineyard_16 : decode cX4_giveVineyard 16 = .ok (.if_icmp .eq 17, 3) := by decide +kernel
theorem dX4_giveVineyard_19 : decode cX4_giveVineyard 19 = .ok (.iload_n 2, 1) := by decide +kernel
theorem dX4_giveVineyard_20 : decode cX4_giveVineyard 20 = .ok (.invokestatic 130, 3) := by decide +kernel
theorem dX4_giveVineyard_23 : decode cX4_giveVineyard 23 = .ok (.ifCond .ne 10, 3) := by decide +kernel
theorem dX4_giveVineyard_26 : decode cX4_giveVineyard 26 = .ok (.aload_n 0, 1) := by decide +kernel
theorem dX4_giveVineyard_27 : decode cX4_giveVineyard 27 = .ok (.iconst 2, 1) := by decide +kernel
theorem dX4_giveVineyard_28 : decode cX4_giveVineyard 28 = .ok (.iload_n 2, 1) := by decide +kernel
theorem dX4_giveVineyard_29 : decode cX4_giveVineyard 29 = .ok (.invokevirtual 119, 3) := by decide +kernel
theorem dX4_giveVineyard_32 : decode cX4_giveVineyard 32 = .ok (.ireturn, 1) := by decide +kernel
theorem dX4_giveVineyard_33 : decode cX4_giveVineyard 33 = .ok (.aload_n 0, 1) := by decide +kernel
theorem dX4_giveVineyard_34 : decode cX4_giveVineyard 34 = .ok (.getfield 21, 3) := by decide +kernel
theorem dX4_giveVineyard_37 : decode cX4_giveVineyard 37 = .ok (.iload_n 1, 1) := by decide +kernel
theorem dX4_giveVineyard_38 : decode cX4_giveVineyard 38 = .ok (.iaload, 1) := by decide +kernel
theorem dX4_giveVineyard_39 : decode cX4_giveVineyard 39 = .ok (.iload_n 2, 1) := by decide +kernel
theorem dX4_giveVineyard_40 : decode cX4_giveVineyard 40 = .ok (.if_icmp .ne 10, 3) := by decide +kernel
theorem dX4_giveVineyard_43 : decode cX4_giveVineyard 43 = .ok (.aload_n 0, 1) := by decide +kernel
theorem dX4_giveVineyard_44 : decode cX4_giveVineyard 44 = .ok (.iconst 4, 1) := by decide +kernel
theorem dX4_giveVineyard_45 : decode cX4_giveVineyard 45 = .ok (.iload_n 2, 1) := by decide +kernel
theorem dX4_giveVineyard_46 : decode cX4_giveVineyard 46 = .ok (.invokevirtual 119, 3) := by decide +kernel
theorem dX4_giveVineyard_49 : decode cX4_giveVineyard 49 = .ok (.ireturn, 1) := by decide +kernel
theorem dX4_giveVineyard_50 : decode cX4_giveVineyard 50 = .ok (.aload_n 0, 1) := by decide +kernel
theorem dX4_giveVineyard_51 : decode cX4_giveVineyard 51 = .ok (.getfield 21, 3) := by decide +kernel
theorem dX4_giveVineyard_54 : decode cX4_giveVineyard 54 = .ok (.iload_n 1, 1) := by decide +kernel
theorem dX4_giveVineyard_55 : decode cX4_giveVineyard 55 = .ok (.iload_n 2, 1) := by decide +kernel
theorem dX4_giveVineyard_56 : decode cX4_giveVineyard 56 = .ok (.iastore, 1) := by decide +kernel
theorem dX4_giveVineyard_57 : decode cX4_giveVineyard 57 = .ok (.aload_n 0, 1) := by decide +kernel
theorem dX4_giveVineyard_58 : decode cX4_giveVineyard 58 = .ok (.invokevirtual 133, 3) := by decide +kernel
theorem dX4_giveVineyard_61 : decode cX4_giveVineyard 61 = .ok (.ireturn, 1) := by decide +kernel
theorem dX4_giveTitle_0 : decode cX4_giveTitle 0 = .ok (.aload_n 0, 1) := by decide +kernel
theorem dX4_giveTitle_1 : decode cX4_giveTitle 1 = .ok (.iload_n 1, 1) := by decide +kernel
theorem dX4_giveTitle_2 : decode cX4_giveTitle 2 = .ok (.invokevirtual 136, 3) := by decide +kernel
theorem dX4_giveTitle_5 : decode cX4_giveTitle 5 = .ok (.ifCond .ne 10, 3) := by decide +kernel
theorem dX4_giveTitle_8 : decode cX4_giveTitle 8 = .ok (.aload_n 0, 1) := by decide +kernel
theorem dX4_giveTitle_9 : decode cX4_giveTitle 9 = .ok (.iconst 2, 1) := by decide +kernel
theorem dX4_giveTitle_10 : decode cX4_giveTitle 10 = .ok (.iload_n 1, 1) := by decide +kernel
theorem dX4_giveTitle_11 : decode cX4_giveTitle 11 = .ok (.invokevirtual 119, 3) := by decide +kernel
theorem dX4_giveTitle_14 : decode cX4_giveTitle 14 = .ok (.ireturn, 1) := by decide +kernel
theorem dX4_giveTitle_15 : decode cX4_giveTitle 15 = .ok (.iload_n 2, 1) := by decide +kernel
theorem dX4_giveTitle_16 : decode cX4_giveTitle 16 = .ok (.invokestatic 130, 3) := by decide +kernel
theorem dX4_giveTitle_19 : decode cX4_giveTitle 19 = .ok (.ifCond .ne 10, 3) := by decide +kernel
theorem dX4_giveTitle_22 : decode cX4_giveTitle 22 = .ok (.aload_n 0, 1) := by decide +kernel
theorem dX4_giveTitle_23 : decode cX4_giveTitle 23 = .ok (.iconst 2, 1) := by decide +kernel
theorem dX4_giveTitle_24 : decode cX4_giveTitle 24 = .ok (.iload_n 2, 1) := by decide +kernel
theorem dX4_giveTitle_25 : decode cX4_giveTitle 25 = .ok (.invokevirtual 119, 3) := by decide +kernel
theorem dX4_giveTitle_28 : decode cX4_giveTitle 28 = .ok (.ireturn, 1) := by decide +kernel
theorem dX4_giveTitle_29 : decode cX4_giveTitle 29 = .ok (.aload_n 0, 1) := by decide +kernel
theorem dX4_giveTitle_30 : decode cX4_giveTitle 30 = .ok (.getfield 11, 3) := by decide +kernel
theorem dX4_giveTitle_33 : decode cX4_giveTitle 33 = .ok (.iload_n 1, 1) := by decide +kernel
theorem dX4_giveTitle_34 : decode cX4_giveTitle 34 = .ok (.aaload, 1) := by decide +kernel
theorem dX4_giveTitle_35 : decode cX4_giveTitle 35 = .ok (.astore_n 3, 1) := by decide +kernel
theorem dX4_giveTitle_36 : decode cX4_giveTitle 36 = .ok (.aload_n 3, 1) := by decide +kernel
theorem dX4_giveTitle_37 : decode cX4_giveTitle 37 = .ok (.invokevirtual 139, 3) := by decide +kernel
theorem dX4_giveTitle_40 : decode cX4_giveTitle 40 = .ok (.ifCond .eq 13, 3) := by decide +kernel
theorem dX4_giveTitle_43 : decode cX4_giveTitle 43 = .ok (.aload_n 0, 1) := by decide +kernel
theorem dX4_giveTitle_44 : decode cX4_giveTitle 44 = .ok (.iconst 5, 1) := by decide +kernel
theorem dX4_giveTitle_45 : decode cX4_giveTitle 45 = .ok (.aload_n 3, 1) := by decide +kernel
theorem dX4_giveTitle_46 : decode cX4_giveTitle 46 = .ok (.getfield 143, 3) := by decide +kernel
theorem dX4_giveTitle_49 : decode cX4_giveTitle 49 = .ok (.invokevirtual 119, 3) := by decide +kernel
theorem dX4_giveTitle_52 : decode cX4_giveTitle 52 = .ok (.ireturn, 1) := by decide +kernel
theorem dX4_giveTitle_53 : decode cX4_giveTitle 53 = .ok (.aload_n 0, 1) := by decide +kernel
theorem dX4_giveTitle_54 : decode cX4_giveTitle 54 = .ok (.getfield 25, 3) := by decide +kernel
theorem dX4_giveTitle_57 : decode cX4_giveTitle 57 = .ok (.iload_n 2, 1) := by decide +kernel
theorem dX4_giveTitle_58 : decode cX4_giveTitle 58 = .ok (.iaload, 1) := by decide +kernel
theorem dX4_giveTitle_59 : decode cX4_giveTitle 59 = .ok (.aload_n 3, 1) := by decide +kernel
theorem dX4_giveTitle_60 : decode cX4_giveTitle 60 = .ok (.getfield 146, 3) := by decide +kernel
theorem dX4_giveTitle_63 : decode cX4_giveTitle 63 = .ok (.if_icmp .ge 16, 3) := by decide +kernel
theorem dX4_giveTitle_66 : decode cX4_giveTitle 66 = .ok (.aload_n 0, 1) := by decide +kernel
theorem dX4_giveTitle_67 : decode cX4_giveTitle 67 = .ok (.bipush 7, 2) := by decide +kernel
theorem dX4_giveTitle_69 : decode cX4_giveTitle 69 = .ok (.aload_n 0, 1) := by decide +kernel
theorem dX4_giveTitle_70 : decode cX4_giveTitle 70 = .ok (.getfield 25, 3) := by decide +kernel
theorem dX4_giveTitle_73 : decode cX4_giveTitle 73 = .ok (.iload_n 2, 1) := by decide +kernel
theorem dX4_giveTitle_74 : decode cX4_giveTitle 74 = .ok (.iaload, 1) := by decide +kernel
theorem dX4_giveTitle_75 : decode cX4_giveTitle 75 = .ok (.invokevirtual 119, 3) := by decide +kernel
theorem dX4_giveTitle_78 : decode cX4_giveTitle 78 = .ok (.ireturn, 1) := by decide +kernel
theorem dX4_giveTitle_79 : decode cX4_giveTitle 79 = .ok (.aload_n 0, 1) := by decide +kernel
theorem dX4_giveTitle_80 : decode cX4_giveTitle 80 = .ok (.getfield 25, 3) := by decide +kernel
theorem dX4_giveTitle_83 : decode cX4_giveTitle 83 = .ok (.iload_n 2, 1) := by decide +kernel
theorem dX4_giveTitle_84 : decode cX4_giveTitle 84 = .ok (.dup2, 1) := by decide +kernel
theorem dX4_giveTitle_85 : decode cX4_giveTitle 85 = .ok (.iaload, 1) := by decide +kernel
theorem dX4_giveTitle_86 : decode cX4_giveTitle 86 = .ok (.aload_n 3, 1) := by decide +kernel
theorem dX4_giveTitle_87 : decode cX4_giveTitle 87 = .ok (.getfield 146, 3) := by decide +kernel
theorem dX4_giveTitle_90 : decode cX4_giveTitle 90 = .ok (.isub, 1) := by decide +kernel
theorem dX4_giveTitle_91 : decode cX4_giveTitle 91 = .ok (.iastore, 1) := by decide +kernel
theorem dX4_giveTitle_92 : decode cX4_giveTitle 92 = .ok (.aload_n 0, 1) := by decide +kernel
theorem dX4_giveTitle_93 : decode cX4_giveTitle 93 = .ok (.dup, 1) := by decide +kernel
theorem dX4_giveTitle_94 : decode cX4_giveTitle 94 = .ok (.getfield 50, 3) := by decide +kernel
theorem dX4_giveTitle_97 : decode cX4_giveTitle 97 = .ok (.aload_n 3, 1) := by decide +kernel
theorem dX4_giveTitle_98 : decode cX4_giveTitle 98 = .ok (.getfield 146, 3) := by decide +kernel
theorem dX4_giveTitle_101 : decode cX4_giveTitle 101 = .ok (.iadd, 1) := by decide +kernel
theorem dX4_giveTitle_102 : decode cX4_giveTitle 102 = .ok (.putfield 50, 3) := by decide +kernel
theorem dX4_giveTitle_105 : decode cX4_giveTitle 105 = .ok (.aload_n 3, 1) := by decide +kernel
theorem dX4_giveTitle_106 : decode cX4_giveTitle 106 = .ok (.iload_n 2, 1) := by decide +kernel
theorem dX4_giveTitle_107 : decode cX4_giveTitle 107 = .ok (.invokevirtual 149, 3) := by decide +kernel
theorem dX4_giveTitle_110 : decode cX4_giveTitle 110 = .ok (.aload_n 0, 1) := by decide +kernel
theorem dX4_giveTitle_111 : decode cX4_giveTitle 111 = .ok (.getfield 25, 3) := by decide +kernel
theorem dX4_giveTitle_114 : decode cX4_giveTitle 114 = .ok (.iload_n 2, 1) := by decide +kernel
theorem dX4_giveTitle_115 : decode cX4_giveTitle 115 = .ok (.iaload, 1) := by decide +kernel
theorem dX4_giveTitle_116 : decode cX4_giveTitle 116 = .ok (.ireturn, 1) := by decide +kernel
theorem dX4_sellTo_0 : decode cX4_sellTo 0 = .ok (.aload_n 0, 1) := by decide +kernel
theorem dX4_sellTo_1 : decode cX4_sellTo 1 = .ok (.iload_n 1, 1) := by decide +kernel
theorem dX4_sellTo_2 : decode cX4_sellTo 2 = .ok (.invokevirtual 136, 3) := by decide +kernel
theorem dX4_sellTo_5 : decode cX4_sellTo 5 = .ok (.ifCond .ne 10, 3) := by decide +kernel
theorem dX4_sellTo_8 : decode cX4_sellTo 8 = .ok (.aload_n 0, 1) := by decide +kernel
theorem dX4_sellTo_9 : decode cX4_sellTo 9 = .ok (.iconst 2, 1) := by decide +kernel
theorem dX4_sellTo_10 : decode cX4_sellTo 10 = .ok (.iload_n 1, 1) := by decide +kernel
theorem dX4_sellTo_11 : decode cX4_sellTo 11 = .ok (.invokevirtual 119, 3) := by decide +kernel
theorem dX4_sellTo_14 : decode cX4_sellTo 14 = .ok (.ireturn, 1) := by decide +kernel
theorem dX4_sellTo_15 : decode cX4_sellTo 15 = .ok (.iload_n 2, 1) := by decide +kernel
theorem dX4_sellTo_16 : decode cX4_sellTo 16 = .ok (.invokestatic 130, 3) := by decide +kernel
theorem dX4_sellTo_19 : decode cX4_sellTo 19 = .ok (.ifCond .ne 10, 3) := by decide +kernel
theorem dX4_sellTo_22 : decode cX4_sellTo 22 = .ok (.aload_n 0, 1) := by decide +kernel
theorem dX4_sellTo_23 : decode cX4_sellTo 23 = .ok (.iconst 2, 1) := by decide +kernel
theorem dX4_sellTo_24 : decode cX4_sellTo 24 = .ok (.iload_n 2, 1) := by decide +kernel
theorem dX4_sellTo_25 : decode cX4_sellTo 25 = .ok (.invokevirtual 119, 3) := by decide +kernel
theorem dX4_sellTo_28 : decode cX4_sellTo 28 = .ok (.ireturn, 1) := by decide +kernel
theorem dX4_sellTo_29 : decode cX4_sellTo 29 = .ok (.iload_n 3, 1) := by decide +kernel
theorem dX4_sellTo_30 : decode cX4_sellTo 30 = .ok (.ifCond .lt 9, 3) := by decide +kernel
theorem dX4_sellTo_33 : decode cX4_sellTo 33 = .ok (.iload_n 3, 1) := by decide +kernel
theorem dX4_sellTo_34 : decode cX4_sellTo 34 = .ok (.bipush 99, 2) := by decide +kernel
theorem dX4_sellTo_36 : decode cX4_sellTo 36 = .ok (.if_icmp .le 10, 3) := by decide +kernel
theorem dX4_sellTo_39 : decode cX4_sellTo 39 = .ok (.aload_n 0, 1) := by decide +kernel
theorem dX4_sellTo_40 : decode cX4_sellTo 40 = .ok (.iconst 3, 1) := by decide +kernel
theorem dX4_sellTo_41 : decode cX4_sellTo 41 = .ok (.iload_n 3, 1) := by decide +kernel
theorem dX4_sellTo_42 : decode cX4_sellTo 42 = .ok (.invokevirtual 119, 3) := by decide +kernel
theorem dX4_sellTo_45 : decode cX4_sellTo 45 = .ok (.ireturn, 1) := by decide +kernel
theorem dX4_sellTo_46 : decode cX4_sellTo 46 = .ok (.aload_n 0, 1) := by decide +kernel
theorem dX4_sellTo_47 : decode cX4_sellTo 47 = .ok (.getfield 11, 3) := by decide +kernel
theorem dX4_sellTo_50 : decode cX4_sellTo 50 = .ok (.iload_n 1, 1) := by decide +kernel
theorem dX4_sellTo_51 : decode cX4_sellTo 51 = .ok (.aaload, 1) := by decide +kernel
theorem dX4_sellTo_52 : decode cX4_sellTo 52 = .ok (.astore 4, 2) := by decide +kernel
theorem dX4_sellTo_54 : decode cX4_sellTo 54 = .ok (.aload_n 0, 1) := by decide +kernel
theorem dX4_sellTo_55 : decode cX4_sellTo 55 = .ok (.aload 4, 2) := by decide +kernel
theorem dX4_sellTo_57 : decode cX4_sellTo 57 = .ok (.iload_n 1, 1) := by decide +kernel
theorem dX4_sellTo_58 : decode cX4_sellTo 58 = .ok (.iload_n 2, 1) := by decide +kernel
theorem dX4_sellTo_59 : decode cX4_sellTo 59 = .ok (.iload_n 3, 1) := by decide +kernel
theorem dX4_sellTo_60 : decode cX4_sellTo 60 = .ok (.invokevirtual 153, 3) := by decide +kernel
theorem dX4_sellTo_63 : decode cX4_sellTo 63 = .ok (.iconst (-1), 1) := by decide +kernel
theorem dX4_sellTo_64 : decode cX4_sellTo 64 = .ok (.if_icmp .ne 5, 3) := by decide +kernel
theorem dX4_sellTo_67 : decode cX4_sellTo 67 = .ok (.iconst (-1), 1) := by decide +kernel
theorem dX4_sellTo_68 : decode cX4_sellTo 68 = .ok (.ireturn, 1) := by decide +kernel
theorem dX4_sellTo_69 : decode cX4_sellTo 69 = .ok (.aload 4, 2) := by decide +kernel
theorem dX4_sellTo_71 : decode cX4_sellTo 71 = .ok (.getfield 143, 3) := by decide +kernel
theorem dX4_sellTo_74 : decode cX4_sellTo 74 = .ok (.istore 5, 2) := by decide +kernel
theorem dX4_sellTo_76 : decode cX4_sellTo 76 = .ok (.aload_n 0, 1) := by decide +kernel
theorem dX4_sellTo_77 : decode cX4_sellTo 77 = .ok (.iload_n 2, 1) := by decide +kernel
theorem dX4_sellTo_78 : decode cX4_sellTo 78 = .ok (.iload 5, 2) := by decide +kernel
theorem dX4_sellTo_80 : decode cX4_sellTo 80 = .ok (.iload_n 3, 1) := by decide +kernel
theorem dX4_sellTo_81 : decode cX4_sellTo 81 = .ok (.invokevirtual 157, 3) := by decide +kernel
theorem dX4_sellTo_84 : decode cX4_sellTo 84 = .ok (.aload 4, 2) := by decide +kernel
theorem dX4_sellTo_86 : decode cX4_sellTo 86 = .ok (.iload_n 2, 1) := by decide +kernel
theorem dX4_sellTo_87 : decode cX4_sellTo 87 = .ok (.invokevirtual 149, 3) := by decide +kernel
theorem dX4_sellTo_90 : decode cX4_sellTo 90 = .ok (.aload_n 0, 1) := by decide +kernel
theorem dX4_sellTo_91 : decode cX4_sellTo 91 = .ok (.iload 5, 2) := by decide +kernel
theorem dX4_sellTo_93 : decode cX4_sellTo 93 = .ok (.invokevirtual 160, 3) := by decide +kernel
theorem dX4_sellTo_96 : decode cX4_sellTo 96 = .ok (.ireturn, 1) := by decide +kernel
theorem dX4_pledgeTo_0 : decode cX4_pledgeTo 0 = .ok (.aload_n 0, 1) := by decide +kernel
theorem dX4_pledgeTo_1 : decode cX4_pledgeTo 1 = .ok (.iload_n 1, 1) := by decide +kernel
theorem dX4_pledgeTo_2 : decode cX4_pledgeTo 2 = .ok (.invokevirtual 136, 3) := by decide +kernel
theorem dX4_pledgeTo_5 : decode cX4_pledgeTo 5 = .ok (.ifCond .ne 10, 3) := by decide +kernel
theorem dX4_pledgeTo_8 : decode cX4_pledgeTo 8 = .ok (.aload_n 0, 1) := by decide +kernel
theorem dX4_pledgeTo_9 : decode cX4_pledgeTo 9 = .ok (.iconst 2, 1) := by decide +kernel
theorem dX4_pledgeTo_10 : decode cX4_pledgeTo 10 = .ok (.iload_n 1, 1) := by decide +kernel
theorem dX4_pledgeTo_11 : decode cX4_pledgeTo 11 = .ok (.invokevirtual 119, 3) := by decide +kernel
theorem dX4_pledgeTo_14 : decode cX4_pledgeTo 14 = .ok (.ireturn, 1) := by decide +kernel
theorem dX4_pledgeTo_15 : decode cX4_pledgeTo 15 = .ok (.iload_n 2, 1) := by decide +kernel
theorem dX4_pledgeTo_16 : decode cX4_pledgeTo 16 = .ok (.invokestatic 130, 3) := by decide +kernel
theorem dX4_pledgeTo_19 : decode cX4_pledgeTo 19 = .ok (.ifCond .ne 10, 3) := by decide +kernel
theorem dX4_pledgeTo_22 : decode cX4_pledgeTo 22 = .ok (.aload_n 0, 1) := by decide +kernel
theorem dX4_pledgeTo_23 : decode cX4_pledgeTo 23 = .ok (.iconst 2, 1) := by decide +kernel
theorem dX4_pledgeTo_24 : decode cX4_pledgeTo 24 = .ok (.iload_n 2, 1) := by decide +kernel
theorem dX4_pledgeTo_25 : decode cX4_pledgeTo 25 = .ok (.invokevirtual 119, 3) := by decide +kernel
theorem dX4_pledgeTo_28 : decode cX4_pledgeTo 28 = .ok (.ireturn, 1) := by decide +kernel
theorem dX4_pledgeTo_29 : decode cX4_pledgeTo 29 = .ok (.aload_n 0, 1) := by decide +kernel
theorem dX4_pledgeTo_30 : decode cX4_pledgeTo 30 = .ok (.getfield 11, 3) := by decide +kernel
theorem dX4_pledgeTo_33 : decode cX4_pledgeTo 33 = .ok (.iload_n 1, 1) := by decide +kernel
theorem dX4_pledgeTo_34 : decode cX4_pledgeTo 34 = .ok (.aaload, 1) := by decide +kernel
theorem dX4_pledgeTo_35 : decode cX4_pledgeTo 35 = .ok (.astore_n 3, 1) := by decide +kernel
theorem dX4_pledgeTo_36 : decode cX4_pledgeTo 36 = .ok (.aload_n 3, 1) := by decide +kernel
theorem dX4_pledgeTo_37 : decode cX4_pledgeTo 37 = .ok (.invokevirtual 163, 3) := by decide +kernel
theorem dX4_pledgeTo_40 : decode cX4_pledgeTo 40 = .ok (.istore 4, 2) := by decide +kernel
theorem dX4_pledgeTo_42 : decode cX4_pledgeTo 42 = .ok (.aload_n 0, 1) := by decide +kernel
theorem dX4_pledgeTo_43 : decode cX4_pledgeTo 43 = .ok (.aload_n 3, 1) := by decide +kernel
theorem dX4_pledgeTo_44 : decode cX4_pledgeTo 44 = .ok (.iload_n 1, 1) := by decide +kernel
theorem dX4_pledgeTo_45 : decode cX4_pledgeTo 45 = .ok (.iload_n 2, 1) := by decide +kernel
theorem dX4_pledgeTo_46 : decode cX4_pledgeTo 46 = .ok (.iload 4, 2) := by decide +kernel
theorem dX4_pledgeTo_48 : decode cX4_pledgeTo 48 = .ok (.invokevirtual 153, 3) := by decide +kernel
theorem dX4_pledgeTo_51 : decode cX4_pledgeTo 51 = .ok (.iconst (-1), 1) := by decide +kernel
theorem dX4_pledgeTo_52 : decode cX4_pledgeTo 52 = .ok (.if_icmp .ne 5, 3) := by decide +kernel
theorem dX4_pledgeTo_55 : decode cX4_pledgeTo 55 = .ok (.iconst (-1), 1) := by decide +kernel
theorem dX4_pledgeTo_56 : decode cX4_pledgeTo 56 = .ok (.ireturn, 1) := by decide +kernel
theorem dX4_pledgeTo_57 : decode cX4_pledgeTo 57 = .ok (.aload_n 0, 1) := by decide +kernel
theorem dX4_pledgeTo_58 : decode cX4_pledgeTo 58 = .ok (.iload_n 2, 1) := by decide +kernel
theorem dX4_pledgeTo_59 : decode cX4_pledgeTo 59 = .ok (.aload_n 3, 1) := by decide +kernel
theorem dX4_pledgeTo_60 : decode cX4_pledgeTo 60 = .ok (.getfield 143, 3) := by decide +kernel
theorem dX4_pledgeTo_63 : decode cX4_pledgeTo 63 = .ok (.iload 4, 2) := by decide +kernel
theorem dX4_pledgeTo_65 : decode cX4_pledgeTo 65 = .ok (.invokevirtual 157, 3) := by decide +kernel
theorem dX4_pledgeTo_68 : decode cX4_pledgeTo 68 = .ok (.aload_n 3, 1) := by decide +kernel
theorem dX4_pledgeTo_69 : decode cX4_pledgeTo 69 = .ok (.iload_n 2, 1) := by decide +kernel
theorem dX4_pledgeTo_70 : decode cX4_pledgeTo 70 = .ok (.invokevirtual 166, 3) := by decide +kernel
theorem dX4_pledgeTo_73 : decode cX4_pledgeTo 73 = .ok (.iload 4, 2) := by decide +kernel
theorem dX4_pledgeTo_75 : decode cX4_pledgeTo 75 = .ok (.ireturn, 1) := by decide +kernel
theorem dX4_checkDeal_0 : decode cX4_checkDeal 0 = .ok (.aload_n 1, 1) := by decide +kernel
theorem dX4_checkDeal_1 : decode cX4_checkDeal 1 = .ok (.invokevirtual 139, 3) := by decide +kernel
theorem dX4_checkDeal_4 : decode cX4_checkDeal 4 = .ok (.ifCond .ne 11, 3) := by decide +kernel
theorem dX4_checkDeal_7 : decode cX4_checkDeal 7 = .ok (.aload_n 0, 1) := by decide +kernel
theorem dX4_checkDeal_8 : decode cX4_checkDeal 8 = .ok (.bipush 6, 2) := by decide +kernel
theorem dX4_checkDeal_10 : decode cX4_checkDeal 10 = .ok (.iload_n 2, 1) := by decide +kernel
theorem dX4_checkDeal_11 : decode cX4_checkDeal 11 = .ok (.invokevirtual 119, 3) := by decide +kernel
theorem dX4_checkDeal_14 : decode cX4_checkDeal 14 = .ok (.ireturn, 1) := by decide +kernel
theorem dX4_checkDeal_15 : decode cX4_checkDeal 15 = .ok (.aload_n 1, 1) := by decide +kernel
theorem dX4_checkDeal_16 : decode cX4_checkDeal 16 = .ok (.getfield 143, 3) := by decide +kernel
theorem dX4_checkDeal_19 : decode cX4_checkDeal 19 = .ok (.iload_n 3, 1) := by decide +kernel
theorem dX4_checkDeal_20 : decode cX4_checkDeal 20 = .ok (.if_icmp .ne 10, 3) := by decide +kernel
theorem dX4_checkDeal_23 : decode cX4_checkDeal 23 = .ok (.aload_n 0, 1) := by decide +kernel
theorem dX4_checkDeal_24 : decode cX4_checkDeal 24 = .ok (.iconst 4, 1) := by decide +kernel
theorem dX4_checkDeal_25 : decode cX4_checkDeal 25 = .ok (.iload_n 3, 1) := by decide +kernel
theorem dX4_checkDeal_26 : decode cX4_checkDeal 26 = .ok (.invokevirtual 119, 3) := by decide +kernel
theorem dX4_checkDeal_29 : decode cX4_checkDeal 29 = .ok (.ireturn, 1) := by decide +kernel
theorem dX4_checkDeal_30 : decode cX4_checkDeal 30 = .ok (.aload_n 1, 1) := by decide +kernel
theorem dX4_checkDeal_31 : decode cX4_checkDeal 31 = .ok (.invokevirtual 168, 3) := by decide +kernel
theorem dX4_checkDeal_34 : decode cX4_checkDeal 34 = .ok (.ifCond .eq 14, 3) := by decide +kernel
theorem dX4_checkDeal_37 : decode cX4_checkDeal 37 = .ok (.aload_n 0, 1) := by decide +kernel
theorem dX4_checkDeal_38 : decode cX4_checkDeal 38 = .ok (.bipush 8, 2) := by decide +kernel
theorem dX4_checkDeal_40 : decode cX4_checkDeal 40 = .ok (.aload_n 1, 1) := by decide +kernel
theorem dX4_checkDeal_41 : decode cX4_checkDeal 41 = .ok (.getfield 171, 3) := by decide +kernel
theorem dX4_checkDeal_44 : decode cX4_checkDeal 44 = .ok (.invokevirtual 119, 3) := by decide +kernel
theorem dX4_checkDeal_47 : decode cX4_checkDeal 47 = .ok (.ireturn, 1) := by decide +kernel
theorem dX4_checkDeal_48 : decode cX4_checkDeal 48 = .ok (.aload_n 0, 1) := by decide +kernel
theorem dX4_checkDeal_49 : decode cX4_checkDeal 49 = .ok (.iload_n 3, 1) := by decide +kernel
theorem dX4_checkDeal_50 : decode cX4_checkDeal 50 = .ok (.invokevirtual 160, 3) := by decide +kernel
theorem dX4_checkDeal_53 : decode cX4_checkDeal 53 = .ok (.iload 4, 2) := by decide +kernel
theorem dX4_checkDeal_55 : decode cX4_checkDeal 55 = .ok (.if_icmp .ge 15, 3) := by decide +kernel
theorem dX4_checkDeal_58 : decode cX4_checkDeal 58 = .ok (.aload_n 0, 1) := by decide +kernel
theorem dX4_checkDeal_59 : decode cX4_checkDeal 59 = .ok (.bipush 7, 2) := by decide +kernel
theorem dX4_checkDeal_61 : decode cX4_checkDeal 61 = .ok (.aload_n 0, 1) := by decide +kernel
theorem dX4_checkDeal_62 : decode cX4_checkDeal 62 = .ok (.iload_n 3, 1) := by decide +kernel
theorem dX4_checkDeal_63 : decode cX4_checkDeal 63 = .ok (.invokevirtual 160, 3) := by decide +kernel
theorem dX4_checkDeal_66 : decode cX4_checkDeal 66 = .ok (.invokevirtual 119, 3) := by decide +kernel
theorem dX4_checkDeal_69 : decode cX4_checkDeal 69 = .ok (.ireturn, 1) := by decide +kernel
theorem dX4_checkDeal_70 : decode cX4_checkDeal 70 = .ok (.iconst 0, 1) := by decide +kernel
theorem dX4_checkDeal_71 : decode cX4_checkDeal 71 = .ok (.ireturn, 1) := by decide +kernel
theorem dX4_redeemPledge_0 : decode cX4_redeemPledge 0 = .ok (.aload_n 0, 1) := by decide +kernel
theorem dX4_redeemPledge_1 : decode cX4_redeemPledge 1 = .ok (.iload_n 1, 1) := by decide +kernel
theorem dX4_redeemPledge_2 : decode cX4_redeemPledge 2 = .ok (.invokevirtual 136, 3) := by decide +kernel
theorem dX4_redeemPledge_5 : decode cX4_redeemPledge 5 = .ok (.ifCond .ne 10, 3) := by decide +kernel
theorem dX4_redeemPledge_8 : decode cX4_redeemPledge 8 = .ok (.aload_n 0, 1) := by decide +kernel
theorem dX4_redeemPledge_9 : decode cX4_redeemPledge 9 = .ok (.iconst 2, 1) := by decide +kernel
theorem dX4_redeemPledge_10 : decode cX4_redeemPledge 10 = .ok (.iload_n 1, 1) := by decide +kernel
theorem dX4_redeemPledge_11 : decode cX4_redeemPledge 11 = .ok (.invokevirtual 119, 3) := by decide +kernel
theorem dX4_redeemPledge_14 : decode cX4_redeemPledge 14 = .ok (.ireturn, 1) := by decide +kernel
theorem dX4_redeemPledge_15 : decode cX4_redeemPledge 15 = .ok (.aload_n 0, 1) := by decide +kernel
theorem dX4_redeemPledge_16 : decode cX4_redeemPledge 16 = .ok (.getfield 11, 3) := by decide +kernel
theorem dX4_redeemPledge_19 : decode cX4_redeemPledge 19 = .ok (.iload_n 1, 1) := by decide +kernel
theorem dX4_redeemPledge_20 : decode cX4_redeemPledge 20 = .ok (.aaload, 1) := by decide +kernel
theorem dX4_redeemPledge_21 : decode cX4_redeemPledge 21 = .ok (.astore_n 2, 1) := by decide +kernel
theorem dX4_redeemPledge_22 : decode cX4_redeemPledge 22 = .ok (.aload_n 2, 1) := by decide +kernel
theorem dX4_redeemPledge_23 : decode cX4_redeemPledge 23 = .ok (.invokevirtual 168, 3) := by decide +kernel
theorem dX4_redeemPledge_26 : decode cX4_redeemPledge 26 = .ok (.ifCond .ne 11, 3) := by decide +kernel
theorem dX4_redeemPledge_29 : decode cX4_redeemPledge 29 = .ok (.aload_n 0, 1) := by decide +kernel
theorem dX4_redeemPledge_30 : decode cX4_redeemPledge 30 = .ok (.bipush 9, 2) := by decide +kernel
theorem dX4_redeemPledge_32 : decode cX4_redeemPledge 32 = .ok (.iload_n 1, 1) := by decide +kernel
theorem dX4_redeemPledge_33 : decode cX4_redeemPledge 33 = .ok (.invokevirtual 119, 3) := by decide +kernel
theorem dX4_redeemPledge_36 : decode cX4_redeemPledge 36 = .ok (.ireturn, 1) := by decide +kernel
theorem dX4_redeemPledge_37 : decode cX4_redeemPledge 37 = .ok (.aload_n 2, 1) := by decide +kernel
theorem dX4_redeemPledge_38 : decode cX4_redeemPledge 38 = .ok (.invokevirtual 174, 3) := by decide +kernel
theorem dX4_redeemPledge_41 : decode cX4_redeemPledge 41 = .ok (.istore_n 3, 1) := by decide +kernel
theorem dX4_redeemPledge_42 : decode cX4_redeemPledge 42 = .ok (.aload_n 0, 1) := by decide +kernel
theorem dX4_redeemPledge_43 : decode cX4_redeemPledge 43 = .ok (.aload_n 2, 1) := by decide +kernel
theorem dX4_redeemPledge_44 : decode cX4_redeemPledge 44 = .ok (.getfield 143, 3) := by decide +kernel
theorem dX4_redeemPledge_47 : decode cX4_redeemPledge 47 = .ok (.invokevirtual 160, 3) := by decide +kernel
theorem dX4_redeemPledge_50 : decode cX4_redeemPledge 50 = .ok (.iload_n 3, 1) := by decide +kernel
theorem dX4_redeemPledge_51 : decode cX4_redeemPledge 51 = .ok (.if_icmp .ge 18, 3) := by decide +kernel
theorem dX4_redeemPledge_54 : decode cX4_redeemPledge 54 = .ok (.aload_n 0, 1) := by decide +kernel
theorem dX4_redeemPledge_55 : decode cX4_redeemPledge 55 = .ok (.bipush 7, 2) := by decide +kernel
theorem dX4_redeemPledge_57 : decode cX4_redeemPledge 57 = .ok (.aload_n 0, 1) := by decide +kernel
theorem dX4_redeemPledge_58 : decode cX4_redeemPledge 58 = .ok (.aload_n 2, 1) := by decide +kernel
theorem dX4_redeemPledge_59 : decode cX4_redeemPledge 59 = .ok (.getfield 143, 3) := by decide +kernel
theorem dX4_redeemPledge_62 : decode cX4_redeemPledge 62 = .ok (.invokevirtual 160, 3) := by decide +kernel
theorem dX4_redeemPledge_65 : decode cX4_redeemPledge 65 = .ok (.invokevirtual 119, 3) := by decide +kernel
theorem dX4_redeemPledge_68 : decode cX4_redeemPledge 68 = .ok (.ireturn, 1) := by decide +kernel
theorem dX4_redeemPledge_69 : decode cX4_redeemPledge 69 = .ok (.aload_n 0, 1) := by decide +kernel
theorem dX4_redeemPledge_70 : decode cX4_redeemPledge 70 = .ok (.aload_n 2, 1) := by decide +kernel
theorem dX4_redeemPledge_71 : decode cX4_redeemPledge 71 = .ok (.getfield 143, 3) := by decide +kernel
theorem dX4_redeemPledge_74 : decode cX4_redeemPledge 74 = .ok (.aload_n 2, 1) := by decide +kernel
theorem dX4_redeemPledge_75 : decode cX4_redeemPledge 75 = .ok (.getfield 171, 3) := by decide +kernel
theorem dX4_redeemPledge_78 : decode cX4_redeemPledge 78 = .ok (.iload_n 3, 1) := by decide +kernel
theorem dX4_redeemPledge_79 : decode cX4_redeemPledge 79 = .ok (.invokevirtual 157, 3) := by decide +kernel
theorem dX4_redeemPledge_82 : decode cX4_redeemPledge 82 = .ok (.aload_n 2, 1) := by decide +kernel
theorem dX4_redeemPledge_83 : decode cX4_redeemPledge 83 = .ok (.invokevirtual 177, 3) := by decide +kernel
theorem dX4_redeemPledge_86 : decode cX4_redeemPledge 86 = .ok (.iload_n 3, 1) := by decide +kernel
theorem dX4_redeemPledge_87 : decode cX4_redeemPledge 87 = .ok (.ireturn, 1) := by decide +kernel
theorem dX4_blow_0 : decode cX4_blow 0 = .ok (.iload_n 1, 1) := by decide +kernel
theorem dX4_blow_1 : decode cX4_blow 1 = .ok (.ifCond .eq 14, 3) := by decide +kernel
theorem dX4_blow_4 : decode cX4_blow 4 = .ok (.iload_n 1, 1) := by decide +kernel
theorem dX4_blow_5 : decode cX4_blow 5 = .ok (.bipush (-3), 2) := by decide +kernel
theorem dX4_blow_7 : decode cX4_blow 7 = .ok (.if_icmp .lt 8, 3) := by decide +kernel
theorem dX4_blow_10 : decode cX4_blow 10 = .ok (.iload_n 1, 1) := by decide +kernel
theorem dX4_blow_11 : decode cX4_blow 11 = .ok (.iconst 3, 1) := by decide +kernel
theorem dX4_blow_12 : decode cX4_blow 12 = .ok (.if_icmp .le 10, 3) := by decide +kernel
theorem dX4_blow_15 : decode cX4_blow 15 = .ok (.aload_n 0, 1) := by decide +kernel
theorem dX4_blow_16 : decode cX4_blow 16 = .ok (.iconst 3, 1) := by decide +kernel
theorem dX4_blow_17 : decode cX4_blow 17 = .ok (.iload_n 1, 1) := by decide +kernel
theorem dX4_blow_18 : decode cX4_blow 18 = .ok (.invokevirtual 119, 3) := by decide +kernel
theorem dX4_blow_21 : decode cX4_blow 21 = .ok (.ireturn, 1) := by decide +kernel
theorem dX4_blow_22 : decode cX4_blow 22 = .ok (.iconst 0, 1) := by decide +kernel
theorem dX4_blow_23 : decode cX4_blow 23 = .ok (.istore_n 2, 1) := by decide +kernel
theorem dX4_blow_24 : decode cX4_blow 24 = .ok (.iconst 0, 1) := by decide +kernel
theorem dX4_blow_25 : decode cX4_blow 25 = .ok (.istore_n 3, 1) := by decide +kernel
theorem dX4_blow_26 : decode cX4_blow 26 = .ok (.iload_n 3, 1) := by decide +kernel
theorem dX4_blow_27 : decode cX4_blow 27 = .ok (.aload_n 0, 1) := by decide +kernel
theorem dX4_blow_28 : decode cX4_blow 28 = .ok (.getfield 17, 3) := by decide +kernel
theorem dX4_blow_31 : decode cX4_blow 31 = .ok (.if_icmp .ge 34, 3) := by decide +kernel
theorem dX4_blow_34 : decode cX4_blow 34 = .ok (.aload_n 0, 1) := by decide +kernel
theorem dX4_blow_35 : decode cX4_blow 35 = .ok (.getfield 11, 3) := by decide +kernel
theorem dX4_blow_38 : decode cX4_blow 38 = .ok (.iload_n 3, 1) := by decide +kernel
theorem dX4_blow_39 : decode cX4_blow 39 = .ok (.aaload, 1) := by decide +kernel
theorem dX4_blow_40 : decode cX4_blow 40 = .ok (.iload_n 1, 1) := by decide +kernel
theorem dX4_blow_41 : decode cX4_blow 41 = .ok (.invokevirtual 180, 3) := by decide +kernel
theorem dX4_blow_44 : decode cX4_blow 44 = .ok (.aload_n 0, 1) := by decide +kernel
theorem dX4_blow_45 : decode cX4_blow 45 = .ok (.getfield 11, 3) := by decide +kernel
theorem dX4_blow_48 : decode cX4_blow 48 = .ok (.iload_n 3, 1) := by decide +kernel
theorem dX4_blow_49 : decode cX4_blow 49 = .ok (.aaload, 1) := by decide +kernel
theorem dX4_blow_50 : decode cX4_blow 50 = .ok (.invokevirtual 183, 3) := by decide +kernel
theorem dX4_blow_53 : decode cX4_blow 53 = .ok (.ifCond .eq 6, 3) := by decide +kernel
theorem dX4_blow_56 : decode cX4_blow 56 = .ok (.iinc 2 1, 3) := by decide +kernel
theorem dX4_blow_59 : decode cX4_blow 59 = .ok (.iinc 3 1, 3) := by decide +kernel
theorem dX4_blow_62 : decode cX4_blow 62 = .ok (.goto (-36), 3) := by decide +kernel
theorem dX4_blow_65 : decode cX4_blow 65 = .ok (.iload_n 2, 1) := by decide +kernel
theorem dX4_blow_66 : decode cX4_blow 66 = .ok (.ireturn, 1) := by decide +kernel
theorem dX4_hailDown_0 : decode cX4_hailDown 0 = .ok (.iload_n 1, 1) := by decide +kernel
theorem dX4_hailDown_1 : decode cX4_hailDown 1 = .ok (.invokestatic 115, 3) := by decide +kernel
theorem dX4_hailDown_4 : decode cX4_hailDown 4 = .ok (.ifCond .ne 10, 3) := by decide +kernel
theorem dX4_hailDown_7 : decode cX4_hailDown 7 = .ok (.aload_n 0, 1) := by decide +kernel
theorem dX4_hailDown_8 : decode cX4_hailDown 8 = .ok (.iconst 2, 1) := by decide +kernel
theorem dX4_hailDown_9 : decode cX4_hailDown 9 = .ok (.iload_n 1, 1) := by decide +kernel
theorem dX4_hailDown_10 : decode cX4_hailDown 10 = .ok (.invokevirtual 119, 3) := by decide +kernel
theorem dX4_hailDown_13 : decode cX4_hailDown 13 = .ok (.ireturn, 1) := by decide +kernel
theorem dX4_hailDown_14 : decode cX4_hailDown 14 = .ok (.iconst 0, 1) := by decide +kernel
theorem dX4_hailDown_15 : decode cX4_hailDown 15 = .ok (.istore_n 2, 1) := by decide +kernel
theorem dX4_hailDown_16 : decode cX4_hailDown 16 = .ok (.iconst 0, 1) := by decide +kernel
theorem dX4_hailDown_17 : decode cX4_hailDown 17 = .ok (.istore_n 3, 1) := by decide +kernel
theorem dX4_hailDown_18 : decode cX4_hailDown 18 = .ok (.iload_n 3, 1) := by decide +kernel
theorem dX4_hailDown_19 : decode cX4_hailDown 19 = .ok (.aload_n 0, 1) := by decide +kernel
theorem dX4_hailDown_20 : decode cX4_hailDown 20 = .ok (.getfield 17, 3) := by decide +kernel
theorem dX4_hailDown_23 : decode cX4_hailDown 23 = .ok (.if_icmp .ge 70, 3) := by decide +kernel
theorem dX4_hailDown_26 : decode cX4_hailDown 26 = .ok (.aload_n 0, 1) := by decide +kernel
theorem dX4_hailDown_27 : decode cX4_hailDown 27 = .ok (.getfield 11, 3) := by decide +kernel
theorem dX4_hailDown_30 : decode cX4_hailDown 30 = .ok (.iload_n 3, 1) := by decide +kernel
theorem dX4_hailDown_31 : decode cX4_hailDown 31 = .ok (.aaload, 1) := by decide +kernel
theorem dX4_hailDown_32 : decode cX4_hailDown 32 = .ok (.astore 4, 2) := by decide +kernel
theorem dX4_hailDown_34 : decode cX4_hailDown 34 = .ok (.aload 4, 2) := by decide +kernel
theorem dX4_hailDown_36 : decode cX4_hailDown 36 = .ok (.getfield 186, 3) := by decide +kernel
theorem dX4_hailDown_39 : decode cX4_hailDown 39 = .ok (.iload_n 1, 1) := by decide +kernel
theorem dX4_hailDown_40 : decode cX4_hailDown 40 = .ok (.if_icmp .ne 27, 3) := by decide +kernel
theorem dX4_hailDown_43 : decode cX4_hailDown 43 = .ok (.aload 4, 2) := by decide +kernel
theorem dX4_hailDown_45 : decode cX4_hailDown 45 = .ok (.invokevirtual 168, 3) := by decide +kernel
theorem dX4_hailDown_48 : decode cX4_hailDown 48 = .ok (.ifCond .eq 19, 3) := by decide +kernel
theorem dX4_hailDown_51 : decode cX4_hailDown 51 = .ok (.aload 4, 2) := by decide +kernel
theorem dX4_hailDown_53 : decode cX4_hailDown 53 = .ok (.aload 4, 2) := by decide +kernel
theorem dX4_hailDown_55 : decode cX4_hailDown 55 = .ok (.getfield 171, 3) := by decide +kernel
theorem dX4_hailDown_58 : decode cX4_hailDown 58 = .ok (.invokevirtual 149, 3) := by decide +kernel
theorem dX4_hailDown_61 : decode cX4_hailDown 61 = .ok (.iinc 2 1, 3) := by decide +kernel
theorem dX4_hailDown_64 : decode cX4_hailDown 64 = .ok (.goto 23, 3) := by decide +kernel
theorem dX4_hailDown_67 : decode cX4_hailDown 67 = .ok (.aload 4, 2) := by decide +kernel
theorem dX4_hailDown_69 : decode cX4_hailDown 69 = .ok (.getfield 186, 3) := by decide +kernel
theorem dX4_hailDown_72 : decode cX4_hailDown 72 = .ok (.iload_n 1, 1) := by decide +kernel
theorem dX4_hailDown_73 : decode cX4_hailDown 73 = .ok (.if_icmp .ne 14, 3) := by decide +kernel
theorem dX4_hailDown_76 : decode cX4_hailDown 76 = .ok (.aload 4, 2) := by decide +kernel
theorem dX4_hailDown_78 : decode cX4_hailDown 78 = .ok (.dup, 1) := by decide +kernel
theorem dX4_hailDown_79 : decode cX4_hailDown 79 = .ok (.getfield 146, 3) := by decide +kernel
theorem dX4_hailDown_82 : decode cX4_hailDown 82 = .ok (.iconst 1, 1) := by decide +kernel
theorem dX4_hailDown_83 : decode cX4_hailDown 83 = .ok (.isub, 1) := by decide +kernel
theorem dX4_hailDown_84 : decode cX4_hailDown 84 = .ok (.putfield 146, 3) := by decide +kernel
theorem dX4_hailDown_87 : decode cX4_hailDown 87 = .ok (.iinc 3 1, 3) := by decide +kernel
theorem dX4_hailDown_90 : decode cX4_hailDown 90 = .ok (.goto (-72), 3) := by decide +kernel
theorem dX4_hailDown_93 : decode cX4_hailDown 93 = .ok (.aload_n 0, 1) := by decide +kernel
theorem dX4_hailDown_94 : decode cX4_hailDown 94 = .ok (.dup, 1) := by decide +kernel
theorem dX4_hailDown_95 : decode cX4_hailDown 95 = .ok (.getfield 44, 3) := by decide +kernel
theorem dX4_hailDown_98 : decode cX4_hailDown 98 = .ok (.iload_n 2, 1) := by decide +kernel
theorem dX4_hailDown_99 : decode cX4_hailDown 99 = .ok (.iadd, 1) := by decide +kernel
theorem dX4_hailDown_100 : decode cX4_hailDown 100 = .ok (.putfield 44, 3) := by decide +kernel
theorem dX4_hailDown_103 : decode cX4_hailDown 103 = .ok (.aload_n 0, 1) := by decide +kernel
theorem dX4_hailDown_104 : decode cX4_hailDown 104 = .ok (.invokevirtual 189, 3) := by decide +kernel
theorem dX4_hailDown_107 : decode cX4_hailDown 107 = .ok (.iload_n 2, 1) := by decide +kernel
theorem dX4_hailDown_108 : decode cX4_hailDown 108 = .ok (.ireturn, 1) := by decide +kernel
theorem dX4_removeGone_0 : decode cX4_removeGone 0 = .ok (.iconst 0, 1) := by decide +kernel
theorem dX4_removeGone_1 : decode cX4_removeGone 1 = .ok (.istore_n 1, 1) := by decide +kernel
theorem dX4_removeGone_2 : decode cX4_removeGone 2 = .ok (.iconst 0, 1) := by decide +kernel
theorem dX4_removeGone_3 : decode cX4_removeGone 3 = .ok (.istore_n 2, 1) := by decide +kernel
theorem dX4_removeGone_4 : decode cX4_removeGone 4 = .ok (.iload_n 2, 1) := by decide +kernel
theorem dX4_removeGone_5 : decode cX4_removeGone 5 = .ok (.aload_n 0, 1) := by decide +kernel
theorem dX4_removeGone_6 : decode cX4_removeGone 6 = .ok (.getfield 17, 3) := by decide +kernel
theorem dX4_removeGone_9 : decode cX4_removeGone 9 = .ok (.if_icmp .ge 39, 3) := by decide +kernel
theorem dX4_removeGone_12 : decode cX4_removeGone 12 = .ok (.aload_n 0, 1) := by decide +kernel
theorem dX4_removeGone_13 : decode cX4_removeGone 13 = .ok (.getfield 11, 3) := by decide +kernel
theorem dX4_removeGone_16 : decode cX4_removeGone 16 = .ok (.iload_n 2, 1) := by decide +kernel
theorem dX4_removeGone_17 : decode cX4_removeGone 17 = .ok (.aaload, 1) := by decide +kernel
theorem dX4_removeGone_18 : decode cX4_removeGone 18 = .ok (.getfield 146, 3) := by decide +kernel
theorem dX4_removeGone_21 : decode cX4_removeGone 21 = .ok (.ifCond .le 21, 3) := by decide +kernel
theorem dX4_removeGone_24 : decode cX4_removeGone 24 = .ok (.aload_n 0, 1) := by decide +kernel
theorem dX4_removeGone_25 : decode cX4_removeGone 25 = .ok (.getfield 11, 3) := by decide +kernel
theorem dX4_removeGone_28 : decode cX4_removeGone 28 = .ok (.iload_n 1, 1) := by decide +kernel
theorem dX4_removeGone_29 : decode cX4_removeGone 29 = .ok (.aaload, 1) := by decide +kernel
theorem dX4_removeGone_30 : decode cX4_removeGone 30 = .ok (.aload_n 0, 1) := by decide +kernel
theorem dX4_removeGone_31 : decode cX4_removeGone 31 = .ok (.getfield 11, 3) := by decide +kernel
theorem dX4_removeGone_34 : decode cX4_removeGone 34 = .ok (.iload_n 2, 1) := by decide +kernel
theorem dX4_removeGone_35 : decode cX4_removeGone 35 = .ok (.aaload, 1) := by decide +kernel
theorem dX4_removeGone_36 : decode cX4_removeGone 36 = .ok (.invokevirtual 63, 3) := by decide +kernel
theorem dX4_removeGone_39 : decode cX4_removeGone 39 = .ok (.iinc 1 1, 3) := by decide +kernel
theorem dX4_removeGone_42 : decode cX4_removeGone 42 = .ok (.iinc 2 1, 3) := by decide +kernel
theorem dX4_removeGone_45 : decode cX4_removeGone 45 = .ok (.goto (-41), 3) := by decide +kernel
theorem dX4_removeGone_48 : decode cX4_removeGone 48 = .ok (.aload_n 0, 1) := by decide +kernel
theorem dX4_removeGone_49 : decode cX4_removeGone 49 = .ok (.dup, 1) := by decide +kernel
theorem dX4_removeGone_50 : decode cX4_removeGone 50 = .ok (.getfield 47, 3) := by decide +kernel
theorem dX4_removeGone_53 : decode cX4_removeGone 53 = .ok (.aload_n 0, 1) := by decide +kernel
theorem dX4_removeGone_54 : decode cX4_removeGone 54 = .ok (.getfield 17, 3) := by decide +kernel
theorem dX4_removeGone_57 : decode cX4_removeGone 57 = .ok (.iload_n 1, 1) := by decide +kernel
theorem dX4_removeGone_58 : decode cX4_removeGone 58 = .ok (.isub, 1) := by decide +kernel
theorem dX4_removeGone_59 : decode cX4_removeGone 59 = .ok (.iadd, 1) := by decide +kernel
theorem dX4_removeGone_60 : decode cX4_removeGone 60 = .ok (.putfield 47, 3) := by decide +kernel
theorem dX4_removeGone_63 : decode cX4_removeGone 63 = .ok (.aload_n 0, 1) := by decide +kernel
theorem dX4_removeGone_64 : decode cX4_removeGone 64 = .ok (.iload_n 1, 1) := by decide +kernel
theorem dX4_removeGone_65 : decode cX4_removeGone 65 = .ok (.putfield 17, 3) := by decide +kernel
theorem dX4_removeGone_68 : decode cX4_removeGone 68 = .ok (.return_, 1) := by decide +kernel
theorem dX4_letDawn_0 : decode cX4_letDawn 0 = .ok (.aload_n 0, 1) := by decide +kernel
theorem dX4_letDawn_1 : decode cX4_letDawn 1 = .ok (.invokevirtual 192, 3) := by decide +kernel
theorem dX4_letDawn_4 : decode cX4_letDawn 4 = .ok (.aload_n 0, 1) := by decide +kernel
theorem dX4_letDawn_5 : decode cX4_letDawn 5 = .ok (.invokevirtual 195, 3) := by decide +kernel
theorem dX4_letDawn_8 : decode cX4_letDawn 8 = .ok (.istore_n 1, 1) := by decide +kernel
theorem dX4_letDawn_9 : decode cX4_letDawn 9 = .ok (.aload_n 0, 1) := by decide +kernel
theorem dX4_letDawn_10 : decode cX4_letDawn 10 = .ok (.invokevirtual 198, 3) := by decide +kernel
theorem dX4_letDawn_13 : decode cX4_letDawn 13 = .ok (.aload_n 0, 1) := by decide +kernel
theorem dX4_letDawn_14 : decode cX4_letDawn 14 = .ok (.getfield 31, 3) := by decide +kernel
theorem dX4_letDawn_17 : decode cX4_letDawn 17 = .ok (.aload_n 0, 1) := by decide +kernel
theorem dX4_letDawn_18 : decode cX4_letDawn 18 = .ok (.getfield 11, 3) := by decide +kernel
theorem dX4_letDawn_21 : decode cX4_letDawn 21 = .ok (.aload_n 0, 1) := by decide +kernel
theorem dX4_letDawn_22 : decode cX4_letDawn 22 = .ok (.getfield 17, 3) := by decide +kernel
theorem dX4_letDawn_25 : decode cX4_letDawn 25 = .ok (.invokevirtual 201, 3) := by decide +kernel
theorem dX4_letDawn_28 : decode cX4_letDawn 28 = .ok (.aload_n 0, 1) := by decide +kernel
theorem dX4_letDawn_29 : decode cX4_letDawn 29 = .ok (.dup, 1) := by decide +kernel
theorem dX4_letDawn_30 : decode cX4_letDawn 30 = .ok (.getfield 35, 3) := by decide +kernel
theorem dX4_letDawn_33 : decode cX4_letDawn 33 = .ok (.iconst 1, 1) := by decide +kernel
theorem dX4_letDawn_34 : decode cX4_letDawn 34 = .ok (.iadd, 1) := by decide +kernel
theorem dX4_letDawn_35 : decode cX4_letDawn 35 = .ok (.putfield 35, 3) := by decide +kernel
theorem dX4_letDawn_38 : decode cX4_letDawn 38 = .ok (.iload_n 1, 1) := by decide +kernel
theorem dX4_letDawn_39 : decode cX4_letDawn 39 = .ok (.ireturn, 1) := by decide +kernel
theorem dX4_lapseTitles_0 : decode cX4_lapseTitles 0 = .ok (.iconst 0, 1) := by decide +kernel
theorem dX4_lapseTitles_1 : decode cX4_lapseTitles 1 = .ok (.istore_n 1, 1) := by decide +kernel
theorem dX4_lapseTitles_2 : decode cX4_lapseTitles 2 = .ok (.iload_n 1, 1) := by decide +kernel
theorem dX4_lapseTitles_3 : decode cX4_lapseTitles 3 = .ok (.aload_n 0, 1) := by decide +kernel
theorem dX4_lapseTitles_4 : decode cX4_lapseTitles 4 = .ok (.getfield 17, 3) := by decide +kernel
theorem dX4_lapseTitles_7 : decode cX4_lapseTitles 7 = .ok (.if_icmp .ge 40, 3) := by decide +kernel
theorem dX4_lapseTitles_10 : decode cX4_lapseTitles 10 = .ok (.aload_n 0, 1) := by decide +kernel
theorem dX4_lapseTitles_11 : decode cX4_lapseTitles 11 = .ok (.getfield 11, 3) := by decide +kernel
theorem dX4_lapseTitles_14 : decode cX4_lapseTitles 14 = .ok (.iload_n 1, 1) := by decide +kernel
theorem dX4_lapseTitles_15 : decode cX4_lapseTitles 15 = .ok (.aaload, 1) := by decide +kernel
theorem dX4_lapseTitles_16 : decode cX4_lapseTitles 16 = .ok (.invokevirtual 183, 3) := by decide +kernel
theorem dX4_lapseTitles_19 : decode cX4_lapseTitles 19 = .ok (.ifCond .eq 22, 3) := by decide +kernel
theorem dX4_lapseTitles_22 : decode cX4_lapseTitles 22 = .ok (.aload_n 0, 1) := by decide +kernel
theorem dX4_lapseTitles_23 : decode cX4_lapseTitles 23 = .ok (.getfield 11, 3) := by decide +kernel
theorem dX4_lapseTitles_26 : decode cX4_lapseTitles 26 = .ok (.iload_n 1, 1) := by decide +kernel
theorem dX4_lapseTitles_27 : decode cX4_lapseTitles 27 = .ok (.aaload, 1) := by decide +kernel
theorem dX4_lapseTitles_28 : decode cX4_lapseTitles 28 = .ok (.invokevirtual 205, 3) := by decide +kernel
theorem dX4_lapseTitles_31 : decode cX4_lapseTitles 31 = .ok (.aload_n 0, 1) := by decide +kernel
theorem dX4_lapseTitles_32 : decode cX4_lapseTitles 32 = .ok (.dup, 1) := by decide +kernel
theorem dX4_lapseTitles_33 : decode cX4_lapseTitles 33 = .ok (.getfield 38, 3) := by decide +kernel
theorem dX4_lapseTitles_36 : decode cX4_lapseTitles 36 = .ok (.iconst 1, 1) := by decide +kernel
theorem dX4_lapseTitles_37 : decode cX4_lapseTitles 37 = .ok (.iadd, 1) := by decide +kernel
theorem dX4_lapseTitles_38 : decode cX4_lapseTitles 38 = .ok (.putfield 38, 3) := by decide +kernel
theorem dX4_lapseTitles_41 : decode cX4_lapseTitles 41 = .ok (.iinc 1 1, 3) := by decide +kernel
theorem dX4_lapseTitles_44 : decode cX4_lapseTitles 44 = .ok (.goto (-42), 3) := by decide +kernel
theorem dX4_lapseTitles_47 : decode cX4_lapseTitles 47 = .ok (.return_, 1) := by decide +kernel
theorem dX4_claimClouds_0 : decode cX4_claimClouds 0 = .ok (.iconst 0, 1) := by decide +kernel
theorem dX4_claimClouds_1 : decode cX4_claimClouds 1 = .ok (.istore_n 1, 1) := by decide +kernel
theorem dX4_claimClouds_2 : decode cX4_claimClouds 2 = .ok (.iconst 0, 1) := by decide +kernel
theorem dX4_claimClouds_3 : decode cX4_claimClouds 3 = .ok (.istore_n 2, 1) := by decide +kernel
theorem dX4_claimClouds_4 : decode cX4_claimClouds 4 = .ok (.iload_n 2, 1) := by decide +kernel
theorem dX4_claimClouds_5 : decode cX4_claimClouds 5 = .ok (.aload_n 0, 1) := by decide +kernel
theorem dX4_claimClouds_6 : decode cX4_claimClouds 6 = .ok (.getfield 17, 3) := by decide +kernel
theorem dX4_claimClouds_9 : decode cX4_claimClouds 9 = .ok (.if_icmp .ge 50, 3) := by decide +kernel
theorem dX4_claimClouds_12 : decode cX4_claimClouds 12 = .ok (.aload_n 0, 1) := by decide +kernel
theorem dX4_claimClouds_13 : decode cX4_claimClouds 13 = .ok (.aload_n 0, 1) := by decide +kernel
theorem dX4_claimClouds_14 : decode cX4_claimClouds 14 = .ok (.getfield 11, 3) := by decide +kernel
theorem dX4_claimClouds_17 : decode cX4_claimClouds 17 = .ok (.iload_n 2, 1) := by decide +kernel
theorem dX4_claimClouds_18 : decode cX4_claimClouds 18 = .ok (.aaload, 1) := by decide +kernel
theorem dX4_claimClouds_19 : decode cX4_claimClouds 19 = .ok (.invokevirtual 208, 3) := by decide +kernel
theorem dX4_claimClouds_22 : decode cX4_claimClouds 22 = .ok (.istore_n 3, 1) := by decide +kernel
theorem dX4_claimClouds_23 : decode cX4_claimClouds 23 = .ok (.aload_n 0, 1) := by decide +kernel
theorem dX4_claimClouds_24 : decode cX4_claimClouds 24 = .ok (.getfield 11, 3) := by decide +kernel
theorem dX4_claimClouds_27 : decode cX4_claimClouds 27 = .ok (.iload_n 2, 1) := by decide +kernel
theorem dX4_claimClouds_28 : decode cX4_claimClouds 28 = .ok (.aaload, 1) := by decide +kernel
theorem dX4_claimClouds_29 : decode cX4_claimClouds 29 = .ok (.invokevirtual 139, 3) := by decide +kernel
theorem dX4_claimClouds_32 : decode cX4_claimClouds 32 = .ok (.ifCond .ne 21, 3) := by decide +kernel
theorem dX4_claimClouds_35 : decode cX4_claimClouds 35 = .ok (.iload_n 3, 1) := by decide +kernel
theorem dX4_claimClouds_36 : decode cX4_claimClouds 36 = .ok (.iconst (-1), 1) := by decide +kernel
theorem dX4_claimClouds_37 : decode cX4_claimClouds 37 = .ok (.if_icmp .eq 16, 3) := by decide +kernel
theorem dX4_claimClouds_40 : decode cX4_claimClouds 40 = .ok (.aload_n 0, 1) := by decide +kernel
theorem dX4_claimClouds_41 : decode cX4_claimClouds 41 = .ok (.getfield 11, 3) := by decide +kernel
theorem dX4_claimClouds_44 : decode cX4_claimClouds 44 = .ok (.iload_n 2, 1) := by decide +kernel
theorem dX4_claimClouds_45 : decode cX4_claimClouds 45 = .ok (.aaload, 1) := by decide +kernel
theorem dX4_claimClouds_46 : decode cX4_claimClouds 46 = .ok (.iload_n 3, 1) := by decide +kernel
theorem dX4_claimClouds_47 : decode cX4_claimClouds 47 = .ok (.invokevirtual 149, 3) := by decide +kernel
theorem dX4_claimClouds_50 : decode cX4_claimClouds 50 = .ok (.iinc 1 1, 3) := by decide +kernel
theorem dX4_claimClouds_53 : decode cX4_claimClouds 53 = .ok (.iinc 2 1, 3) := by decide +kernel
theorem dX4_claimClouds_56 : decode cX4_claimClouds 56 = .ok (.goto (-52), 3) := by decide +kernel
theorem dX4_claimClouds_59 : decode cX4_claimClouds 59 = .ok (.aload_n 0, 1) := by decide +kernel
theorem dX4_claimClouds_60 : decode cX4_claimClouds 60 = .ok (.dup, 1) := by decide +kernel
theorem dX4_claimClouds_61 : decode cX4_claimClouds 61 = .ok (.getfield 41, 3) := by decide +kernel
theorem dX4_claimClouds_64 : decode cX4_claimClouds 64 = .ok (.iload_n 1, 1) := by decide +kernel
theorem dX4_claimClouds_65 : decode cX4_claimClouds 65 = .ok (.iadd, 1) := by decide +kernel
theorem dX4_claimClouds_66 : decode cX4_claimClouds 66 = .ok (.putfield 41, 3) := by decide +kernel
theorem dX4_claimClouds_69 : decode cX4_claimClouds 69 = .ok (.iload_n 1, 1) := by decide +kernel
theorem dX4_claimClouds_70 : decode cX4_claimClouds 70 = .ok (.ireturn, 1) := by decide +kernel
theorem dX4_payForClouds_0 : decode cX4_payForClouds 0 = .ok (.iconst 0, 1) := by decide +kernel
theorem dX4_payForClouds_1 : decode cX4_payForClouds 1 = .ok (.istore_n 1, 1) := by decide +kernel
theorem dX4_payForClouds_2 : decode cX4_payForClouds 2 = .ok (.iload_n 1, 1) := by decide +kernel
theorem dX4_payForClouds_3 : decode cX4_payForClouds 3 = .ok (.aload_n 0, 1) := by decide +kernel
theorem dX4_payForClouds_4 : decode cX4_payForClouds 4 = .ok (.getfield 17, 3) := by decide +kernel
theorem dX4_payForClouds_7 : decode cX4_payForClouds 7 = .ok (.if_icmp .ge 60, 3) := by decide +kernel
theorem dX4_payForClouds_10 : decode cX4_payForClouds 10 = .ok (.aload_n 0, 1) := by decide +kernel
theorem dX4_payForClouds_11 : decode cX4_payForClouds 11 = .ok (.getfield 11, 3) := by decide +kernel
theorem dX4_payForClouds_14 : decode cX4_payForClouds 14 = .ok (.iload_n 1, 1) := by decide +kernel
theorem dX4_payForClouds_15 : decode cX4_payForClouds 15 = .ok (.aaload, 1) := by decide +kernel
theorem dX4_payForClouds_16 : decode cX4_payForClouds 16 = .ok (.getfield 143, 3) := by decide +kernel
theorem dX4_payForClouds_19 : decode cX4_payForClouds 19 = .ok (.istore_n 2, 1) := by decide +kernel
theorem dX4_payForClouds_20 : decode cX4_payForClouds 20 = .ok (.iload_n 2, 1) := by decide +kernel
theorem dX4_payForClouds_21 : decode cX4_payForClouds 21 = .ok (.invokestatic 130, 3) := by decide +kernel
theorem dX4_payForClouds_24 : decode cX4_payForClouds 24 = .ok (.ifCond .eq 37, 3) := by decide +kernel
theorem dX4_payForClouds_27 : decode cX4_payForClouds 27 = .ok (.iload_n 2, 1) := by decide +kernel
theorem dX4_payForClouds_28 : decode cX4_payForClouds 28 = .ok (.aload_n 0, 1) := by decide +kernel
theorem dX4_payForClouds_29 : decode cX4_payForClouds 29 = .ok (.aload_n 0, 1) := by decide +kernel
theorem dX4_payForClouds_30 : decode cX4_payForClouds 30 = .ok (.getfield 11, 3) := by decide +kernel
theorem dX4_payForClouds_33 : decode cX4_payForClouds 33 = .ok (.iload_n 1, 1) := by decide +kernel
theorem dX4_payForClouds_34 : decode cX4_payForClouds 34 = .ok (.aaload, 1) := by decide +kernel
theorem dX4_payForClouds_35 : decode cX4_payForClouds 35 = .ok (.invokevirtual 208, 3) := by decide +kernel
theorem dX4_payForClouds_38 : decode cX4_payForClouds 38 = .ok (.if_icmp .ne 23, 3) := by decide +kernel
theorem dX4_payForClouds_41 : decode cX4_payForClouds 41 = .ok (.aload_n 0, 1) := by decide +kernel
theorem dX4_payForClouds_42 : decode cX4_payForClouds 42 = .ok (.getfield 25, 3) := by decide +kernel
theorem dX4_payForClouds_45 : decode cX4_payForClouds 45 = .ok (.iload_n 2, 1) := by decide +kernel
theorem dX4_payForClouds_46 : decode cX4_payForClouds 46 = .ok (.dup2, 1) := by decide +kernel
theorem dX4_payForClouds_47 : decode cX4_payForClouds 47 = .ok (.iaload, 1) := by decide +kernel
theorem dX4_payForClouds_48 : decode cX4_payForClouds 48 = .ok (.iconst 1, 1) := by decide +kernel
theorem dX4_payForClouds_49 : decode cX4_payForClouds 49 = .ok (.iadd, 1) := by decide +kernel
theorem dX4_payForClouds_50 : decode cX4_payForClouds 50 = .ok (.iastore, 1) := by decide +kernel
theorem dX4_payForClouds_51 : decode cX4_payForClouds 51 = .ok (.aload_n 0, 1) := by decide +kernel
theorem dX4_payForClouds_52 : decode cX4_payForClouds 52 = .ok (.dup, 1) := by decide +kernel
theorem dX4_payForClouds_53 : decode cX4_payForClouds 53 = .ok (.getfield 53, 3) := by decide +kernel
theorem dX4_payForClouds_56 : decode cX4_payForClouds 56 = .ok (.iconst 1, 1) := by decide +kernel
theorem dX4_payForClouds_57 : decode cX4_payForClouds 57 = .ok (.iadd, 1) := by decide +kernel
theorem dX4_payForClouds_58 : decode cX4_payForClouds 58 = .ok (.putfield 53, 3) := by decide +kernel
theorem dX4_payForClouds_61 : decode cX4_payForClouds 61 = .ok (.iinc 1 1, 3) := by decide +kernel
theorem dX4_payForClouds_64 : decode cX4_payForClouds 64 = .ok (.goto (-62), 3) := by decide +kernel
theorem dX4_payForClouds_67 : decode cX4_payForClouds 67 = .ok (.return_, 1) := by decide +kernel
theorem dX4_pay_0 : decode cX4_pay 0 = .ok (.iload_n 1, 1) := by decide +kernel
theorem dX4_pay_1 : decode cX4_pay 1 = .ok (.invokestatic 130, 3) := by decide +kernel
theorem dX4_pay_4 : decode cX4_pay 4 = .ok (.ifCond .eq 30, 3) := by decide +kernel
theorem dX4_pay_7 : decode cX4_pay 7 = .ok (.iload_n 2, 1) := by decide +kernel
theorem dX4_pay_8 : decode cX4_pay 8 = .ok (.invokestatic 130, 3) := by decide +kernel
theorem dX4_pay_11 : decode cX4_pay 11 = .ok (.ifCond .eq 23, 3) := by decide +kernel
theorem dX4_pay_14 : decode cX4_pay 14 = .ok (.aload_n 0, 1) := by decide +kernel
theorem dX4_pay_15 : decode cX4_pay 15 = .ok (.getfield 25, 3) := by decide +kernel
theorem dX4_pay_18 : decode cX4_pay 18 = .ok (.iload_n 1, 1) := by decide +kernel
theorem dX4_pay_19 : decode cX4_pay 19 = .ok (.dup2, 1) := by decide +kernel
theorem dX4_pay_20 : decode cX4_pay 20 = .ok (.iaload, 1) := by decide +kernel
theorem dX4_pay_21 : decode cX4_pay 21 = .ok (.iload_n 3, 1) := by decide +kernel
theorem dX4_pay_22 : decode cX4_pay 22 = .ok (.isub, 1) := by decide +kernel
theorem dX4_pay_23 : decode cX4_pay 23 = .ok (.iastore, 1) := by decide +kernel
theorem dX4_pay_24 : decode cX4_pay 24 = .ok (.aload_n 0, 1) := by decide +kernel
theorem dX4_pay_25 : decode cX4_pay 25 = .ok (.getfield 25, 3) := by decide +kernel
theorem dX4_pay_28 : decode cX4_pay 28 = .ok (.iload_n 2, 1) := by decide +kernel
theorem dX4_pay_29 : decode cX4_pay 29 = .ok (.dup2, 1) := by decide +kernel
theorem dX4_pay_30 : decode cX4_pay 30 = .ok (.iaload, 1) := by decide +kernel
theorem dX4_pay_31 : decode cX4_pay 31 = .ok (.iload_n 3, 1) := by decide +kernel
theorem dX4_pay_32 : decode cX4_pay 32 = .ok (.iadd, 1) := by decide +kernel
theorem dX4_pay_33 : decode cX4_pay 33 = .ok (.iastore, 1) := by decide +kernel
theorem dX4_pay_34 : decode cX4_pay 34 = .ok (.return_, 1) := by decide +kernel
theorem dX4_hasCloud_0 : decode cX4_hasCloud 0 = .ok (.iload_n 1, 1) := by decide +kernel
theorem dX4_hasCloud_1 : decode cX4_hasCloud 1 = .ok (.aload_n 0, 1) := by decide +kernel
theorem dX4_hasCloud_2 : decode cX4_hasCloud 2 = .ok (.getfield 17, 3) := by decide +kernel
theorem dX4_hasCloud_5 : decode cX4_hasCloud 5 = .ok (.invokestatic 122, 3) := by decide +kernel
theorem dX4_hasCloud_8 : decode cX4_hasCloud 8 = .ok (.ireturn, 1) := by decide +kernel
theorem dX4_purseOf_0 : decode cX4_purseOf 0 = .ok (.iload_n 1, 1) := by decide +kernel
theorem dX4_purseOf_1 : decode cX4_purseOf 1 = .ok (.invokestatic 130, 3) := by decide +kernel
theorem dX4_purseOf_4 : decode cX4_purseOf 4 = .ok (.ifCond .eq 12, 3) := by decide +kernel
theorem dX4_purseOf_7 : decode cX4_purseOf 7 = .ok (.aload_n 0, 1) := by decide +kernel
theorem dX4_purseOf_8 : decode cX4_purseOf 8 = .ok (.getfield 25, 3) := by decide +kernel
theorem dX4_purseOf_11 : decode cX4_purseOf 11 = .ok (.iload_n 1, 1) := by decide +kernel
theorem dX4_purseOf_12 : decode cX4_purseOf 12 = .ok (.iaload, 1) := by decide +kernel
theorem dX4_purseOf_13 : decode cX4_purseOf 13 = .ok (.goto 4, 3) := by decide +kernel
theorem dX4_purseOf_16 : decode cX4_purseOf 16 = .ok (.iconst 0, 1) := by decide +kernel
theorem dX4_purseOf_17 : decode cX4_purseOf 17 = .ok (.ireturn, 1) := by decide +kernel
theorem dX4_ownerBelow_0 : decode cX4_ownerBelow 0 = .ok (.aload_n 1, 1) := by decide +kernel
theorem dX4_ownerBelow_1 : decode cX4_ownerBelow 1 = .ok (.getfield 186, 3) := by decide +kernel
theorem dX4_ownerBelow_4 : decode cX4_ownerBelow 4 = .ok (.invokestatic 115, 3) := by decide +kernel
theorem dX4_ownerBelow_7 : decode cX4_ownerBelow 7 = .ok (.ifCond .eq 15, 3) := by decide +kernel
theorem dX4_ownerBelow_10 : decode cX4_ownerBelow 10 = .ok (.aload_n 0, 1) := by decide +kernel
theorem dX4_ownerBelow_11 : decode cX4_ownerBelow 11 = .ok (.getfield 21, 3) := by decide +kernel
theorem dX4_ownerBelow_14 : decode cX4_ownerBelow 14 = .ok (.aload_n 1, 1) := by decide +kernel
theorem dX4_ownerBelow_15 : decode cX4_ownerBelow 15 = .ok (.getfield 186, 3) := by decide +kernel
theorem dX4_ownerBelow_18 : decode cX4_ownerBelow 18 = .ok (.iaload, 1) := by decide +kernel
theorem dX4_ownerBelow_19 : decode cX4_ownerBelow 19 = .ok (.goto 4, 3) := by decide +kernel
theorem dX4_ownerBelow_22 : decode cX4_ownerBelow 22 = .ok (.iconst (-1), 1) := by decide +kernel
theorem dX4_ownerBelow_23 : decode cX4_ownerBelow 23 = .ok (.ireturn, 1) := by decide +kernel
theorem dX4_cloudsCounted_0 : decode cX4_cloudsCounted 0 = .ok (.iconst 0, 1) := by decide +kernel
theorem dX4_cloudsCounted_1 : decode cX4_cloudsCounted 1 = .ok (.istore_n 2, 1) := by decide +kernel
theorem dX4_cloudsCounted_2 : decode cX4_cloudsCounted 2 = .ok (.iconst 0, 1) := by decide +kernel
theorem dX4_cloudsCounted_3 : decode cX4_cloudsCounted 3 = .ok (.istore_n 3, 1) := by decide +kernel
theorem dX4_cloudsCounted_4 : decode cX4_cloudsCounted 4 = .ok (.iload_n 3, 1) := by decide +kernel
theorem dX4_cloudsCounted_5 : decode cX4_cloudsCounted 5 = .ok (.aload_n 0, 1) := by decide +kernel
theorem dX4_cloudsCounted_6 : decode cX4_cloudsCounted 6 = .ok (.getfield 17, 3) := by decide +kernel
theorem dX4_cloudsCounted_9 : decode cX4_cloudsCounted 9 = .ok (.if_icmp .ge 25, 3) := by decide +kernel
theorem dX4_cloudsCounted_12 : decode cX4_cloudsCounted 12 = .ok (.aload_n 0, 1) := by decide +kernel
theorem dX4_cloudsCounted_13 : decode cX4_cloudsCounted 13 = .ok (.getfield 11, 3) := by decide +kernel
theorem dX4_cloudsCounted_16 : decode cX4_cloudsCounted 16 = .ok (.iload_n 3, 1) := by decide +kernel
theorem dX4_cloudsCounted_17 : decode cX4_cloudsCounted 17 = .ok (.aaload, 1) := by decide +kernel
theorem dX4_cloudsCounted_18 : decode cX4_cloudsCounted 18 = .ok (.getfield 143, 3) := by decide +kernel
theorem dX4_cloudsCounted_21 : decode cX4_cloudsCounted 21 = .ok (.iload_n 1, 1) := by decide +kernel
theorem dX4_cloudsCounted_22 : decode cX4_cloudsCounted 22 = .ok (.if_icmp .ne 6, 3) := by decide +kernel
theorem dX4_cloudsCounted_25 : decode cX4_cloudsCounted 25 = .ok (.iinc 2 1, 3) := by decide +kernel
theorem dX4_cloudsCounted_28 : decode cX4_cloudsCounted 28 = .ok (.iinc 3 1, 3) := by decide +kernel
theorem dX4_cloudsCounted_31 : decode cX4_cloudsCounted 31 = .ok (.goto (-27), 3) := by decide +kernel
theorem dX4_cloudsCounted_34 : decode cX4_cloudsCounted 34 = .ok (.iload_n 2, 1) := by decide +kernel
theorem dX4_cloudsCounted_35 : decode cX4_cloudsCounted 35 = .ok (.ireturn, 1) := by decide +kernel
theorem dX4_cloudsLeftOver_0 : decode cX4_cloudsLeftOver 0 = .ok (.aload_n 0, 1) := by decide +kernel
theorem dX4_cloudsLeftOver_1 : decode cX4_cloudsLeftOver 1 = .ok (.getfield 17, 3) := by decide +kernel
theorem dX4_cloudsLeftOver_4 : decode cX4_cloudsLeftOver 4 = .ok (.aload_n 0, 1) := by decide +kernel
theorem dX4_cloudsLeftOver_5 : decode cX4_cloudsLeftOver 5 = .ok (.iconst (-1), 1) := by decide +kernel
theorem dX4_cloudsLeftOver_6 : decode cX4_cloudsLeftOver 6 = .ok (.invokevirtual 212, 3) := by decide +kernel
theorem dX4_cloudsLeftOver_9 : decode cX4_cloudsLeftOver 9 = .ok (.isub, 1) := by decide +kernel
theorem dX4_cloudsLeftOver_10 : decode cX4_cloudsLeftOver 10 = .ok (.istore_n 2, 1) := by decide +kernel
theorem dX4_cloudsLeftOver_11 : decode cX4_cloudsLeftOver 11 = .ok (.iconst 0, 1) := by decide +kernel
theorem dX4_cloudsLeftOver_12 : decode cX4_cloudsLeftOver 12 = .ok (.istore_n 3, 1) := by decide +kernel
theorem dX4_cloudsLeftOver_13 : decode cX4_cloudsLeftOver 13 = .ok (.iload_n 3, 1) := by decide +kernel
theorem dX4_cloudsLeftOver_14 : decode cX4_cloudsLeftOver 14 = .ok (.iconst 4, 1) := by decide +kernel
theorem dX4_cloudsLeftOver_15 : decode cX4_cloudsLeftOver 15 = .ok (.if_icmp .ge 22, 3) := by decide +kernel
theorem dX4_cloudsLeftOver_18 : decode cX4_cloudsLeftOver 18 = .ok (.iload_n 3, 1) := by decide +kernel
theorem dX4_cloudsLeftOver_19 : decode cX4_cloudsLeftOver 19 = .ok (.iload_n 1, 1) := by decide +kernel
theorem dX4_cloudsLeftOver_20 : decode cX4_cloudsLeftOver 20 = .ok (.if_icmp .eq 11, 3) := by decide +kernel
theorem dX4_cloudsLeftOver_23 : decode cX4_cloudsLeftOver 23 = .ok (.iload_n 2, 1) := by decide +kernel
theorem dX4_cloudsLeftOver_24 : decode cX4_cloudsLeftOver 24 = .ok (.aload_n 0, 1) := by decide +kernel
theorem dX4_cloudsLeftOver_25 : decode cX4_cloudsLeftOver 25 = .ok (.iload_n 3, 1) := by decide +kernel
theorem dX4_cloudsLeftOver_26 : decode cX4_cloudsLeftOver 26 = .ok (.invokevirtual 212, 3) := by decide +kernel
theorem dX4_cloudsLeftOver_29 : decode cX4_cloudsLeftOver 29 = .ok (.isub, 1) := by decide +kernel
theorem dX4_cloudsLeftOver_30 : decode cX4_cloudsLeftOver 30 = .ok (.istore_n 2, 1) := by decide +kernel
theorem dX4_cloudsLeftOver_31 : decode cX4_cloudsLeftOver 31 = .ok (.iinc 3 1, 3) := by decide +kernel
theorem dX4_cloudsLeftOver_34 : decode cX4_cloudsLeftOver 34 = .ok (.goto (-21), 3) := by decide +kernel
theorem dX4_cloudsLeftOver_37 : decode cX4_cloudsLeftOver 37 = .ok (.iload_n 2, 1) := by decide +kernel
theorem dX4_cloudsLeftOver_38 : decode cX4_cloudsLeftOver 38 = .ok (.ireturn, 1) := by decide +kernel
theorem dX4_areCloudsAlike_0 : decode cX4_areCloudsAlike 0 = .ok (.iconst 0, 1) := by decide +kernel
theorem dX4_areCloudsAlike_1 : decode cX4_areCloudsAlike 1 = .ok (.istore_n 1, 1) := by decide +kernel
theorem dX4_areCloudsAlike_2 : decode cX4_areCloudsAlike 2 = .ok (.iload_n 1, 1) := by decide +kernel
theorem dX4_areCloudsAlike_3 : decode cX4_areCloudsAlike 3 = .ok (.iconst 4, 1) := by decide +kernel
theorem dX4_areCloudsAlike_4 : decode cX4_areCloudsAlike 4 = .ok (.if_icmp .ge 24, 3) := by decide +kernel
theorem dX4_areCloudsAlike_7 : decode cX4_areCloudsAlike 7 = .ok (.aload_n 0, 1) := by decide +kernel
theorem dX4_areCloudsAlike_8 : decode cX4_areCloudsAlike 8 = .ok (.iload_n 1, 1) := by decide +kernel
theorem dX4_areCloudsAlike_9 : decode cX4_areCloudsAlike 9 = .ok (.invokevirtual 212, 3) := by decide +kernel
theorem dX4_areCloudsAlike_12 : decode cX4_areCloudsAlike 12 = .ok (.aload_n 0, 1) := by decide +kernel
theorem dX4_areCloudsAlike_13 : decode cX4_areCloudsAlike 13 = .ok (.iload_n 1, 1) := by decide +kernel
theorem dX4_areCloudsAlike_14 : decode cX4_areCloudsAlike 14 = .ok (.invokevirtual 215, 3) := by decide +kernel
theorem dX4_areCloudsAlike_17 : decode cX4_areCloudsAlike 17 = .ok (.if_icmp .eq 5, 3) := by decide +kernel
theorem dX4_areCloudsAlike_20 : decode cX4_areCloudsAlike 20 = .ok (.iconst 0, 1) := by decide +kernel
theorem dX4_areCloudsAlike_21 : decode cX4_areCloudsAlike 21 = .ok (.ireturn, 1) := by decide +kernel
theorem dX4_areCloudsAlike_22 : decode cX4_areCloudsAlike 22 = .ok (.iinc 1 1, 3) := by decide +kernel
theorem dX4_areCloudsAlike_25 : decode cX4_areCloudsAlike 25 = .ok (.goto (-23), 3) := by decide +kernel
theorem dX4_areCloudsAlike_28 : decode cX4_areCloudsAlike 28 = .ok (.iconst 1, 1) := by decide +kernel
theorem dX4_areCloudsAlike_29 : decode cX4_areCloudsAlike 29 = .ok (.ireturn, 1) := by decide +kernel
theorem dX4_areWindsAlike_0 : decode cX4_areWindsAlike 0 = .ok (.iconst 0, 1) := by decide +kernel
theorem dX4_areWindsAlike_1 : decode cX4_areWindsAlike 1 = .ok (.istore_n 1, 1) := by decide +kernel
theorem dX4_areWindsAlike_2 : decode cX4_areWindsAlike 2 = .ok (.iload_n 1, 1) := by decide +kernel
theorem dX4_areWindsAlike_3 : decode cX4_areWindsAlike 3 = .ok (.aload_n 0, 1) := by decide +kernel
theorem dX4_areWindsAlike_4 : decode cX4_areWindsAlike 4 = .ok (.getfield 17, 3) := by decide +kernel
theorem dX4_areWindsAlike_7 : decode cX4_areWindsAlike 7 = .ok (.if_icmp .ge 48, 3) := by decide +kernel
theorem dX4_areWindsAlike_10 : decode cX4_areWindsAlike 10 = .ok (.iconst 0, 1) := by decide +kernel
theorem dX4_areWindsAlike_11 : decode cX4_areWindsAlike 11 = .ok (.istore_n 2, 1) := by decide +kernel
theorem dX4_areWindsAlike_12 : decode cX4_areWindsAlike 12 = .ok (.iload_n 2, 1) := by decide +kernel
theorem dX4_areWindsAlike_13 : decode cX4_areWindsAlike 13 = .ok (.bipush 6, 2) := by decide +kernel
theorem dX4_areWindsAlike_15 : decode cX4_areWindsAlike 15 = .ok (.if_icmp .ge 34, 3) := by decide +kernel
theorem dX4_areWindsAlike_18 : decode cX4_areWindsAlike 18 = .ok (.aload_n 0, 1) := by decide +kernel
theorem dX4_areWindsAlike_19 : decode cX4_areWindsAlike 19 = .ok (.getfield 11, 3) := by decide +kernel
theorem dX4_areWindsAlike_22 : decode cX4_areWindsAlike 22 = .ok (.iload_n 1, 1) := by decide +kernel
theorem dX4_areWindsAlike_23 : decode cX4_areWindsAlike 23 = .ok (.aaload, 1) := by decide +kernel
theorem dX4_areWindsAlike_24 : decode cX4_areWindsAlike 24 = .ok (.iload_n 2, 1) := by decide +kernel
theorem dX4_areWindsAlike_25 : decode cX4_areWindsAlike 25 = .ok (.invokevirtual 218, 3) := by decide +kernel
theorem dX4_areWindsAlike_28 : decode cX4_areWindsAlike 28 = .ok (.aload_n 0, 1) := by decide +kernel
theorem dX4_areWindsAlike_29 : decode cX4_areWindsAlike 29 = .ok (.getfield 11, 3) := by decide +kernel
theorem dX4_areWindsAlike_32 : decode cX4_areWindsAlike 32 = .ok (.iload_n 1, 1) := by decide +kernel
theorem dX4_areWindsAlike_33 : decode cX4_areWindsAlike 33 = .ok (.aaload, 1) := by decide +kernel
theorem dX4_areWindsAlike_34 : decode cX4_areWindsAlike 34 = .ok (.iload_n 2, 1) := by decide +kernel
theorem dX4_areWindsAlike_35 : decode cX4_areWindsAlike 35 = .ok (.invokevirtual 221, 3) := by decide +kernel
theorem dX4_areWindsAlike_38 : decode cX4_areWindsAlike 38 = .ok (.if_icmp .eq 5, 3) := by decide +kernel
theorem dX4_areWindsAlike_41 : decode cX4_areWindsAlike 41 = .ok (.iconst 0, 1) := by decide +kernel
theorem dX4_areWindsAlike_42 : decode cX4_areWindsAlike 42 = .ok (.ireturn, 1) := by decide +kernel
theorem dX4_areWindsAlike_43 : decode cX4_areWindsAlike 43 = .ok (.iinc 2 1, 3) := by decide +kernel
theorem dX4_areWindsAlike_46 : decode cX4_areWindsAlike 46 = .ok (.goto (-34), 3) := by decide +kernel
theorem dX4_areWindsAlike_49 : decode cX4_areWindsAlike 49 = .ok (.iinc 1 1, 3) := by decide +kernel
theorem dX4_areWindsAlike_52 : decode cX4_areWindsAlike 52 = .ok (.goto (-50), 3) := by decide +kernel
theorem dX4_areWindsAlike_55 : decode cX4_areWindsAlike 55 = .ok (.iconst 1, 1) := by decide +kernel
theorem dX4_areWindsAlike_56 : decode cX4_areWindsAlike 56 = .ok (.ireturn, 1) := by decide +kernel
theorem dX4_coinsCounted_0 : decode cX4_coinsCounted 0 = .ok (.iconst 0, 1) := by decide +kernel
theorem dX4_coinsCounted_1 : decode cX4_coinsCounted 1 = .ok (.istore_n 1, 1) := by decide +kernel
theorem dX4_coinsCounted_2 : decode cX4_coinsCounted 2 = .ok (.iconst 0, 1) := by decide +kernel
theorem dX4_coinsCounted_3 : decode cX4_coinsCounted 3 = .ok (.istore_n 2, 1) := by decide +kernel
theorem dX4_coinsCounted_4 : decode cX4_coinsCounted 4 = .ok (.iload_n 2, 1) := by decide +kernel
theorem dX4_coinsCounted_5 : decode cX4_coinsCounted 5 = .ok (.iconst 4, 1) := by decide +kernel
theorem dX4_coinsCounted_6 : decode cX4_coinsCounted 6 = .ok (.if_icmp .ge 18, 3) := by decide +kernel
theorem dX4_coinsCounted_9 : decode cX4_coinsCounted 9 = .ok (.iload_n 1, 1) := by decide +kernel
theorem dX4_coinsCounted_10 : decode cX4_coinsCounted 10 = .ok (.aload_n 0, 1) := by decide +kernel
theorem dX4_coinsCounted_11 : decode cX4_coinsCounted 11 = .ok (.getfield 25, 3) := by decide +kernel
theorem dX4_coinsCounted_14 : decode cX4_coinsCounted 14 = .ok (.iload_n 2, 1) := by decide +kernel
theorem dX4_coinsCounted_15 : decode cX4_coinsCounted 15 = .ok (.iaload, 1) := by decide +kernel
theorem dX4_coinsCounted_16 : decode cX4_coinsCounted 16 = .ok (.iadd, 1) := by decide +kernel
theorem dX4_coinsCounted_17 : decode cX4_coinsCounted 17 = .ok (.istore_n 1, 1) := by decide +kernel
theorem dX4_coinsCounted_18 : decode cX4_coinsCounted 18 = .ok (.iinc 2 1, 3) := by decide +kernel
theorem dX4_coinsCounted_21 : decode cX4_coinsCounted 21 = .ok (.goto (-17), 3) := by decide +kernel
theorem dX4_coinsCounted_24 : decode cX4_coinsCounted 24 = .ok (.iload_n 1, 1) := by decide +kernel
theorem dX4_coinsCounted_25 : decode cX4_coinsCounted 25 = .ok (.ireturn, 1) := by decide +kernel
theorem dX4_coinsByPayments_0 : decode cX4_coinsByPayments 0 = .ok (.bipush 80, 2) := by decide +kernel
theorem dX4_coinsByPayments_2 : decode cX4_coinsByPayments 2 = .ok (.aload_n 0, 1) := by decide +kernel
theorem dX4_coinsByPayments_3 : decode cX4_coinsByPayments 3 = .ok (.getfield 53, 3) := by decide +kernel
theorem dX4_coinsByPayments_6 : decode cX4_coinsByPayments 6 = .ok (.iadd, 1) := by decide +kernel
theorem dX4_coinsByPayments_7 : decode cX4_coinsByPayments 7 = .ok (.aload_n 0, 1) := by decide +kernel
theorem dX4_coinsByPayments_8 : decode cX4_coinsByPayments 8 = .ok (.getfield 50, 3) := by decide +kernel
theorem dX4_coinsByPayments_11 : decode cX4_coinsByPayments 11 = .ok (.isub, 1) := by decide +kernel
theorem dX4_coinsByPayments_12 : decode cX4_coinsByPayments 12 = .ok (.ireturn, 1) := by decide +kernel
theorem dX4_sizes_0 : decode cX4_sizes 0 = .ok (.iconst 0, 1) := by decide +kernel
theorem dX4_sizes_1 : decode cX4_sizes 1 = .ok (.istore_n 1, 1) := by decide +kernel
theorem dX4_sizes_2 : decode cX4_sizes 2 = .ok (.iconst 0, 1) := by decide +kernel
theorem dX4_sizes_3 : decode cX4_sizes 3 = .ok (.istore_n 2, 1) := by decide +kernel
theorem dX4_sizes_4 : decode cX4_sizes 4 = .ok (.iload_n 2, 1) := by decide +kernel
theorem dX4_sizes_5 : decode cX4_sizes 5 = .ok (.aload_n 0, 1) := by decide +kernel
theorem dX4_sizes_6 : decode cX4_sizes 6 = .ok (.getfield 17, 3) := by decide +kernel
theorem dX4_sizes_9 : decode cX4_sizes 9 = .ok (.if_icmp .ge 21, 3) := by decide +kernel
theorem dX4_sizes_12 : decode cX4_sizes 12 = .ok (.iload_n 1, 1) := by decide +kernel
theorem dX4_sizes_13 : decode cX4_sizes 13 = .ok (.aload_n 0, 1) := by decide +kernel
theorem dX4_sizes_14 : decode cX4_sizes 14 = .ok (.getfield 11, 3) := by decide +kernel
theorem dX4_sizes_17 : decode cX4_sizes 17 = .ok (.iload_n 2, 1) := by decide +kernel
theorem dX4_sizes_18 : decode cX4_sizes 18 = .ok (.aaload, 1) := by decide +kernel
theorem dX4_sizes_19 : decode cX4_sizes 19 = .ok (.getfield 146, 3) := by decide +kernel
theorem dX4_sizes_22 : decode cX4_sizes 22 = .ok (.iadd, 1) := by decide +kernel
theorem dX4_sizes_23 : decode cX4_sizes 23 = .ok (.istore_n 1, 1) := by decide +kernel
theorem dX4_sizes_24 : decode cX4_sizes 24 = .ok (.iinc 2 1, 3) := by decide +kernel
theorem dX4_sizes_27 : decode cX4_sizes 27 = .ok (.goto (-23), 3) := by decide +kernel
theorem dX4_sizes_30 : decode cX4_sizes 30 = .ok (.iload_n 1, 1) := by decide +kernel
theorem dX4_sizes_31 : decode cX4_sizes 31 = .ok (.ireturn, 1) := by decide +kernel
theorem dX4_titledClouds_0 : decode cX4_titledClouds 0 = .ok (.aload_n 0, 1) := by decide +kernel
theorem dX4_titledClouds_1 : decode cX4_titledClouds 1 = .ok (.getfield 17, 3) := by decide +kernel
theorem dX4_titledClouds_4 : decode cX4_titledClouds 4 = .ok (.aload_n 0, 1) := by decide +kernel
theorem dX4_titledClouds_5 : decode cX4_titledClouds 5 = .ok (.iconst (-1), 1) := by decide +kernel
theorem dX4_titledClouds_6 : decode cX4_titledClouds 6 = .ok (.invokevirtual 212, 3) := by decide +kernel
theorem dX4_titledClouds_9 : decode cX4_titledClouds 9 = .ok (.isub, 1) := by decide +kernel
theorem dX4_titledClouds_10 : decode cX4_titledClouds 10 = .ok (.ireturn, 1) := by decide +kernel
theorem dX4_pledgedClouds_0 : decode cX4_pledgedClouds 0 = .ok (.iconst 0, 1) := by decide +kernel
theorem dX4_pledgedClouds_1 : decode cX4_pledgedClouds 1 = .ok (.istore_n 1, 1) := by decide +kernel
theorem dX4_pledgedClouds_2 : decode cX4_pledgedClouds 2 = .ok (.iconst 0, 1) := by decide +kernel
theorem dX4_pledgedClouds_3 : decode cX4_pledgedClouds 3 = .ok (.istore_n 2, 1) := by decide +kernel
theorem dX4_pledgedClouds_4 : decode cX4_pledgedClouds 4 = .ok (.iload_n 2, 1) := by decide +kernel
theorem dX4_pledgedClouds_5 : decode cX4_pledgedClouds 5 = .ok (.aload_n 0, 1) := by decide +kernel
theorem dX4_pledgedClouds_6 : decode cX4_pledgedClouds 6 = .ok (.getfield 17, 3) := by decide +kernel
theorem dX4_pledgedClouds_9 : decode cX4_pledgedClouds 9 = .ok (.if_icmp .ge 24, 3) := by decide +kernel
theorem dX4_pledgedClouds_12 : decode cX4_pledgedClouds 12 = .ok (.aload_n 0, 1) := by decide +kernel
theorem dX4_pledgedClouds_13 : decode cX4_pledgedClouds 13 = .ok (.getfield 11, 3) := by decide +kernel
theorem dX4_pledgedClouds_16 : decode cX4_pledgedClouds 16 = .ok (.iload_n 2, 1) := by decide +kernel
theorem dX4_pledgedClouds_17 : decode cX4_pledgedClouds 17 = .ok (.aaload, 1) := by decide +kernel
theorem dX4_pledgedClouds_18 : decode cX4_pledgedClouds 18 = .ok (.invokevirtual 168, 3) := by decide +kernel
theorem dX4_pledgedClouds_21 : decode cX4_pledgedClouds 21 = .ok (.ifCond .eq 6, 3) := by decide +kernel
theorem dX4_pledgedClouds_24 : decode cX4_pledgedClouds 24 = .ok (.iinc 1 1, 3) := by decide +kernel
theorem dX4_pledgedClouds_27 : decode cX4_pledgedClouds 27 = .ok (.iinc 2 1, 3) := by decide +kernel
theorem dX4_pledgedClouds_30 : decode cX4_pledgedClouds 30 = .ok (.goto (-26), 3) := by decide +kernel
theorem dX4_pledgedClouds_33 : decode cX4_pledgedClouds 33 = .ok (.iload_n 1, 1) := by decide +kernel
theorem dX4_pledgedClouds_34 : decode cX4_pledgedClouds 34 = .ok (.ireturn, 1) := by decide +kernel
theorem dX4_ownedVineyards_0 : decode cX4_ownedVineyards 0 = .ok (.bipush 6, 2) := by decide +kernel
theorem dX4_ownedVineyards_2 : decode cX4_ownedVineyards 2 = .ok (.aload_n 0, 1) := by decide +kernel
theorem dX4_ownedVineyards_3 : decode cX4_ownedVineyards 3 = .ok (.iconst (-1), 1) := by decide +kernel
theorem dX4_ownedVineyards_4 : decode cX4_ownedVineyards 4 = .ok (.invokevirtual 224, 3) := by decide +kernel
theorem dX4_ownedVineyards_7 : decode cX4_ownedVineyards 7 = .ok (.isub, 1) := by decide +kernel
theorem dX4_ownedVineyards_8 : decode cX4_ownedVineyards 8 = .ok (.ireturn, 1) := by decide +kernel
theorem dX4_vineyardsBelongingTo_0 : decode cX4_vineyardsBelongingTo 0 = .ok (.iconst 0, 1) := by decide +kernel
theorem dX4_vineyardsBelongingTo_1 : decode cX4_vineyardsBelongingTo 1 = .ok (.istore_n 2, 1) := by decide +kernel
theorem dX4_vineyardsBelongingTo_2 : decode cX4_vineyardsBelongingTo 2 = .ok (.iconst 0, 1) := by decide +kernel
theorem dX4_vineyardsBelongingTo_3 : decode cX4_vineyardsBelongingTo 3 = .ok (.istore_n 3, 1) := by decide +kernel
theorem dX4_vineyardsBelongingTo_4 : decode cX4_vineyardsBelongingTo 4 = .ok (.iload_n 3, 1) := by decide +kernel
theorem dX4_vineyardsBelongingTo_5 : decode cX4_vineyardsBelongingTo 5 = .ok (.aload_n 0, 1) := by decide +kernel
theorem dX4_vineyardsBelongingTo_6 : decode cX4_vineyardsBelongingTo 6 = .ok (.getfield 21, 3) := by decide +kernel
theorem dX4_vineyardsBelongingTo_9 : decode cX4_vineyardsBelongingTo 9 = .ok (.arraylength, 1) := by decide +kernel
theorem dX4_vineyardsBelongingTo_10 : decode cX4_vineyardsBelongingTo 10 = .ok (.if_icmp .ge 22, 3) := by decide +kernel
theorem dX4_vineyardsBelongingTo_13 : decode cX4_vineyardsBelongingTo 13 = .ok (.aload_n 0, 1) := by decide +kernel
theorem dX4_vineyardsBelongingTo_14 : decode cX4_vineyardsBelongingTo 14 = .ok (.getfield 21, 3) := by decide +kernel
theorem dX4_vineyardsBelongingTo_17 : decode cX4_vineyardsBelongingTo 17 = .ok (.iload_n 3, 1) := by decide +kernel
theorem dX4_vineyardsBelongingTo_18 : decode cX4_vineyardsBelongingTo 18 = .ok (.iaload, 1) := by decide +kernel
theorem dX4_vineyardsBelongingTo_19 : decode cX4_vineyardsBelongingTo 19 = .ok (.iload_n 1, 1) := by decide +kernel
theorem dX4_vineyardsBelongingTo_20 : decode cX4_vineyardsBelongingTo 20 = .ok (.if_icmp .ne 6, 3) := by decide +kernel
theorem dX4_vineyardsBelongingTo_23 : decode cX4_vineyardsBelongingTo 23 = .ok (.iinc 2 1, 3) := by decide +kernel
theorem dX4_vineyardsBelongingTo_26 : decode cX4_vineyardsBelongingTo 26 = .ok (.iinc 3 1, 3) := by decide +kernel
theorem dX4_vineyardsBelongingTo_29 : decode cX4_vineyardsBelongingTo 29 = .ok (.goto (-25), 3) := by decide +kernel
theorem dX4_vineyardsBelongingTo_32 : decode cX4_vineyardsBelongingTo 32 = .ok (.iload_n 2, 1) := by decide +kernel
theorem dX4_vineyardsBelongingTo_33 : decode cX4_vineyardsBelongingTo 33 = .ok (.ireturn, 1) := by decide +kernel
theorem dX4_tellOfOwner_0 : decode cX4_tellOfOwner 0 = .ok (.iload_n 2, 1) := by decide +kernel
theorem dX4_tellOfOwner_1 : decode cX4_tellOfOwner 1 = .ok (.ifCond .ne 9, 3) := by decide +kernel
theorem dX4_tellOfOwner_4 : decode cX4_tellOfOwner 4 = .ok (.aload_n 0, 1) := by decide +kernel
theorem dX4_tellOfOwner_5 : decode cX4_tellOfOwner 5 = .ok (.iload_n 1, 1) := by decide +kernel
theorem dX4_tellOfOwner_6 : decode cX4_tellOfOwner 6 = .ok (.invokevirtual 160, 3) := by decide +kernel
theorem dX4_tellOfOwner_9 : decode cX4_tellOfOwner 9 = .ok (.ireturn, 1) := by decide +kernel
theorem dX4_tellOfOwner_10 : decode cX4_tellOfOwner 10 = .ok (.iload_n 2, 1) := by decide +kernel
theorem dX4_tellOfOwner_11 : decode cX4_tellOfOwner 11 = .ok (.iconst 1, 1) := by decide +kernel
theorem dX4_tellOfOwner_12 : decode cX4_tellOfOwner 12 = .ok (.if_icmp .ne 9, 3) := by decide +kernel
theorem dX4_tellOfOwner_15 : decode cX4_tellOfOwner 15 = .ok (.aload_n 0, 1) := by decide +kernel
theorem dX4_tellOfOwner_16 : decode cX4_tellOfOwner 16 = .ok (.iload_n 1, 1) := by decide +kernel
theorem dX4_tellOfOwner_17 : decode cX4_tellOfOwner 17 = .ok (.invokevirtual 224, 3) := by decide +kernel
theorem dX4_tellOfOwner_20 : decode cX4_tellOfOwner 20 = .ok (.ireturn, 1) := by decide +kernel
theorem dX4_tellOfOwner_21 : decode cX4_tellOfOwner 21 = .ok (.iconst 0, 1) := by decide +kernel
theorem dX4_tellOfOwner_22 : decode cX4_tellOfOwner 22 = .ok (.istore_n 3, 1) := by decide +kernel
theorem dX4_tellOfOwner_23 : decode cX4_tellOfOwner 23 = .ok (.iconst 0, 1) := by decide +kernel
theorem dX4_tellOfOwner_24 : decode cX4_tellOfOwner 24 = .ok (.istore 4, 2) := by decide +kernel
theorem dX4_tellOfOwner_26 : decode cX4_tellOfOwner 26 = .ok (.iload 4, 2) := by decide +kernel
theorem dX4_tellOfOwner_28 : decode cX4_tellOfOwner 28 = .ok (.aload_n 0, 1) := by decide +kernel
theorem dX4_tellOfOwner_29 : decode cX4_tellOfOwner 29 = .ok (.getfield 17, 3) := by decide +kernel
theorem dX4_tellOfOwner_32 : decode cX4_tellOfOwner 32 = .ok (.if_icmp .ge 88, 3) := by decide +kernel
theorem dX4_tellOfOwner_35 : decode cX4_tellOfOwner 35 = .ok (.aload_n 0, 1) := by decide +kernel
theorem dX4_tellOfOwner_36 : decode cX4_tellOfOwner 36 = .ok (.getfield 11, 3) := by decide +kernel
theorem dX4_tellOfOwner_39 : decode cX4_tellOfOwner 39 = .ok (.iload 4, 2) := by decide +kernel
theorem dX4_tellOfOwner_41 : decode cX4_tellOfOwner 41 = .ok (.aaload, 1) := by decide +kernel
theorem dX4_tellOfOwner_42 : decode cX4_tellOfOwner 42 = .ok (.astore 5, 2) := by decide +kernel
theorem dX4_tellOfOwner_44 : decode cX4_tellOfOwner 44 = .ok (.iload_n 2, 1) := by decide +kernel
theorem dX4_tellOfOwner_45 : decode cX4_tellOfOwner 45 = .ok (.iconst 2, 1) := by decide +kernel
theorem dX4_tellOfOwner_46 : decode cX4_tellOfOwner 46 = .ok (.if_icmp .ne 18, 3) := by decide +kernel
theorem dX4_tellOfOwner_49 : decode cX4_tellOfOwner 49 = .ok (.aload 5, 2) := by decide +kernel
theorem dX4_tellOfOwner_51 : decode cX4_tellOfOwner 51 = .ok (.getfield 171, 3) := by decide +kernel
theorem dX4_tellOfOwner_54 : decode cX4_tellOfOwner 54 = .ok (.iload_n 1, 1) := by decide +kernel
theorem dX4_tellOfOwner_55 : decode cX4_tellOfOwner 55 = .ok (.if_icmp .ne 9, 3) := by decide +kernel
theorem dX4_tellOfOwner_58 : decode cX4_tellOfOwner 58 = .ok (.iinc 3 1, 3) := by decide +kernel
theorem dX4_tellOfOwner_61 : decode cX4_tellOfOwner 61 = .ok (.goto 53, 3) := by decide +kernel
theorem dX4_tellOfOwner_64 : decode cX4_tellOfOwner 64 = .ok (.iload_n 2, 1) := by decide +kernel
theorem dX4_tellOfOwner_65 : decode cX4_tellOfOwner 65 = .ok (.iconst 3, 1) := by decide +kernel
theorem dX4_tellOfOwner_66 : decode cX4_tellOfOwner 66 = .ok (.if_icmp .ne 26, 3) := by decide +kernel
theorem dX4_tellOfOwner_69 : decode cX4_tellOfOwner 69 = .ok (.aload 5, 2) := by decide +kernel
theorem dX4_tellOfOwner_71 : decode cX4_tellOfOwner 71 = .ok (.getfield 143, 3) := by decide +kernel
theorem dX4_tellOfOwner_74 : decode cX4_tellOfOwner 74 = .ok (.iload_n 1, 1) := by decide +kernel
theorem dX4_tellOfOwner_75 : decode cX4_tellOfOwner 75 = .ok (.if_icmp .ne 17, 3) := by decide +kernel
theorem dX4_tellOfOwner_78 : decode cX4_tellOfOwner 78 = .ok (.aload 5, 2) := by decide +kernel
theorem dX4_tellOfOwner_80 : decode cX4_tellOfOwner 80 = .ok (.invokevirtual 168, 3) := by decide +kernel
theorem dX4_tellOfOwner_83 : decode cX4_tellOfOwner 83 = .ok (.ifCond .eq 9, 3) := by decide +kernel
theorem dX4_tellOfOwner_86 : decode cX4_tellOfOwner 86 = .ok (.iinc 3 1, 3) := by decide +kernel
theorem dX4_tellOfOwner_89 : decode cX4_tellOfOwner 89 = .ok (.goto 25, 3) := by decide +kernel
theorem dX4_tellOfOwner_92 : decode cX4_tellOfOwner 92 = .ok (.iload_n 2, 1) := by decide +kernel
theorem dX4_tellOfOwner_93 : decode cX4_tellOfOwner 93 = .ok (.iconst 4, 1) := by decide +kernel
theorem dX4_tellOfOwner_94 : decode cX4_tellOfOwner 94 = .ok (.if_icmp .ne 20, 3) := by decide +kernel
theorem dX4_tellOfOwner_97 : decode cX4_tellOfOwner 97 = .ok (.aload 5, 2) := by decide +kernel
theorem dX4_tellOfOwner_99 : decode cX4_tellOfOwner 99 = .ok (.getfield 143, 3) := by decide +kernel
theorem dX4_tellOfOwner_102 : decode cX4_tellOfOwner 102 = .ok (.iload_n 1, 1) := by decide +kernel
theorem dX4_tellOfOwner_103 : decode cX4_tellOfOwner 103 = .ok (.if_icmp .ne 11, 3) := by decide +kernel
theorem dX4_tellOfOwner_106 : decode cX4_tellOfOwner 106 = .ok (.iload_n 3, 1) := by decide +kernel
theorem dX4_tellOfOwner_107 : decode cX4_tellOfOwner 107 = .ok (.aload 5, 2) := by decide +kernel
theorem dX4_tellOfOwner_109 : decode cX4_tellOfOwner 109 = .ok (.getfield 146, 3) := by decide +kernel
theorem dX4_tellOfOwner_112 : decode cX4_tellOfOwner 112 = .ok (.iadd, 1) := by decide +kernel
theorem dX4_tellOfOwner_113 : decode cX4_tellOfOwner 113 = .ok (.istore_n 3, 1) := by decide +kernel
theorem dX4_tellOfOwner_114 : decode cX4_tellOfOwner 114 = .ok (.iinc 4 1, 3) := by decide +kernel
theorem dX4_tellOfOwner_117 : decode cX4_tellOfOwner 117 = .ok (.goto (-91), 3) := by decide +kernel
theorem dX4_tellOfOwner_120 : decode cX4_tellOfOwner 120 = .ok (.iload_n 3, 1) := by decide +kernel
theorem dX4_tellOfOwner_121 : decode cX4_tellOfOwner 121 = .ok (.ireturn, 1) := by decide +kernel
theorem dX4_tellOfVineyard_0 : decode cX4_tellOfVineyard 0 = .ok (.iload_n 2, 1) := by decide +kernel
theorem dX4_tellOfVineyard_1 : decode cX4_tellOfVineyard 1 = .ok (.ifCond .ne 21, 3) := by decide +kernel
theorem dX4_tellOfVineyard_4 : decode cX4_tellOfVineyard 4 = .ok (.iload_n 1, 1) := by decide +kernel
theorem dX4_tellOfVineyard_5 : decode cX4_tellOfVineyard 5 = .ok (.invokestatic 115, 3) := by decide +kernel
theorem dX4_tellOfVineyard_8 : decode cX4_tellOfVineyard 8 = .ok (.ifCond .eq 12, 3) := by decide +kernel
theorem dX4_tellOfVineyard_11 : decode cX4_tellOfVineyard 11 = .ok (.aload_n 0, 1) := by decide +kernel
theorem dX4_tellOfVineyard_12 : decode cX4_tellOfVineyard 12 = .ok (.getfield 21, 3) := by decide +kernel
theorem dX4_tellOfVineyard_15 : decode cX4_tellOfVineyard 15 = .ok (.iload_n 1, 1) := by decide +kernel
theorem dX4_tellOfVineyard_16 : decode cX4_tellOfVineyard 16 = .ok (.iaload, 1) := by decide +kernel
theorem dX4_tellOfVineyard_17 : decode cX4_tellOfVineyard 17 = .ok (.goto 4, 3) := by decide +kernel
theorem dX4_tellOfVineyard_20 : decode cX4_tellOfVineyard 20 = .ok (.iconst (-1), 1) := by decide +kernel
theorem dX4_tellOfVineyard_21 : decode cX4_tellOfVineyard 21 = .ok (.ireturn, 1) := by decide +kernel
theorem dX4_tellOfVineyard_22 : decode cX4_tellOfVineyard 22 = .ok (.iconst 0, 1) := by decide +kernel
theorem dX4_tellOfVineyard_23 : decode cX4_tellOfVineyard 23 = .ok (.istore_n 3, 1) := by decide +kernel
theorem dX4_tellOfVineyard_24 : decode cX4_tellOfVineyard 24 = .ok (.iconst 0, 1) := by decide +kernel
theorem dX4_tellOfVineyard_25 : decode cX4_tellOfVineyard 25 = .ok (.istore 4, 2) := by decide +kernel
theorem dX4_tellOfVineyard_27 : decode cX4_tellOfVineyard 27 = .ok (.iload 4, 2) := by decide +kernel
theorem dX4_tellOfVineyard_29 : decode cX4_tellOfVineyard 29 = .ok (.aload_n 0, 1) := by decide +kernel
theorem dX4_tellOfVineyard_30 : decode cX4_tellOfVineyard 30 = .ok (.getfield 17, 3) := by decide +kernel
theorem dX4_tellOfVineyard_33 : decode cX4_tellOfVineyard 33 = .ok (.if_icmp .ge 45, 3) := by decide +kernel
theorem dX4_tellOfVineyard_36 : decode cX4_tellOfVineyard 36 = .ok (.aload_n 0, 1) := by decide +kernel
theorem dX4_tellOfVineyard_37 : decode cX4_tellOfVineyard 37 = .ok (.getfield 11, 3) := by decide +kernel
theorem dX4_tellOfVineyard_40 : decode cX4_tellOfVineyard 40 = .ok (.iload 4, 2) := by decide +kernel
theorem dX4_tellOfVineyard_42 : decode cX4_tellOfVineyard 42 = .ok (.aaload, 1) := by decide +kernel
theorem dX4_tellOfVineyard_43 : decode cX4_tellOfVineyard 43 = .ok (.getfield 186, 3) := by decide +kernel
theorem dX4_tellOfVineyard_46 : decode cX4_tellOfVineyard 46 = .ok (.iload_n 1, 1) := by decide +kernel
theorem dX4_tellOfVineyard_47 : decode cX4_tellOfVineyard 47 = .ok (.if_icmp .ne 25, 3) := by decide +kernel
theorem dX4_tellOfVineyard_50 : decode cX4_tellOfVineyard 50 = .ok (.iload_n 3, 1) := by decide +kernel
theorem dX4_tellOfVineyard_51 : decode cX4_tellOfVineyard 51 = .ok (.iload_n 2, 1) := by decide +kernel
theorem dX4_tellOfVineyard_52 : decode cX4_tellOfVineyard 52 = .ok (.iconst 1, 1) := by decide +kernel
theorem dX4_tellOfVineyard_53 : decode cX4_tellOfVineyard 53 = .ok (.if_icmp .ne 7, 3) := by decide +kernel
theorem dX4_tellOfVineyard_56 : decode cX4_tellOfVineyard 56 = .ok (.iconst 1, 1) := by decide +kernel
theorem dX4_tellOfVineyard_57 : decode cX4_tellOfVineyard 57 = .ok (.goto 13, 3) := by decide +kernel
theorem dX4_tellOfVineyard_60 : decode cX4_tellOfVineyard 60 = .ok (.aload_n 0, 1) := by decide +kernel
theorem dX4_tellOfVineyard_61 : decode cX4_tellOfVineyard 61 = .ok (.getfield 11, 3) := by decide +kernel
theorem dX4_tellOfVineyard_64 : decode cX4_tellOfVineyard 64 = .ok (.iload 4, 2) := by decide +kernel
theorem dX4_tellOfVineyard_66 : decode cX4_tellOfVineyard 66 = .ok (.aaload, 1) := by decide +kernel
theorem dX4_tellOfVineyard_67 : decode cX4_tellOfVineyard 67 = .ok (.getfield 146, 3) := by decide +kernel
theorem dX4_tellOfVineyard_70 : decode cX4_tellOfVineyard 70 = .ok (.iadd, 1) := by decide +kernel
theorem dX4_tellOfVineyard_71 : decode cX4_tellOfVineyard 71 = .ok (.istore_n 3, 1) := by decide +kernel
theorem dX4_tellOfVineyard_72 : decode cX4_tellOfVineyard 72 = .ok (.iinc 4 1, 3) := by decide +kernel
theorem dX4_tellOfVineyard_75 : decode cX4_tellOfVineyard 75 = .ok (.goto (-48), 3) := by decide +kernel
theorem dX4_tellOfVineyard_78 : decode cX4_tellOfVineyard 78 = .ok (.iload_n 3, 1) := by decide +kernel
theorem dX4_tellOfVineyard_79 : decode cX4_tellOfVineyard 79 = .ok (.ireturn, 1) := by decide +kernel
theorem dX4_tellAccount_0 : decode cX4_tellAccount 0 = .ok (.iload_n 1, 1) := by decide +kernel
theorem dX4_tellAccount_1 : decode cX4_tellAccount 1 = .ok (.tableswitch 105 0 9 #[55, 60, 65, 70, 75, 80, 85, 90, 95, 100], 55) := by decide +kernel
theorem dX4_tellAccount_56 : decode cX4_tellAccount 56 = .ok (.aload_n 0, 1) := by decide +kernel
theorem dX4_tellAccount_57 : decode cX4_tellAccount 57 = .ok (.getfield 17, 3) := by decide +kernel
theorem dX4_tellAccount_60 : decode cX4_tellAccount 60 = .ok (.ireturn, 1) := by decide +kernel
theorem dX4_tellAccount_61 : decode cX4_tellAccount 61 = .ok (.aload_n 0, 1) := by decide +kernel
theorem dX4_tellAccount_62 : decode cX4_tellAccount 62 = .ok (.invokevirtual 227, 3) := by decide +kernel
theorem dX4_tellAccount_65 : decode cX4_tellAccount 65 = .ok (.ireturn, 1) := by decide +kernel
theorem dX4_tellAccount_66 : decode cX4_tellAccount 66 = .ok (.aload_n 0, 1) := by decide +kernel
theorem dX4_tellAccount_67 : decode cX4_tellAccount 67 = .ok (.invokevirtual 230, 3) := by decide +kernel
theorem dX4_tellAccount_70 : decode cX4_tellAccount 70 = .ok (.ireturn, 1) := by decide +kernel
theorem dX4_tellAccount_71 : decode cX4_tellAccount 71 = .ok (.aload_n 0, 1) := by decide +kernel
theorem dX4_tellAccount_72 : decode cX4_tellAccount 72 = .ok (.invokevirtual 133, 3) := by decide +kernel
theorem dX4_tellAccount_75 : decode cX4_tellAccount 75 = .ok (.ireturn, 1) := by decide +kernel
theorem dX4_tellAccount_76 : decode cX4_tellAccount 76 = .ok (.aload_n 0, 1) := by decide +kernel
theorem dX4_tellAccount_77 : decode cX4_tellAccount 77 = .ok (.getfield 35, 3) := by decide +kernel
theorem dX4_tellAccount_80 : decode cX4_tellAccount 80 = .ok (.ireturn, 1) := by decide +kernel
theorem dX4_tellAccount_81 : decode cX4_tellAccount 81 = .ok (.aload_n 0, 1) := by decide +kernel
theorem dX4_tellAccount_82 : decode cX4_tellAccount 82 = .ok (.getfield 38, 3) := by decide +kernel
theorem dX4_tellAccount_85 : decode cX4_tellAccount 85 = .ok (.ireturn, 1) := by decide +kernel
theorem dX4_tellAccount_86 : decode cX4_tellAccount 86 = .ok (.aload_n 0, 1) := by decide +kernel
theorem dX4_tellAccount_87 : decode cX4_tellAccount 87 = .ok (.getfield 41, 3) := by decide +kernel
theorem dX4_tellAccount_90 : decode cX4_tellAccount 90 = .ok (.ireturn, 1) := by decide +kernel
theorem dX4_tellAccount_91 : decode cX4_tellAccount 91 = .ok (.aload_n 0, 1) := by decide +kernel
theorem dX4_tellAccount_92 : decode cX4_tellAccount 92 = .ok (.getfield 44, 3) := by decide +kernel
theorem dX4_tellAccount_95 : decode cX4_tellAccount 95 = .ok (.ireturn, 1) := by decide +kernel
theorem dX4_tellAccount_96 : decode cX4_tellAccount 96 = .ok (.aload_n 0, 1) := by decide +kernel
theorem dX4_tellAccount_97 : decode cX4_tellAccount 97 = .ok (.getfield 47, 3) := by decide +kernel
theorem dX4_tellAccount_100 : decode cX4_tellAccount 100 = .ok (.ireturn, 1) := by decide +kernel
theorem dX4_tellAccount_101 : decode cX4_tellAccount 101 = .ok (.aload_n 0, 1) := by decide +kernel
theorem dX4_tellAccount_102 : decode cX4_tellAccount 102 = .ok (.getfield 50, 3) := by decide +kernel
theorem dX4_tellAccount_105 : decode cX4_tellAccount 105 = .ok (.ireturn, 1) := by decide +kernel
theorem dX4_tellAccount_106 : decode cX4_tellAccount 106 = .ok (.aload_n 0, 1) := by decide +kernel
theorem dX4_tellAccount_107 : decode cX4_tellAccount 107 = .ok (.getfield 53, 3) := by decide +kernel
theorem dX4_tellAccount_110 : decode cX4_tellAccount 110 = .ok (.ireturn, 1) := by decide +kernel
theorem dX4_cloudAtPlace_0 : decode cX4_cloudAtPlace 0 = .ok (.iconst 0, 1) := by decide +kernel
theorem dX4_cloudAtPlace_1 : decode cX4_cloudAtPlace 1 = .ok (.istore_n 2, 1) := by decide +kernel
theorem dX4_cloudAtPlace_2 : decode cX4_cloudAtPlace 2 = .ok (.iload_n 2, 1) := by decide +kernel
theorem dX4_cloudAtPlace_3 : decode cX4_cloudAtPlace 3 = .ok (.aload_n 0, 1) := by decide +kernel
theorem dX4_cloudAtPlace_4 : decode cX4_cloudAtPlace 4 = .ok (.getfield 17, 3) := by decide +kernel
theorem dX4_cloudAtPlace_7 : decode cX4_cloudAtPlace 7 = .ok (.if_icmp .ge 20, 3) := by decide +kernel
theorem dX4_cloudAtPlace_10 : decode cX4_cloudAtPlace 10 = .ok (.aload_n 0, 1) := by decide +kernel
theorem dX4_cloudAtPlace_11 : decode cX4_cloudAtPlace 11 = .ok (.iload_n 2, 1) := by decide +kernel
theorem dX4_cloudAtPlace_12 : decode cX4_cloudAtPlace 12 = .ok (.invokevirtual 233, 3) := by decide +kernel
theorem dX4_cloudAtPlace_15 : decode cX4_cloudAtPlace 15 = .ok (.iload_n 1, 1) := by decide +kernel
theorem dX4_cloudAtPlace_16 : decode cX4_cloudAtPlace 16 = .ok (.if_icmp .ne 5, 3) := by decide +kernel
theorem dX4_cloudAtPlace_19 : decode cX4_cloudAtPlace 19 = .ok (.iload_n 2, 1) := by decide +kernel
theorem dX4_cloudAtPlace_20 : decode cX4_cloudAtPlace 20 = .ok (.ireturn, 1) := by decide +kernel
theorem dX4_cloudAtPlace_21 : decode cX4_cloudAtPlace 21 = .ok (.iinc 2 1, 3) := by decide +kernel
theorem dX4_cloudAtPlace_24 : decode cX4_cloudAtPlace 24 = .ok (.goto (-22), 3) := by decide +kernel
theorem dX4_cloudAtPlace_27 : decode cX4_cloudAtPlace 27 = .ok (.iconst (-1), 1) := by decide +kernel
theorem dX4_cloudAtPlace_28 : decode cX4_cloudAtPlace 28 = .ok (.ireturn, 1) := by decide +kernel
theorem dX4_cloudsAheadOf_0 : decode cX4_cloudsAheadOf 0 = .ok (.iconst 0, 1) := by decide +kernel
theorem dX4_cloudsAheadOf_1 : decode cX4_cloudsAheadOf 1 = .ok (.istore_n 2, 1) := by decide +kernel
theorem dX4_cloudsAheadOf_2 : decode cX4_cloudsAheadOf 2 = .ok (.iconst 0, 1) := by decide +kernel
theorem dX4_cloudsAheadOf_3 : decode cX4_cloudsAheadOf 3 = .ok (.istore_n 3, 1) := by decide +kernel
theorem dX4_cloudsAheadOf_4 : decode cX4_cloudsAheadOf 4 = .ok (.iload_n 3, 1) := by decide +kernel
theorem dX4_cloudsAheadOf_5 : decode cX4_cloudsAheadOf 5 = .ok (.aload_n 0, 1) := by decide +kernel
theorem dX4_cloudsAheadOf_6 : decode cX4_cloudsAheadOf 6 = .ok (.getfield 17, 3) := by decide +kernel
theorem dX4_cloudsAheadOf_9 : decode cX4_cloudsAheadOf 9 = .ok (.if_icmp .ge 21, 3) := by decide +kernel
theorem dX4_cloudsAheadOf_12 : decode cX4_cloudsAheadOf 12 = .ok (.aload_n 0, 1) := by decide +kernel
theorem dX4_cloudsAheadOf_13 : decode cX4_cloudsAheadOf 13 = .ok (.iload_n 3, 1) := by decide +kernel
theorem dX4_cloudsAheadOf_14 : decode cX4_cloudsAheadOf 14 = .ok (.iload_n 1, 1) := by decide +kernel
theorem dX4_cloudsAheadOf_15 : decode cX4_cloudsAheadOf 15 = .ok (.invokevirtual 236, 3) := by decide +kernel
theorem dX4_cloudsAheadOf_18 : decode cX4_cloudsAheadOf 18 = .ok (.ifCond .eq 6, 3) := by decide +kernel
theorem dX4_cloudsAheadOf_21 : decode cX4_cloudsAheadOf 21 = .ok (.iinc 2 1, 3) := by decide +kernel
theorem dX4_cloudsAheadOf_24 : decode cX4_cloudsAheadOf 24 = .ok (.iinc 3 1, 3) := by decide +kernel
theorem dX4_cloudsAheadOf_27 : decode cX4_cloudsAheadOf 27 = .ok (.goto (-23), 3) := by decide +kernel
theorem dX4_cloudsAheadOf_30 : decode cX4_cloudsAheadOf 30 = .ok (.iload_n 2, 1) := by decide +kernel
theorem dX4_cloudsAheadOf_31 : decode cX4_cloudsAheadOf 31 = .ok (.ireturn, 1) := by decide +kernel
theorem dX4_isCloudAhead_0 : decode cX4_isCloudAhead 0 = .ok (.aload_n 0, 1) := by decide +kernel
theorem dX4_isCloudAhead_1 : decode cX4_isCloudAhead 1 = .ok (.iload_n 1, 1) := by decide +kernel
theorem dX4_isCloudAhead_2 : decode cX4_isCloudAhead 2 = .ok (.invokevirtual 136, 3) := by decide +kernel
theorem dX4_isCloudAhead_5 : decode cX4_isCloudAhead 5 = .ok (.ifCond .eq 11, 3) := by decide +kernel
theorem dX4_isCloudAhead_8 : decode cX4_isCloudAhead 8 = .ok (.aload_n 0, 1) := by decide +kernel
theorem dX4_isCloudAhead_9 : decode cX4_isCloudAhead 9 = .ok (.iload_n 2, 1) := by decide +kernel
theorem dX4_isCloudAhead_10 : decode cX4_isCloudAhead 10 = .ok (.invokevirtual 136, 3) := by decide +kernel
theorem dX4_isCloudAhead_13 : decode cX4_isCloudAhead 13 = .ok (.ifCond .ne 5, 3) := by decide +kernel
theorem dX4_isCloudAhead_16 : decode cX4_isCloudAhead 16 = .ok (.iconst 0, 1) := by decide +kernel
theorem dX4_isCloudAhead_17 : decode cX4_isCloudAhead 17 = .ok (.ireturn, 1) := by decide +kernel
theorem dX4_isCloudAhead_18 : decode cX4_isCloudAhead 18 = .ok (.aload_n 0, 1) := by decide +kernel
theorem dX4_isCloudAhead_19 : decode cX4_isCloudAhead 19 = .ok (.getfield 11, 3) := by decide +kernel
theorem dX4_isCloudAhead_22 : decode cX4_isCloudAhead 22 = .ok (.iload_n 1, 1) := by decide +kernel
theorem dX4_isCloudAhead_23 : decode cX4_isCloudAhead 23 = .ok (.aaload, 1) := by decide +kernel
theorem dX4_isCloudAhead_24 : decode cX4_isCloudAhead 24 = .ok (.aload_n 0, 1) := by decide +kernel
theorem dX4_isCloudAhead_25 : decode cX4_isCloudAhead 25 = .ok (.getfield 11, 3) := by decide +kernel
theorem dX4_isCloudAhead_28 : decode cX4_isCloudAhead 28 = .ok (.iload_n 2, 1) := by decide +kernel
theorem dX4_isCloudAhead_29 : decode cX4_isCloudAhead 29 = .ok (.aaload, 1) := by decide +kernel
theorem dX4_isCloudAhead_30 : decode cX4_isCloudAhead 30 = .ok (.invokevirtual 239, 3) := by decide +kernel
theorem dX4_isCloudAhead_33 : decode cX4_isCloudAhead 33 = .ok (.ifCond .eq 5, 3) := by decide +kernel
theorem dX4_isCloudAhead_36 : decode cX4_isCloudAhead 36 = .ok (.iconst 1, 1) := by decide +kernel
theorem dX4_isCloudAhead_37 : decode cX4_isCloudAhead 37 = .ok (.ireturn, 1) := by decide +kernel
theorem dX4_isCloudAhead_38 : decode cX4_isCloudAhead 38 = .ok (.iload_n 1, 1) := by decide +kernel
theorem dX4_isCloudAhead_39 : decode cX4_isCloudAhead 39 = .ok (.iload_n 2, 1) := by decide +kernel
theorem dX4_isCloudAhead_40 : decode cX4_isCloudAhead 40 = .ok (.if_icmp .ge 25, 3) := by decide +kernel
theorem dX4_isCloudAhead_43 : decode cX4_isCloudAhead 43 = .ok (.aload_n 0, 1) := by decide +kernel
theorem dX4_isCloudAhead_44 : decode cX4_isCloudAhead 44 = .ok (.getfield 11, 3) := by decide +kernel
theorem dX4_isCloudAhead_47 : decode cX4_isCloudAhead 47 = .ok (.iload_n 2, 1) := by decide +kernel
theorem dX4_isCloudAhead_48 : decode cX4_isCloudAhead 48 = .ok (.aaload, 1) := by decide +kernel
theorem dX4_isCloudAhead_49 : decode cX4_isCloudAhead 49 = .ok (.aload_n 0, 1) := by decide +kernel
theorem dX4_isCloudAhead_50 : decode cX4_isCloudAhead 50 = .ok (.getfield 11, 3) := by decide +kernel
theorem dX4_isCloudAhead_53 : decode cX4_isCloudAhead 53 = .ok (.iload_n 1, 1) := by decide +kernel
theorem dX4_isCloudAhead_54 : decode cX4_isCloudAhead 54 = .ok (.aaload, 1) := by decide +kernel
theorem dX4_isCloudAhead_55 : decode cX4_isCloudAhead 55 = .ok (.invokevirtual 239, 3) := by decide +kernel
theorem dX4_isCloudAhead_58 : decode cX4_isCloudAhead 58 = .ok (.ifCond .ne 7, 3) := by decide +kernel
theorem dX4_isCloudAhead_61 : decode cX4_isCloudAhead 61 = .ok (.iconst 1, 1) := by decide +kernel
theorem dX4_isCloudAhead_62 : decode cX4_isCloudAhead 62 = .ok (.goto 4, 3) := by decide +kernel
theorem dX4_isCloudAhead_65 : decode cX4_isCloudAhead 65 = .ok (.iconst 0, 1) := by decide +kernel
theorem dX4_isCloudAhead_66 : decode cX4_isCloudAhead 66 = .ok (.ireturn, 1) := by decide +kernel
theorem dX4_ownerAtPlace_0 : decode cX4_ownerAtPlace 0 = .ok (.iconst 0, 1) := by decide +kernel
theorem dX4_ownerAtPlace_1 : decode cX4_ownerAtPlace 1 = .ok (.istore_n 2, 1) := by decide +kernel
theorem dX4_ownerAtPlace_2 : decode cX4_ownerAtPlace 2 = .ok (.iload_n 2, 1) := by decide +kernel
theorem dX4_ownerAtPlace_3 : decode cX4_ownerAtPlace 3 = .ok (.iconst 4, 1) := by decide +kernel
theorem dX4_ownerAtPlace_4 : decode cX4_ownerAtPlace 4 = .ok (.if_icmp .ge 20, 3) := by decide +kernel
theorem dX4_ownerAtPlace_7 : decode cX4_ownerAtPlace 7 = .ok (.aload_n 0, 1) := by decide +kernel
theorem dX4_ownerAtPlace_8 : decode cX4_ownerAtPlace 8 = .ok (.iload_n 2, 1) := by decide +kernel
theorem dX4_ownerAtPlace_9 : decode cX4_ownerAtPlace 9 = .ok (.invokevirtual 243, 3) := by decide +kernel
theorem dX4_ownerAtPlace_12 : decode cX4_ownerAtPlace 12 = .ok (.iload_n 1, 1) := by decide +kernel
theorem dX4_ownerAtPlace_13 : decode cX4_ownerAtPlace 13 = .ok (.if_icmp .ne 5, 3) := by decide +kernel
theorem dX4_ownerAtPlace_16 : decode cX4_ownerAtPlace 16 = .ok (.iload_n 2, 1) := by decide +kernel
theorem dX4_ownerAtPlace_17 : decode cX4_ownerAtPlace 17 = .ok (.ireturn, 1) := by decide +kernel
theorem dX4_ownerAtPlace_18 : decode cX4_ownerAtPlace 18 = .ok (.iinc 2 1, 3) := by decide +kernel
theorem dX4_ownerAtPlace_21 : decode cX4_ownerAtPlace 21 = .ok (.goto (-19), 3) := by decide +kernel
theorem dX4_ownerAtPlace_24 : decode cX4_ownerAtPlace 24 = .ok (.iconst (-1), 1) := by decide +kernel
theorem dX4_ownerAtPlace_25 : decode cX4_ownerAtPlace 25 = .ok (.ireturn, 1) := by decide +kernel
theorem dX4_ownersAheadOf_0 : decode cX4_ownersAheadOf 0 = .ok (.iconst 0, 1) := by decide +kernel
theorem dX4_ownersAheadOf_1 : decode cX4_ownersAheadOf 1 = .ok (.istore_n 2, 1) := by decide +kernel
theorem dX4_ownersAheadOf_2 : decode cX4_ownersAheadOf 2 = .ok (.iconst 0, 1) := by decide +kernel
theorem dX4_ownersAheadOf_3 : decode cX4_ownersAheadOf 3 = .ok (.istore_n 3, 1) := by decide +kernel
theorem dX4_ownersAheadOf_4 : decode cX4_ownersAheadOf 4 = .ok (.iload_n 3, 1) := by decide +kernel
theorem dX4_ownersAheadOf_5 : decode cX4_ownersAheadOf 5 = .ok (.iconst 4, 1) := by decide +kernel
theorem dX4_ownersAheadOf_6 : decode cX4_ownersAheadOf 6 = .ok (.if_icmp .ge 21, 3) := by decide +kernel
theorem dX4_ownersAheadOf_9 : decode cX4_ownersAheadOf 9 = .ok (.aload_n 0, 1) := by decide +kernel
theorem dX4_ownersAheadOf_10 : decode cX4_ownersAheadOf 10 = .ok (.iload_n 3, 1) := by decide +kernel
theorem dX4_ownersAheadOf_11 : decode cX4_ownersAheadOf 11 = .ok (.iload_n 1, 1) := by decide +kernel
theorem dX4_ownersAheadOf_12 : decode cX4_ownersAheadOf 12 = .ok (.invokevirtual 246, 3) := by decide +kernel
theorem dX4_ownersAheadOf_15 : decode cX4_ownersAheadOf 15 = .ok (.ifCond .eq 6, 3) := by decide +kernel
theorem dX4_ownersAheadOf_18 : decode cX4_ownersAheadOf 18 = .ok (.iinc 2 1, 3) := by decide +kernel
theorem dX4_ownersAheadOf_21 : decode cX4_ownersAheadOf 21 = .ok (.iinc 3 1, 3) := by decide +kernel
theorem dX4_ownersAheadOf_24 : decode cX4_ownersAheadOf 24 = .ok (.goto (-20), 3) := by decide +kernel
theorem dX4_ownersAheadOf_27 : decode cX4_ownersAheadOf 27 = .ok (.iload_n 2, 1) := by decide +kernel
theorem dX4_ownersAheadOf_28 : decode cX4_ownersAheadOf 28 = .ok (.ireturn, 1) := by decide +kernel
theorem dX4_isOwnerAhead_0 : decode cX4_isOwnerAhead 0 = .ok (.aload_n 0, 1) := by decide +kernel
theorem dX4_isOwnerAhead_1 : decode cX4_isOwnerAhead 1 = .ok (.iload_n 1, 1) := by decide +kernel
theorem dX4_isOwnerAhead_2 : decode cX4_isOwnerAhead 2 = .ok (.invokevirtual 212, 3) := by decide +kernel
theorem dX4_isOwnerAhead_5 : decode cX4_isOwnerAhead 5 = .ok (.aload_n 0, 1) := by decide +kernel
theorem dX4_isOwnerAhead_6 : decode cX4_isOwnerAhead 6 = .ok (.iload_n 2, 1) := by decide +kernel
theorem dX4_isOwnerAhead_7 : decode cX4_isOwnerAhead 7 = .ok (.invokevirtual 212, 3) := by decide +kernel
theorem dX4_isOwnerAhead_10 : decode cX4_isOwnerAhead 10 = .ok (.isub, 1) := by decide +kernel
theorem dX4_isOwnerAhead_11 : decode cX4_isOwnerAhead 11 = .ok (.istore_n 3, 1) := by decide +kernel
theorem dX4_isOwnerAhead_12 : decode cX4_isOwnerAhead 12 = .ok (.iload_n 3, 1) := by decide +kernel
theorem dX4_isOwnerAhead_13 : decode cX4_isOwnerAhead 13 = .ok (.ifCond .eq 13, 3) := by decide +kernel
theorem dX4_isOwnerAhead_16 : decode cX4_isOwnerAhead 16 = .ok (.iload_n 3, 1) := by decide +kernel
theorem dX4_isOwnerAhead_17 : decode cX4_isOwnerAhead 17 = .ok (.ifCond .le 7, 3) := by decide +kernel
theorem dX4_isOwnerAhead_20 : decode cX4_isOwnerAhead 20 = .ok (.iconst 1, 1) := by decide +kernel
theorem dX4_isOwnerAhead_21 : decode cX4_isOwnerAhead 21 = .ok (.goto 4, 3) := by decide +kernel
theorem dX4_isOwnerAhead_24 : decode cX4_isOwnerAhead 24 = .ok (.iconst 0, 1) := by decide +kernel
theorem dX4_isOwnerAhead_25 : decode cX4_isOwnerAhead 25 = .ok (.ireturn, 1) := by decide +kernel
theorem dX4_isOwnerAhead_26 : decode cX4_isOwnerAhead 26 = .ok (.aload_n 0, 1) := by decide +kernel
theorem dX4_isOwnerAhead_27 : decode cX4_isOwnerAhead 27 = .ok (.iload_n 1, 1) := by decide +kernel
theorem dX4_isOwnerAhead_28 : decode cX4_isOwnerAhead 28 = .ok (.invokevirtual 160, 3) := by decide +kernel
theorem dX4_isOwnerAhead_31 : decode cX4_isOwnerAhead 31 = .ok (.aload_n 0, 1) := by decide +kernel
theorem dX4_isOwnerAhead_32 : decode cX4_isOwnerAhead 32 = .ok (.iload_n 2, 1) := by decide +kernel
theorem dX4_isOwnerAhead_33 : decode cX4_isOwnerAhead 33 = .ok (.invokevirtual 160, 3) := by decide +kernel
theorem dX4_isOwnerAhead_36 : decode cX4_isOwnerAhead 36 = .ok (.if_icmp .eq 22, 3) := by decide +kernel
theorem dX4_isOwnerAhead_39 : decode cX4_isOwnerAhead 39 = .ok (.aload_n 0, 1) := by decide +kernel
theorem dX4_isOwnerAhead_40 : decode cX4_isOwnerAhead 40 = .ok (.iload_n 1, 1) := by decide +kernel
theorem dX4_isOwnerAhead_41 : decode cX4_isOwnerAhead 41 = .ok (.invokevirtual 160, 3) := by decide +kernel
theorem dX4_isOwnerAhead_44 : decode cX4_isOwnerAhead 44 = .ok (.aload_n 0, 1) := by decide +kernel
theorem dX4_isOwnerAhead_45 : decode cX4_isOwnerAhead 45 = .ok (.iload_n 2, 1) := by decide +kernel
theorem dX4_isOwnerAhead_46 : decode cX4_isOwnerAhead 46 = .ok (.invokevirtual 160, 3) := by decide +kernel
theorem dX4_isOwnerAhead_49 : decode cX4_isOwnerAhead 49 = .ok (.if_icmp .le 7, 3) := by decide +kernel
theorem dX4_isOwnerAhead_52 : decode cX4_isOwnerAhead 52 = .ok (.iconst 1, 1) := by decide +kernel
theorem dX4_isOwnerAhead_53 : decode cX4_isOwnerAhead 53 = .ok (.goto 4, 3) := by decide +kernel
theorem dX4_isOwnerAhead_56 : decode cX4_isOwnerAhead 56 = .ok (.iconst 0, 1) := by decide +kernel
theorem dX4_isOwnerAhead_57 : decode cX4_isOwnerAhead 57 = .ok (.ireturn, 1) := by decide +kernel
theorem dX4_isOwnerAhead_58 : decode cX4_isOwnerAhead 58 = .ok (.iload_n 1, 1) := by decide +kernel
theorem dX4_isOwnerAhead_59 : decode cX4_isOwnerAhead 59 = .ok (.iload_n 2, 1) := by decide +kernel
theorem dX4_isOwnerAhead_60 : decode cX4_isOwnerAhead 60 = .ok (.if_icmp .ge 7, 3) := by decide +kernel
theorem dX4_isOwnerAhead_63 : decode cX4_isOwnerAhead 63 = .ok (.iconst 1, 1) := by decide +kernel
theorem dX4_isOwnerAhead_64 : decode cX4_isOwnerAhead 64 = .ok (.goto 4, 3) := by decide +kernel
theorem dX4_isOwnerAhead_67 : decode cX4_isOwnerAhead 67 = .ok (.iconst 0, 1) := by decide +kernel
theorem dX4_isOwnerAhead_68 : decode cX4_isOwnerAhead 68 = .ok (.ireturn, 1) := by decide +kernel
theorem dX7_init_0 : decode cX7_init 0 = .ok (.aload_n 0, 1) := by decide +kernel
theorem dX7_init_1 : decode cX7_init 1 = .ok (.invokespecial 3, 3) := by decide +kernel
theorem dX7_init_4 : decode cX7_init 4 = .ok (.aload_n 0, 1) := by decide +kernel
theorem dX7_init_5 : decode cX7_init 5 = .ok (.bipush 30, 2) := by decide +kernel
theorem dX7_init_7 : decode cX7_init 7 = .ok (.newarray .int, 2) := by decide +kernel
theorem dX7_init_9 : decode cX7_init 9 = .ok (.putfield 9, 3) := by decide +kernel
theorem dX7_init_12 : decode cX7_init 12 = .ok (.aload_n 0, 1) := by decide +kernel
theorem dX7_init_13 : decode cX7_init 13 = .ok (.iconst 5, 1) := by decide +kernel
theorem dX7_init_14 : decode cX7_init 14 = .ok (.newarray .int, 2) := by decide +kernel
theorem dX7_init_16 : decode cX7_init 16 = .ok (.putfield 15, 3) := by decide +kernel
theorem dX7_init_19 : decode cX7_init 19 = .ok (.aload_n 0, 1) := by decide +kernel
theorem dX7_init_20 : decode cX7_init 20 = .ok (.iconst 0, 1) := by decide +kernel
theorem dX7_init_21 : decode cX7_init 21 = .ok (.putfield 18, 3) := by decide +kernel
theorem dX7_init_24 : decode cX7_init 24 = .ok (.return_, 1) := by decide +kernel
theorem dX7_copyFrom_0 : decode cX7_copyFrom 0 = .ok (.aload_n 1, 1) := by decide +kernel
theorem dX7_copyFrom_1 : decode cX7_copyFrom 1 = .ok (.getfield 9, 3) := by decide +kernel
theorem dX7_copyFrom_4 : decode cX7_copyFrom 4 = .ok (.aload_n 0, 1) := by decide +kernel
theorem dX7_copyFrom_5 : decode cX7_copyFrom 5 = .ok (.getfield 9, 3) := by decide +kernel
theorem dX7_copyFrom_8 : decode cX7_copyFrom 8 = .ok (.invokestatic 22, 3) := by decide +kernel
theorem dX7_copyFrom_11 : decode cX7_copyFrom 11 = .ok (.aload_n 1, 1) := by decide +kernel
theorem dX7_copyFrom_12 : decode cX7_copyFrom 12 = .ok (.getfield 15, 3) := by decide +kernel
theorem dX7_copyFrom_15 : decode cX7_copyFrom 15 = .ok (.aload_n 0, 1) := by decide +kernel
theorem dX7_copyFrom_16 : decode cX7_copyFrom 16 = .ok (.getfield 15, 3) := by decide +kernel
theorem dX7_copyFrom_19 : decode cX7_copyFrom 19 = .ok (.invokestatic 22, 3) := by decide +kernel
theorem dX7_copyFrom_22 : decode cX7_copyFrom 22 = .ok (.aload_n 0, 1) := by decide +kernel
theorem dX7_copyFrom_23 : decode cX7_copyFrom 23 = .ok (.aload_n 1, 1) := by decide +kernel
theorem dX7_copyFrom_24 : decode cX7_copyFrom 24 = .ok (.getfield 18, 3) := by decide +kernel
theorem dX7_copyFrom_27 : decode cX7_copyFrom 27 = .ok (.putfield 18, 3) := by decide +kernel
theorem dX7_copyFrom_30 : decode cX7_copyFrom 30 = .ok (.return_, 1) := by decide +kernel
theorem dX7_record_0 : decode cX7_record 0 = .ok (.aload_n 0, 1) := by decide +kernel
theorem dX7_record_1 : decode cX7_record 1 = .ok (.invokevirtual 26, 3) := by decide +kernel
theorem dX7_record_4 : decode cX7_record 4 = .ok (.iconst 0, 1) := by decide +kernel
theorem dX7_record_5 : decode cX7_record 5 = .ok (.istore_n 3, 1) := by decide +kernel
theorem dX7_record_6 : decode cX7_record 6 = .ok (.iload_n 3, 1) := by decide +kernel
theorem dX7_record_7 : decode cX7_record 7 = .ok (.iload_n 2, 1) := by decide +kernel
theorem dX7_record_8 : decode cX7_record 8 = .ok (.if_icmp .ge 27, 3) := by decide +kernel
theorem dX7_record_11 : decode cX7_record 11 = .ok (.iload_n 3, 1) := by decide +kernel
theorem dX7_record_12 : decode cX7_record 12 = .ok (.bipush 6, 2) := by decide +kernel
theorem dX7_record_14 : decode cX7_record 14 = .ok (.if_icmp .ge 21, 3) := by decide +kernel
theorem dX7_record_17 : decode cX7_record 17 = .ok (.aload_n 0, 1) := by decide +kernel
theorem dX7_record_18 : decode cX7_record 18 = .ok (.getfield 9, 3) := by decide +kernel
theorem dX7_record_21 : decode cX7_record 21 = .ok (.iload_n 3, 1) := by decide +kernel
theorem dX7_record_22 : decode cX7_record 22 = .ok (.aload_n 1, 1) := by decide +kernel
theorem dX7_record_23 : decode cX7_record 23 = .ok (.iload_n 3, 1) := by decide +kernel
theorem dX7_record_24 : decode cX7_record 24 = .ok (.aaload, 1) := by decide +kernel
theorem dX7_record_25 : decode cX7_record 25 = .ok (.getfield 29, 3) := by decide +kernel
theorem dX7_record_28 : decode cX7_record 28 = .ok (.iastore, 1) := by decide +kernel
theorem dX7_record_29 : decode cX7_record 29 = .ok (.iinc 3 1, 3) := by decide +kernel
theorem dX7_record_32 : decode cX7_record 32 = .ok (.goto (-26), 3) := by decide +kernel
theorem dX7_record_35 : decode cX7_record 35 = .ok (.aload_n 0, 1) := by decide +kernel
theorem dX7_record_36 : decode cX7_record 36 = .ok (.getfield 15, 3) := by decide +kernel
theorem dX7_record_39 : decode cX7_record 39 = .ok (.iconst 0, 1) := by decide +kernel
theorem dX7_record_40 : decode cX7_record 40 = .ok (.iload_n 2, 1) := by decide +kernel
theorem dX7_record_41 : decode cX7_record 41 = .ok (.iastore, 1) := by decide +kernel
theorem dX7_record_42 : decode cX7_record 42 = .ok (.aload_n 0, 1) := by decide +kernel
theorem dX7_record_43 : decode cX7_record 43 = .ok (.aload_n 0, 1) := by decide +kernel
theorem dX7_record_44 : decode cX7_record 44 = .ok (.getfield 18, 3) := by decide +kernel
theorem dX7_record_47 : decode cX7_record 47 = .ok (.iconst 1, 1) := by decide +kernel
theorem dX7_record_48 : decode cX7_record 48 = .ok (.iadd, 1) := by decide +kernel
theorem dX7_record_49 : decode cX7_record 49 = .ok (.iconst 5, 1) := by decide +kernel
theorem dX7_record_50 : decode cX7_record 50 = .ok (.invokestatic 34, 3) := by decide +kernel
theorem dX7_record_53 : decode cX7_record 53 = .ok (.putfield 18, 3) := by decide +kernel
theorem dX7_record_56 : decode cX7_record 56 = .ok (.return_, 1) := by decide +kernel
theorem dX7_makeRoom_0 : decode cX7_makeRoom 0 = .ok (.aload_n 0, 1) := by decide +kernel
theorem dX7_makeRoom_1 : decode cX7_makeRoom 1 = .ok (.getfield 9, 3) := by decide +kernel
theorem dX7_makeRoom_4 : decode cX7_makeRoom 4 = .ok (.arraylength, 1) := by decide +kernel
theorem dX7_makeRoom_5 : decode cX7_makeRoom 5 = .ok (.iconst 1, 1) := by decide +kernel
theorem dX7_makeRoom_6 : decode cX7_makeRoom 6 = .ok (.isub, 1) := by decide +kernel
theorem dX7_makeRoom_7 : decode cX7_makeRoom 7 = .ok (.istore_n 1, 1) := by decide +kernel
theorem dX7_makeRoom_8 : decode cX7_makeRoom 8 = .ok (.iload_n 1, 1) := by decide +kernel
theorem dX7_makeRoom_9 : decode cX7_makeRoom 9 = .ok (.bipush 6, 2) := by decide +kernel
theorem dX7_makeRoom_11 : decode cX7_makeRoom 11 = .ok (.if_icmp .lt 24, 3) := by decide +kernel
theorem dX7_makeRoom_14 : decode cX7_makeRoom 14 = .ok (.aload_n 0, 1) := by decide +kernel
theorem dX7_makeRoom_15 : decode cX7_makeRoom 15 = .ok (.getfield 9, 3) := by decide +kernel
theorem dX7_makeRoom_18 : decode cX7_makeRoom 18 = .ok (.iload_n 1, 1) := by decide +kernel
theorem dX7_makeRoom_19 : decode cX7_makeRoom 19 = .ok (.aload_n 0, 1) := by decide +kernel
theorem dX7_makeRoom_20 : decode cX7_makeRoom 20 = .ok (.getfield 9, 3) := by decide +kernel
theorem dX7_makeRoom_23 : decode cX7_makeRoom 23 = .ok (.iload_n 1, 1) := by decide +kernel
theorem dX7_makeRoom_24 : decode cX7_makeRoom 24 = .ok (.bipush 6, 2) := by decide +kernel
theorem dX7_makeRoom_26 : decode cX7_makeRoom 26 = .ok (.isub, 1) := by decide +kernel
theorem dX7_makeRoom_27 : decode cX7_makeRoom 27 = .ok (.iaload, 1) := by decide +kernel
theorem dX7_makeRoom_28 : decode cX7_makeRoom 28 = .ok (.iastore, 1) := by decide +kernel
theorem dX7_makeRoom_29 : decode cX7_makeRoom 29 = .ok (.iinc 1 (-1), 3) := by decide +kernel
theorem dX7_makeRoom_32 : decode cX7_makeRoom 32 = .ok (.goto (-24), 3) := by decide +kernel
theorem dX7_makeRoom_35 : decode cX7_makeRoom 35 = .ok (.aload_n 0, 1) := by decide +kernel
theorem dX7_makeRoom_36 : decode cX7_makeRoom 36 = .ok (.getfield 15, 3) := by decide +kernel
theorem dX7_makeRoom_39 : decode cX7_makeRoom 39 = .ok (.arraylength, 1) := by decide +kernel
theorem dX7_makeRoom_40 : decode cX7_makeRoom 40 = .ok (.iconst 1, 1) := by decide +kernel
theorem dX7_makeRoom_41 : decode cX7_makeRoom 41 = .ok (.isub, 1) := by decide +kernel
theorem dX7_makeRoom_42 : decode cX7_makeRoom 42 = .ok (.istore_n 1, 1) := by decide +kernel
theorem dX7_makeRoom_43 : decode cX7_makeRoom 43 = .ok (.iload_n 1, 1) := by decide +kernel
theorem dX7_makeRoom_44 : decode cX7_makeRoom 44 = .ok (.iconst 1, 1) := by decide +kernel
theorem dX7_makeRoom_45 : decode cX7_makeRoom 45 = .ok (.if_icmp .lt 23, 3) := by decide +kernel
theorem dX7_makeRoom_48 : decode cX7_makeRoom 48 = .ok (.aload_n 0, 1) := by decide +kernel
theorem dX7_makeRoom_49 : decode cX7_makeRoom 49 = .ok (.getfield 15, 3) := by decide +kernel
theorem dX7_makeRoom_52 : decode cX7_makeRoom 52 = .ok (.iload_n 1, 1) := by decide +kernel
theorem dX7_makeRoom_53 : decode cX7_makeRoom 53 = .ok (.aload_n 0, 1) := by decide +kernel
theorem dX7_makeRoom_54 : decode cX7_makeRoom 54 = .ok (.getfield 15, 3) := by decide +kernel
theorem dX7_makeRoom_57 : decode cX7_makeRoom 57 = .ok (.iload_n 1, 1) := by decide +kernel
theorem dX7_makeRoom_58 : decode cX7_makeRoom 58 = .ok (.iconst 1, 1) := by decide +kernel
theorem dX7_makeRoom_59 : decode cX7_makeRoom 59 = .ok (.isub, 1) := by decide +kernel
theorem dX7_makeRoom_60 : decode cX7_makeRoom 60 = .ok (.iaload, 1) := by decide +kernel
theorem dX7_makeRoom_61 : decode cX7_makeRoom 61 = .ok (.iastore, 1) := by decide +kernel
theorem dX7_makeRoom_62 : decode cX7_makeRoom 62 = .ok (.iinc 1 (-1), 3) := by decide +kernel
theorem dX7_makeRoom_65 : decode cX7_makeRoom 65 = .ok (.goto (-22), 3) := by decide +kernel
theorem dX7_makeRoom_68 : decode cX7_makeRoom 68 = .ok (.return_, 1) := by decide +kernel
theorem dX7_hasDawn_0 : decode cX7_hasDawn 0 = .ok (.iload_n 1, 1) := by decide +kernel
theorem dX7_hasDawn_1 : decode cX7_hasDawn 1 = .ok (.aload_n 0, 1) := by decide +kernel
theorem dX7_hasDawn_2 : decode cX7_hasDawn 2 = .ok (.getfield 18, 3) := by decide +kernel
theorem dX7_hasDawn_5 : decode cX7_hasDawn 5 = .ok (.invokestatic 40, 3) := by decide +kernel
theorem dX7_hasDawn_8 : decode cX7_hasDawn 8 = .ok (.ireturn, 1) := by decide +kernel
theorem dX7_cloudsAt_0 : decode cX7_cloudsAt 0 = .ok (.aload_n 0, 1) := by decide +kernel
theorem dX7_cloudsAt_1 : decode cX7_cloudsAt 1 = .ok (.iload_n 1, 1) := by decide +kernel
theorem dX7_cloudsAt_2 : decode cX7_cloudsAt 2 = .ok (.invokevirtual 44, 3) := by decide +kernel
theorem dX7_cloudsAt_5 : decode cX7_cloudsAt 5 = .ok (.ifCond .eq 12, 3) := by decide +kernel
theorem dX7_cloudsAt_8 : decode cX7_cloudsAt 8 = .ok (.aload_n 0, 1) := by decide +kernel
theorem dX7_cloudsAt_9 : decode cX7_cloudsAt 9 = .ok (.getfield 15, 3) := by decide +kernel
theorem dX7_cloudsAt_12 : decode cX7_cloudsAt 12 = .ok (.iload_n 1, 1) := by decide +kernel
theorem dX7_cloudsAt_13 : decode cX7_cloudsAt 13 = .ok (.iaload, 1) := by decide +kernel
theorem dX7_cloudsAt_14 : decode cX7_cloudsAt 14 = .ok (.goto 4, 3) := by decide +kernel
theorem dX7_cloudsAt_17 : decode cX7_cloudsAt 17 = .ok (.iconst 0, 1) := by decide +kernel
theorem dX7_cloudsAt_18 : decode cX7_cloudsAt 18 = .ok (.ireturn, 1) := by decide +kernel
theorem dX7_ownerAt_0 : decode cX7_ownerAt 0 = .ok (.iload_n 2, 1) := by decide +kernel
theorem dX7_ownerAt_1 : decode cX7_ownerAt 1 = .ok (.aload_n 0, 1) := by decide +kernel
theorem dX7_ownerAt_2 : decode cX7_ownerAt 2 = .ok (.iload_n 1, 1) := by decide +kernel
theorem dX7_ownerAt_3 : decode cX7_ownerAt 3 = .ok (.invokevirtual 48, 3) := by decide +kernel
theorem dX7_ownerAt_6 : decode cX7_ownerAt 6 = .ok (.invokestatic 40, 3) := by decide +kernel
theorem dX7_ownerAt_9 : decode cX7_ownerAt 9 = .ok (.ifCond .eq 17, 3) := by decide +kernel
theorem dX7_ownerAt_12 : decode cX7_ownerAt 12 = .ok (.aload_n 0, 1) := by decide +kernel
theorem dX7_ownerAt_13 : decode cX7_ownerAt 13 = .ok (.getfield 9, 3) := by decide +kernel
theorem dX7_ownerAt_16 : decode cX7_ownerAt 16 = .ok (.iload_n 1, 1) := by decide +kernel
theorem dX7_ownerAt_17 : decode cX7_ownerAt 17 = .ok (.bipush 6, 2) := by decide +kernel
theorem dX7_ownerAt_19 : decode cX7_ownerAt 19 = .ok (.imul, 1) := by decide +kernel
theorem dX7_ownerAt_20 : decode cX7_ownerAt 20 = .ok (.iload_n 2, 1) := by decide +kernel
theorem dX7_ownerAt_21 : decode cX7_ownerAt 21 = .ok (.iadd, 1) := by decide +kernel
theorem dX7_ownerAt_22 : decode cX7_ownerAt 22 = .ok (.iaload, 1) := by decide +kernel
theorem dX7_ownerAt_23 : decode cX7_ownerAt 23 = .ok (.goto 4, 3) := by decide +kernel
theorem dX7_ownerAt_26 : decode cX7_ownerAt 26 = .ok (.iconst (-1), 1) := by decide +kernel
theorem dX7_ownerAt_27 : decode cX7_ownerAt 27 = .ok (.ireturn, 1) := by decide +kernel
theorem dX7_writeTo_0 : decode cX7_writeTo 0 = .ok (.iconst 0, 1) := by decide +kernel
theorem dX7_writeTo_1 : decode cX7_writeTo 1 = .ok (.istore_n 3, 1) := by decide +kernel
theorem dX7_writeTo_2 : decode cX7_writeTo 2 = .ok (.iload_n 3, 1) := by decide +kernel
theorem dX7_writeTo_3 : decode cX7_writeTo 3 = .ok (.aload_n 0, 1) := by decide +kernel
theorem dX7_writeTo_4 : decode cX7_writeTo 4 = .ok (.iload_n 2, 1) := by decide +kernel
theorem dX7_writeTo_5 : decode cX7_writeTo 5 = .ok (.invokevirtual 48, 3) := by decide +kernel
theorem dX7_writeTo_8 : decode cX7_writeTo 8 = .ok (.if_icmp .ge 40, 3) := by decide +kernel
theorem dX7_writeTo_11 : decode cX7_writeTo 11 = .ok (.aload_n 0, 1) := by decide +kernel
theorem dX7_writeTo_12 : decode cX7_writeTo 12 = .ok (.iload_n 2, 1) := by decide +kernel
theorem dX7_writeTo_13 : decode cX7_writeTo 13 = .ok (.iload_n 3, 1) := by decide +kernel
theorem dX7_writeTo_14 : decode cX7_writeTo 14 = .ok (.invokevirtual 52, 3) := by decide +kernel
theorem dX7_writeTo_17 : decode cX7_writeTo 17 = .ok (.istore 4, 2) := by decide +kernel
theorem dX7_writeTo_19 : decode cX7_writeTo 19 = .ok (.iload 4, 2) := by decide +kernel
theorem dX7_writeTo_21 : decode cX7_writeTo 21 = .ok (.iconst (-1), 1) := by decide +kernel
theorem dX7_writeTo_22 : decode cX7_writeTo 22 = .ok (.if_icmp .ne 13, 3) := by decide +kernel
theorem dX7_writeTo_25 : decode cX7_writeTo 25 = .ok (.aload_n 1, 1) := by decide +kernel
theorem dX7_writeTo_26 : decode cX7_writeTo 26 = .ok (.bipush 45, 2) := by decide +kernel
theorem dX7_writeTo_28 : decode cX7_writeTo 28 = .ok (.invokevirtual 55, 3) := by decide +kernel
theorem dX7_writeTo_31 : decode cX7_writeTo 31 = .ok (.pop, 1) := by decide +kernel
theorem dX7_writeTo_32 : decode cX7_writeTo 32 = .ok (.goto 10, 3) := by decide +kernel
theorem dX7_writeTo_35 : decode cX7_writeTo 35 = .ok (.aload_n 1, 1) := by decide +kernel
theorem dX7_writeTo_36 : decode cX7_writeTo 36 = .ok (.iload 4, 2) := by decide +kernel
theorem dX7_writeTo_38 : decode cX7_writeTo 38 = .ok (.invokevirtual 61, 3) := by decide +kernel
theorem dX7_writeTo_41 : decode cX7_writeTo 41 = .ok (.pop, 1) := by decide +kernel
theorem dX7_writeTo_42 : decode cX7_writeTo 42 = .ok (.iinc 3 1, 3) := by decide +kernel
theorem dX7_writeTo_45 : decode cX7_writeTo 45 = .ok (.goto (-43), 3) := by decide +kernel
theorem dX7_writeTo_48 : decode cX7_writeTo 48 = .ok (.return_, 1) := by decide +kernel
