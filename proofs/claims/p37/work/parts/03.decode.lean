theorem dX10_addBurn_47 : decode cX10_addBurn 47 = .ok (.iastore, 1) := by decide +kernel
theorem dX10_addBurn_48 : decode cX10_addBurn 48 = .ok (.aload_n 0, 1) := by decide +kernel
theorem dX10_addBurn_49 : decode cX10_addBurn 49 = .ok (.dup, 1) := by decide +kernel
theorem dX10_addBurn_50 : decode cX10_addBurn 50 = .ok (.getfield 44, 3) := by decide +kernel
theorem dX10_addBurn_53 : decode cX10_addBurn 53 = .ok (.iconst 1, 1) := by decide +kernel
theorem dX10_addBurn_54 : decode cX10_addBurn 54 = .ok (.iadd, 1) := by decide +kernel
theorem dX10_addBurn_55 : decode cX10_addBurn 55 = .ok (.putfield 44, 3) := by decide +kernel
theorem dX10_addBurn_58 : decode cX10_addBurn 58 = .ok (.return_, 1) := by decide +kernel
theorem dX10_addStop_0 : decode cX10_addStop 0 = .ok (.aload_n 0, 1) := by decide +kernel
theorem dX10_addStop_1 : decode cX10_addStop 1 = .ok (.getfield 44, 3) := by decide +kernel
theorem dX10_addStop_4 : decode cX10_addStop 4 = .ok (.bipush 12, 2) := by decide +kernel
theorem dX10_addStop_6 : decode cX10_addStop 6 = .ok (.if_icmp .lt 4, 3) := by decide +kernel
theorem dX10_addStop_9 : decode cX10_addStop 9 = .ok (.return_, 1) := by decide +kernel
theorem dX10_addStop_10 : decode cX10_addStop 10 = .ok (.aload_n 0, 1) := by decide +kernel
theorem dX10_addStop_11 : decode cX10_addStop 11 = .ok (.getfield 25, 3) := by decide +kernel
theorem dX10_addStop_14 : decode cX10_addStop 14 = .ok (.aload_n 0, 1) := by decide +kernel
theorem dX10_addStop_15 : decode cX10_addStop 15 = .ok (.getfield 44, 3) := by decide +kernel
theorem dX10_addStop_18 : decode cX10_addStop 18 = .ok (.iconst (-1), 1) := by decide +kernel
theorem dX10_addStop_19 : decode cX10_addStop 19 = .ok (.iastore, 1) := by decide +kernel
theorem dX10_addStop_20 : decode cX10_addStop 20 = .ok (.aload_n 0, 1) := by decide +kernel
theorem dX10_addStop_21 : decode cX10_addStop 21 = .ok (.getfield 28, 3) := by decide +kernel
theorem dX10_addStop_24 : decode cX10_addStop 24 = .ok (.aload_n 0, 1) := by decide +kernel
theorem dX10_addStop_25 : decode cX10_addStop 25 = .ok (.getfield 44, 3) := by decide +kernel
theorem dX10_addStop_28 : decode cX10_addStop 28 = .ok (.iconst 0, 1) := by decide +kernel
theorem dX10_addStop_29 : decode cX10_addStop 29 = .ok (.iastore, 1) := by decide +kernel
theorem dX10_addStop_30 : decode cX10_addStop 30 = .ok (.aload_n 0, 1) := by decide +kernel
theorem dX10_addStop_31 : decode cX10_addStop 31 = .ok (.dup, 1) := by decide +kernel
theorem dX10_addStop_32 : decode cX10_addStop 32 = .ok (.getfield 44, 3) := by decide +kernel
theorem dX10_addStop_35 : decode cX10_addStop 35 = .ok (.iconst 1, 1) := by decide +kernel
theorem dX10_addStop_36 : decode cX10_addStop 36 = .ok (.iadd, 1) := by decide +kernel
theorem dX10_addStop_37 : decode cX10_addStop 37 = .ok (.putfield 44, 3) := by decide +kernel
theorem dX10_addStop_40 : decode cX10_addStop 40 = .ok (.aload_n 0, 1) := by decide +kernel
theorem dX10_addStop_41 : decode cX10_addStop 41 = .ok (.dup, 1) := by decide +kernel
theorem dX10_addStop_42 : decode cX10_addStop 42 = .ok (.getfield 47, 3) := by decide +kernel
theorem dX10_addStop_45 : decode cX10_addStop 45 = .ok (.iconst 1, 1) := by decide +kernel
theorem dX10_addStop_46 : decode cX10_addStop 46 = .ok (.iadd, 1) := by decide +kernel
theorem dX10_addStop_47 : decode cX10_addStop 47 = .ok (.putfield 47, 3) := by decide +kernel
theorem dX10_addStop_50 : decode cX10_addStop 50 = .ok (.return_, 1) := by decide +kernel
theorem dX10_reckon_0 : decode cX10_reckon 0 = .ok (.aload_n 0, 1) := by decide +kernel
theorem dX10_reckon_1 : decode cX10_reckon 1 = .ok (.getfield 31, 3) := by decide +kernel
theorem dX10_reckon_4 : decode cX10_reckon 4 = .ok (.iconst 0, 1) := by decide +kernel
theorem dX10_reckon_5 : decode cX10_reckon 5 = .ok (.iload_n 1, 1) := by decide +kernel
theorem dX10_reckon_6 : decode cX10_reckon 6 = .ok (.iastore, 1) := by decide +kernel
theorem dX10_reckon_7 : decode cX10_reckon 7 = .ok (.aload_n 0, 1) := by decide +kernel
theorem dX10_reckon_8 : decode cX10_reckon 8 = .ok (.getfield 34, 3) := by decide +kernel
theorem dX10_reckon_11 : decode cX10_reckon 11 = .ok (.iconst 0, 1) := by decide +kernel
theorem dX10_reckon_12 : decode cX10_reckon 12 = .ok (.iload_n 1, 1) := by decide +kernel
theorem dX10_reckon_13 : decode cX10_reckon 13 = .ok (.iload_n 2, 1) := by decide +kernel
theorem dX10_reckon_14 : decode cX10_reckon 14 = .ok (.imul, 1) := by decide +kernel
theorem dX10_reckon_15 : decode cX10_reckon 15 = .ok (.iastore, 1) := by decide +kernel
theorem dX10_reckon_16 : decode cX10_reckon 16 = .ok (.aload_n 0, 1) := by decide +kernel
theorem dX10_reckon_17 : decode cX10_reckon 17 = .ok (.getfield 37, 3) := by decide +kernel
theorem dX10_reckon_20 : decode cX10_reckon 20 = .ok (.iconst 0, 1) := by decide +kernel
theorem dX10_reckon_21 : decode cX10_reckon 21 = .ok (.iconst 0, 1) := by decide +kernel
theorem dX10_reckon_22 : decode cX10_reckon 22 = .ok (.iastore, 1) := by decide +kernel
theorem dX10_reckon_23 : decode cX10_reckon 23 = .ok (.iconst 0, 1) := by decide +kernel
theorem dX10_reckon_24 : decode cX10_reckon 24 = .ok (.istore_n 3, 1) := by decide +kernel
theorem dX10_reckon_25 : decode cX10_reckon 25 = .ok (.iload_n 3, 1) := by decide +kernel
theorem dX10_reckon_26 : decode cX10_reckon 26 = .ok (.aload_n 0, 1) := by decide +kernel
theorem dX10_reckon_27 : decode cX10_reckon 27 = .ok (.getfield 40, 3) := by decide +kernel
theorem dX10_reckon_30 : decode cX10_reckon 30 = .ok (.if_icmp .ge 46, 3) := by decide +kernel
theorem dX10_reckon_33 : decode cX10_reckon 33 = .ok (.aload_n 0, 1) := by decide +kernel
theorem dX10_reckon_34 : decode cX10_reckon 34 = .ok (.getfield 31, 3) := by decide +kernel
theorem dX10_reckon_37 : decode cX10_reckon 37 = .ok (.iconst 0, 1) := by decide +kernel
theorem dX10_reckon_38 : decode cX10_reckon 38 = .ok (.dup2, 1) := by decide +kernel
theorem dX10_reckon_39 : decode cX10_reckon 39 = .ok (.iaload, 1) := by decide +kernel
theorem dX10_reckon_40 : decode cX10_reckon 40 = .ok (.aload_n 0, 1) := by decide +kernel
theorem dX10_reckon_41 : decode cX10_reckon 41 = .ok (.getfield 19, 3) := by decide +kernel
theorem dX10_reckon_44 : decode cX10_reckon 44 = .ok (.iload_n 3, 1) := by decide +kernel
theorem dX10_reckon_45 : decode cX10_reckon 45 = .ok (.iaload, 1) := by decide +kernel
theorem dX10_reckon_46 : decode cX10_reckon 46 = .ok (.iadd, 1) := by decide +kernel
theorem dX10_reckon_47 : decode cX10_reckon 47 = .ok (.iastore, 1) := by decide +kernel
theorem dX10_reckon_48 : decode cX10_reckon 48 = .ok (.aload_n 0, 1) := by decide +kernel
theorem dX10_reckon_49 : decode cX10_reckon 49 = .ok (.getfield 34, 3) := by decide +kernel
theorem dX10_reckon_52 : decode cX10_reckon 52 = .ok (.iconst 0, 1) := by decide +kernel
theorem dX10_reckon_53 : decode cX10_reckon 53 = .ok (.dup2, 1) := by decide +kernel
theorem dX10_reckon_54 : decode cX10_reckon 54 = .ok (.iaload, 1) := by decide +kernel
theorem dX10_reckon_55 : decode cX10_reckon 55 = .ok (.aload_n 0, 1) := by decide +kernel
theorem dX10_reckon_56 : decode cX10_reckon 56 = .ok (.getfield 19, 3) := by decide +kernel
theorem dX10_reckon_59 : decode cX10_reckon 59 = .ok (.iload_n 3, 1) := by decide +kernel
theorem dX10_reckon_60 : decode cX10_reckon 60 = .ok (.iaload, 1) := by decide +kernel
theorem dX10_reckon_61 : decode cX10_reckon 61 = .ok (.aload_n 0, 1) := by decide +kernel
theorem dX10_reckon_62 : decode cX10_reckon 62 = .ok (.getfield 15, 3) := by decide +kernel
theorem dX10_reckon_65 : decode cX10_reckon 65 = .ok (.iload_n 3, 1) := by decide +kernel
theorem dX10_reckon_66 : decode cX10_reckon 66 = .ok (.iaload, 1) := by decide +kernel
theorem dX10_reckon_67 : decode cX10_reckon 67 = .ok (.imul, 1) := by decide +kernel
theorem dX10_reckon_68 : decode cX10_reckon 68 = .ok (.iadd, 1) := by decide +kernel
theorem dX10_reckon_69 : decode cX10_reckon 69 = .ok (.iastore, 1) := by decide +kernel
theorem dX10_reckon_70 : decode cX10_reckon 70 = .ok (.iinc 3 1, 3) := by decide +kernel
theorem dX10_reckon_73 : decode cX10_reckon 73 = .ok (.goto (-48), 3) := by decide +kernel
theorem dX10_reckon_76 : decode cX10_reckon 76 = .ok (.iconst 0, 1) := by decide +kernel
theorem dX10_reckon_77 : decode cX10_reckon 77 = .ok (.istore_n 3, 1) := by decide +kernel
theorem dX10_reckon_78 : decode cX10_reckon 78 = .ok (.iload_n 3, 1) := by decide +kernel
theorem dX10_reckon_79 : decode cX10_reckon 79 = .ok (.aload_n 0, 1) := by decide +kernel
theorem dX10_reckon_80 : decode cX10_reckon 80 = .ok (.getfield 44, 3) := by decide +kernel
theorem dX10_reckon_83 : decode cX10_reckon 83 = .ok (.if_icmp .ge 110, 3) := by decide +kernel
theorem dX10_reckon_86 : decode cX10_reckon 86 = .ok (.aload_n 0, 1) := by decide +kernel
theorem dX10_reckon_87 : decode cX10_reckon 87 = .ok (.getfield 25, 3) := by decide +kernel
theorem dX10_reckon_90 : decode cX10_reckon 90 = .ok (.iload_n 3, 1) := by decide +kernel
theorem dX10_reckon_91 : decode cX10_reckon 91 = .ok (.iaload, 1) := by decide +kernel
theorem dX10_reckon_92 : decode cX10_reckon 92 = .ok (.istore 4, 2) := by decide +kernel
theorem dX10_reckon_94 : decode cX10_reckon 94 = .ok (.aload_n 0, 1) := by decide +kernel
theorem dX10_reckon_95 : decode cX10_reckon 95 = .ok (.iload 4, 2) := by decide +kernel
theorem dX10_reckon_97 : decode cX10_reckon 97 = .ok (.invokevirtual 56, 3) := by decide +kernel
theorem dX10_reckon_100 : decode cX10_reckon 100 = .ok (.ifCond .eq 13, 3) := by decide +kernel
theorem dX10_reckon_103 : decode cX10_reckon 103 = .ok (.aload_n 0, 1) := by decide +kernel
theorem dX10_reckon_104 : decode cX10_reckon 104 = .ok (.getfield 15, 3) := by decide +kernel
theorem dX10_reckon_107 : decode cX10_reckon 107 = .ok (.iload 4, 2) := by decide +kernel
theorem dX10_reckon_109 : decode cX10_reckon 109 = .ok (.iaload, 1) := by decide +kernel
theorem dX10_reckon_110 : decode cX10_reckon 110 = .ok (.goto 4, 3) := by decide +kernel
theorem dX10_reckon_113 : decode cX10_reckon 113 = .ok (.iconst 0, 1) := by decide +kernel
theorem dX10_reckon_114 : decode cX10_reckon 114 = .ok (.istore 5, 2) := by decide +kernel
theorem dX10_reckon_116 : decode cX10_reckon 116 = .ok (.aload_n 0, 1) := by decide +kernel
theorem dX10_reckon_117 : decode cX10_reckon 117 = .ok (.getfield 31, 3) := by decide +kernel
theorem dX10_reckon_120 : decode cX10_reckon 120 = .ok (.iload_n 3, 1) := by decide +kernel
theorem dX10_reckon_121 : decode cX10_reckon 121 = .ok (.iconst 1, 1) := by decide +kernel
theorem dX10_reckon_122 : decode cX10_reckon 122 = .ok (.iadd, 1) := by decide +kernel
theorem dX10_reckon_123 : decode cX10_reckon 123 = .ok (.aload_n 0, 1) := by decide +kernel
theorem dX10_reckon_124 : decode cX10_reckon 124 = .ok (.getfield 31, 3) := by decide +kernel
theorem dX10_reckon_127 : decode cX10_reckon 127 = .ok (.iload_n 3, 1) := by decide +kernel
theorem dX10_reckon_128 : decode cX10_reckon 128 = .ok (.iaload, 1) := by decide +kernel
theorem dX10_reckon_129 : decode cX10_reckon 129 = .ok (.aload_n 0, 1) := by decide +kernel
theorem dX10_reckon_130 : decode cX10_reckon 130 = .ok (.getfield 28, 3) := by decide +kernel
theorem dX10_reckon_133 : decode cX10_reckon 133 = .ok (.iload_n 3, 1) := by decide +kernel
theorem dX10_reckon_134 : decode cX10_reckon 134 = .ok (.iaload, 1) := by decide +kernel
theorem dX10_reckon_135 : decode cX10_reckon 135 = .ok (.isub, 1) := by decide +kernel
theorem dX10_reckon_136 : decode cX10_reckon 136 = .ok (.iastore, 1) := by decide +kernel
theorem dX10_reckon_137 : decode cX10_reckon 137 = .ok (.aload_n 0, 1) := by decide +kernel
theorem dX10_reckon_138 : decode cX10_reckon 138 = .ok (.getfield 34, 3) := by decide +kernel
theorem dX10_reckon_141 : decode cX10_reckon 141 = .ok (.iload_n 3, 1) := by decide +kernel
theorem dX10_reckon_142 : decode cX10_reckon 142 = .ok (.iconst 1, 1) := by decide +kernel
theorem dX10_reckon_143 : decode cX10_reckon 143 = .ok (.iadd, 1) := by decide +kernel
theorem dX10_reckon_144 : decode cX10_reckon 144 = .ok (.aload_n 0, 1) := by decide +kernel
theorem dX10_reckon_145 : decode cX10_reckon 145 = .ok (.getfield 34, 3) := by decide +kernel
theorem dX10_reckon_148 : decode cX10_reckon 148 = .ok (.iload_n 3, 1) := by decide +kernel
theorem dX10_reckon_149 : decode cX10_reckon 149 = .ok (.iaload, 1) := by decide +kernel
theorem dX10_reckon_150 : decode cX10_reckon 150 = .ok (.aload_n 0, 1) := by decide +kernel
theorem dX10_reckon_151 : decode cX10_reckon 151 = .ok (.getfield 28, 3) := by decide +kernel
theorem dX10_reckon_154 : decode cX10_reckon 154 = .ok (.iload_n 3, 1) := by decide +kernel
theorem dX10_reckon_155 : decode cX10_reckon 155 = .ok (.iaload, 1) := by decide +kernel
theorem dX10_reckon_156 : decode cX10_reckon 156 = .ok (.iload 5, 2) := by decide +kernel
theorem dX10_reckon_158 : decode cX10_reckon 158 = .ok (.imul, 1) := by decide +kernel
theorem dX10_reckon_159 : decode cX10_reckon 159 = .ok (.isub, 1) := by decide +kernel
theorem dX10_reckon_160 : decode cX10_reckon 160 = .ok (.iastore, 1) := by decide +kernel
theorem dX10_reckon_161 : decode cX10_reckon 161 = .ok (.aload_n 0, 1) := by decide +kernel
theorem dX10_reckon_162 : decode cX10_reckon 162 = .ok (.getfield 37, 3) := by decide +kernel
theorem dX10_reckon_165 : decode cX10_reckon 165 = .ok (.iload_n 3, 1) := by decide +kernel
theorem dX10_reckon_166 : decode cX10_reckon 166 = .ok (.iconst 1, 1) := by decide +kernel
theorem dX10_reckon_167 : decode cX10_reckon 167 = .ok (.iadd, 1) := by decide +kernel
theorem dX10_reckon_168 : decode cX10_reckon 168 = .ok (.aload_n 0, 1) := by decide +kernel
theorem dX10_reckon_169 : decode cX10_reckon 169 = .ok (.getfield 37, 3) := by decide +kernel
theorem dX10_reckon_172 : decode cX10_reckon 172 = .ok (.iload_n 3, 1) := by decide +kernel
theorem dX10_reckon_173 : decode cX10_reckon 173 = .ok (.iaload, 1) := by decide +kernel
theorem dX10_reckon_174 : decode cX10_reckon 174 = .ok (.iload 4, 2) := by decide +kernel
theorem dX10_reckon_176 : decode cX10_reckon 176 = .ok (.iconst (-1), 1) := by decide +kernel
theorem dX10_reckon_177 : decode cX10_reckon 177 = .ok (.if_icmp .ne 7, 3) := by decide +kernel
theorem dX10_reckon_180 : decode cX10_reckon 180 = .ok (.iconst 1, 1) := by decide +kernel
theorem dX10_reckon_181 : decode cX10_reckon 181 = .ok (.goto 4, 3) := by decide +kernel
theorem dX10_reckon_184 : decode cX10_reckon 184 = .ok (.iconst 0, 1) := by decide +kernel
theorem dX10_reckon_185 : decode cX10_reckon 185 = .ok (.iadd, 1) := by decide +kernel
theorem dX10_reckon_186 : decode cX10_reckon 186 = .ok (.iastore, 1) := by decide +kernel
theorem dX10_reckon_187 : decode cX10_reckon 187 = .ok (.iinc 3 1, 3) := by decide +kernel
theorem dX10_reckon_190 : decode cX10_reckon 190 = .ok (.goto (-112), 3) := by decide +kernel
theorem dX10_reckon_193 : decode cX10_reckon 193 = .ok (.return_, 1) := by decide +kernel
theorem dX11_init_0 : decode cX11_init 0 = .ok (.aload_n 0, 1) := by decide +kernel
theorem dX11_init_1 : decode cX11_init 1 = .ok (.invokespecial 1, 3) := by decide +kernel
theorem dX11_init_4 : decode cX11_init 4 = .ok (.aload_n 0, 1) := by decide +kernel
theorem dX11_init_5 : decode cX11_init 5 = .ok (.new 7, 3) := by decide +kernel
theorem dX11_init_8 : decode cX11_init 8 = .ok (.dup, 1) := by decide +kernel
theorem dX11_init_9 : decode cX11_init 9 = .ok (.invokespecial 9, 3) := by decide +kernel
theorem dX11_init_12 : decode cX11_init 12 = .ok (.putfield 10, 3) := by decide +kernel
theorem dX11_init_15 : decode cX11_init 15 = .ok (.aload_n 0, 1) := by decide +kernel
theorem dX11_init_16 : decode cX11_init 16 = .ok (.new 16, 3) := by decide +kernel
theorem dX11_init_19 : decode cX11_init 19 = .ok (.dup, 1) := by decide +kernel
theorem dX11_init_20 : decode cX11_init 20 = .ok (.invokespecial 18, 3) := by decide +kernel
theorem dX11_init_23 : decode cX11_init 23 = .ok (.putfield 19, 3) := by decide +kernel
theorem dX11_init_26 : decode cX11_init 26 = .ok (.aload_n 0, 1) := by decide +kernel
theorem dX11_init_27 : decode cX11_init 27 = .ok (.new 16, 3) := by decide +kernel
theorem dX11_init_30 : decode cX11_init 30 = .ok (.dup, 1) := by decide +kernel
theorem dX11_init_31 : decode cX11_init 31 = .ok (.invokespecial 18, 3) := by decide +kernel
theorem dX11_init_34 : decode cX11_init 34 = .ok (.putfield 23, 3) := by decide +kernel
theorem dX11_init_37 : decode cX11_init 37 = .ok (.aload_n 0, 1) := by decide +kernel
theorem dX11_init_38 : decode cX11_init 38 = .ok (.new 26, 3) := by decide +kernel
theorem dX11_init_41 : decode cX11_init 41 = .ok (.dup, 1) := by decide +kernel
theorem dX11_init_42 : decode cX11_init 42 = .ok (.invokespecial 28, 3) := by decide +kernel
theorem dX11_init_45 : decode cX11_init 45 = .ok (.putfield 29, 3) := by decide +kernel
theorem dX11_init_48 : decode cX11_init 48 = .ok (.aload_n 0, 1) := by decide +kernel
theorem dX11_init_49 : decode cX11_init 49 = .ok (.new 26, 3) := by decide +kernel
theorem dX11_init_52 : decode cX11_init 52 = .ok (.dup, 1) := by decide +kernel
theorem dX11_init_53 : decode cX11_init 53 = .ok (.invokespecial 28, 3) := by decide +kernel
theorem dX11_init_56 : decode cX11_init 56 = .ok (.putfield 33, 3) := by decide +kernel
theorem dX11_init_59 : decode cX11_init 59 = .ok (.aload_n 0, 1) := by decide +kernel
theorem dX11_init_60 : decode cX11_init 60 = .ok (.new 36, 3) := by decide +kernel
theorem dX11_init_63 : decode cX11_init 63 = .ok (.dup, 1) := by decide +kernel
theorem dX11_init_64 : decode cX11_init 64 = .ok (.invokespecial 38, 3) := by decide +kernel
theorem dX11_init_67 : decode cX11_init 67 = .ok (.putfield 39, 3) := by decide +kernel
theorem dX11_init_70 : decode cX11_init 70 = .ok (.aload_n 0, 1) := by decide +kernel
theorem dX11_init_71 : decode cX11_init 71 = .ok (.new 43, 3) := by decide +kernel
theorem dX11_init_74 : decode cX11_init 74 = .ok (.dup, 1) := by decide +kernel
theorem dX11_init_75 : decode cX11_init 75 = .ok (.invokespecial 45, 3) := by decide +kernel
theorem dX11_init_78 : decode cX11_init 78 = .ok (.putfield 46, 3) := by decide +kernel
theorem dX11_init_81 : decode cX11_init 81 = .ok (.aload_n 0, 1) := by decide +kernel
theorem dX11_init_82 : decode cX11_init 82 = .ok (.new 43, 3) := by decide +kernel
theorem dX11_init_85 : decode cX11_init 85 = .ok (.dup, 1) := by decide +kernel
theorem dX11_init_86 : decode cX11_init 86 = .ok (.invokespecial 45, 3) := by decide +kernel
theorem dX11_init_89 : decode cX11_init 89 = .ok (.putfield 50, 3) := by decide +kernel
theorem dX11_init_92 : decode cX11_init 92 = .ok (.aload_n 0, 1) := by decide +kernel
theorem dX11_init_93 : decode cX11_init 93 = .ok (.new 53, 3) := by decide +kernel
theorem dX11_init_96 : decode cX11_init 96 = .ok (.dup, 1) := by decide +kernel
theorem dX11_init_97 : decode cX11_init 97 = .ok (.invokespecial 55, 3) := by decide +kernel
theorem dX11_init_100 : decode cX11_init 100 = .ok (.putfield 56, 3) := by decide +kernel
theorem dX11_init_103 : decode cX11_init 103 = .ok (.aload_n 0, 1) := by decide +kernel
theorem dX11_init_104 : decode cX11_init 104 = .ok (.new 60, 3) := by decide +kernel
theorem dX11_init_107 : decode cX11_init 107 = .ok (.dup, 1) := by decide +kernel
theorem dX11_init_108 : decode cX11_init 108 = .ok (.invokespecial 62, 3) := by decide +kernel
theorem dX11_init_111 : decode cX11_init 111 = .ok (.putfield 63, 3) := by decide +kernel
theorem dX11_init_114 : decode cX11_init 114 = .ok (.return_, 1) := by decide +kernel
theorem dX11_feed_0 : decode cX11_feed 0 = .ok (.aload_n 0, 1) := by decide +kernel
theorem dX11_feed_1 : decode cX11_feed 1 = .ok (.getfield 10, 3) := by decide +kernel
theorem dX11_feed_4 : decode cX11_feed 4 = .ok (.getfield 67, 3) := by decide +kernel
theorem dX11_feed_7 : decode cX11_feed 7 = .ok (.astore 6, 2) := by decide +kernel
theorem dX11_feed_9 : decode cX11_feed 9 = .ok (.aload 6, 2) := by decide +kernel
theorem dX11_feed_11 : decode cX11_feed 11 = .ok (.getfield 71, 3) := by decide +kernel
theorem dX11_feed_14 : decode cX11_feed 14 = .ok (.bipush 20, 2) := by decide +kernel
theorem dX11_feed_16 : decode cX11_feed 16 = .ok (.iadd, 1) := by decide +kernel
theorem dX11_feed_17 : decode cX11_feed 17 = .ok (.sipush 540, 3) := by decide +kernel
theorem dX11_feed_20 : decode cX11_feed 20 = .ok (.if_icmp .le 5, 3) := by decide +kernel
theorem dX11_feed_23 : decode cX11_feed 23 = .ok (.iconst (-1), 1) := by decide +kernel
theorem dX11_feed_24 : decode cX11_feed 24 = .ok (.ireturn, 1) := by decide +kernel
theorem dX11_feed_25 : decode cX11_feed 25 = .ok (.aload 6, 2) := by decide +kernel
theorem dX11_feed_27 : decode cX11_feed 27 = .ok (.iload_n 1, 1) := by decide +kernel
theorem dX11_feed_28 : decode cX11_feed 28 = .ok (.invokevirtual 77, 3) := by decide +kernel
theorem dX11_feed_31 : decode cX11_feed 31 = .ok (.aload 6, 2) := by decide +kernel
theorem dX11_feed_33 : decode cX11_feed 33 = .ok (.iload_n 2, 1) := by decide +kernel
theorem dX11_feed_34 : decode cX11_feed 34 = .ok (.invokevirtual 77, 3) := by decide +kernel
theorem dX11_feed_37 : decode cX11_feed 37 = .ok (.aload 6, 2) := by decide +kernel
theorem dX11_feed_39 : decode cX11_feed 39 = .ok (.iload_n 3, 1) := by decide +kernel
theorem dX11_feed_40 : decode cX11_feed 40 = .ok (.invokevirtual 77, 3) := by decide +kernel
theorem dX11_feed_43 : decode cX11_feed 43 = .ok (.aload 6, 2) := by decide +kernel
theorem dX11_feed_45 : decode cX11_feed 45 = .ok (.iload 4, 2) := by decide +kernel
theorem dX11_feed_47 : decode cX11_feed 47 = .ok (.invokevirtual 77, 3) := by decide +kernel
theorem dX11_feed_50 : decode cX11_feed 50 = .ok (.aload 6, 2) := by decide +kernel
theorem dX11_feed_52 : decode cX11_feed 52 = .ok (.iload 5, 2) := by decide +kernel
theorem dX11_feed_54 : decode cX11_feed 54 = .ok (.invokevirtual 77, 3) := by decide +kernel
theorem dX11_feed_57 : decode cX11_feed 57 = .ok (.aload 6, 2) := by decide +kernel
theorem dX11_feed_59 : decode cX11_feed 59 = .ok (.getfield 71, 3) := by decide +kernel
theorem dX11_feed_62 : decode cX11_feed 62 = .ok (.ireturn, 1) := by decide +kernel
theorem dX11_end_0 : decode cX11_end 0 = .ok (.iload_n 1, 1) := by decide +kernel
theorem dX11_end_1 : decode cX11_end 1 = .ok (.ifCond .lt 17, 3) := by decide +kernel
theorem dX11_end_4 : decode cX11_end 4 = .ok (.iload_n 1, 1) := by decide +kernel
theorem dX11_end_5 : decode cX11_end 5 = .ok (.aload_n 0, 1) := by decide +kernel
theorem dX11_end_6 : decode cX11_end 6 = .ok (.getfield 10, 3) := by decide +kernel
theorem dX11_end_9 : decode cX11_end 9 = .ok (.getfield 67, 3) := by decide +kernel
theorem dX11_end_12 : decode cX11_end 12 = .ok (.getfield 71, 3) := by decide +kernel
theorem dX11_end_15 : decode cX11_end 15 = .ok (.if_icmp .le 5, 3) := by decide +kernel
theorem dX11_end_18 : decode cX11_end 18 = .ok (.iconst 0, 1) := by decide +kernel
theorem dX11_end_19 : decode cX11_end 19 = .ok (.ireturn, 1) := by decide +kernel
theorem dX11_end_20 : decode cX11_end 20 = .ok (.aload_n 0, 1) := by decide +kernel
theorem dX11_end_21 : decode cX11_end 21 = .ok (.getfield 10, 3) := by decide +kernel
theorem dX11_end_24 : decode cX11_end 24 = .ok (.getfield 67, 3) := by decide +kernel
theorem dX11_end_27 : decode cX11_end 27 = .ok (.iload_n 1, 1) := by decide +kernel
theorem dX11_end_28 : decode cX11_end 28 = .ok (.putfield 71, 3) := by decide +kernel
theorem dX11_end_31 : decode cX11_end 31 = .ok (.iconst 1, 1) := by decide +kernel
theorem dX11_end_32 : decode cX11_end 32 = .ok (.ireturn, 1) := by decide +kernel
theorem dX11_plane_0 : decode cX11_plane 0 = .ok (.aload_n 0, 1) := by decide +kernel
theorem dX11_plane_1 : decode cX11_plane 1 = .ok (.getfield 10, 3) := by decide +kernel
theorem dX11_plane_4 : decode cX11_plane 4 = .ok (.aload_n 0, 1) := by decide +kernel
theorem dX11_plane_5 : decode cX11_plane 5 = .ok (.getfield 23, 3) := by decide +kernel
theorem dX11_plane_8 : decode cX11_plane 8 = .ok (.invokevirtual 81, 3) := by decide +kernel
theorem dX11_plane_11 : decode cX11_plane 11 = .ok (.aload_n 0, 1) := by decide +kernel
theorem dX11_plane_12 : decode cX11_plane 12 = .ok (.aload_n 0, 1) := by decide +kernel
theorem dX11_plane_13 : decode cX11_plane 13 = .ok (.getfield 10, 3) := by decide +kernel
theorem dX11_plane_16 : decode cX11_plane 16 = .ok (.getfield 67, 3) := by decide +kernel
theorem dX11_plane_19 : decode cX11_plane 19 = .ok (.getfield 85, 3) := by decide +kernel
theorem dX11_plane_22 : decode cX11_plane 22 = .ok (.putfield 88, 3) := by decide +kernel
theorem dX11_plane_25 : decode cX11_plane 25 = .ok (.aload_n 0, 1) := by decide +kernel
theorem dX11_plane_26 : decode cX11_plane 26 = .ok (.getfield 88, 3) := by decide +kernel
theorem dX11_plane_29 : decode cX11_plane 29 = .ok (.ifCond .eq 18, 3) := by decide +kernel
theorem dX11_plane_32 : decode cX11_plane 32 = .ok (.sipush (-1000), 3) := by decide +kernel
theorem dX11_plane_35 : decode cX11_plane 35 = .ok (.aload_n 0, 1) := by decide +kernel
theorem dX11_plane_36 : decode cX11_plane 36 = .ok (.getfield 10, 3) := by decide +kernel
theorem dX11_plane_39 : decode cX11_plane 39 = .ok (.getfield 67, 3) := by decide +kernel
theorem dX11_plane_42 : decode cX11_plane 42 = .ok (.getfield 91, 3) := by decide +kernel
theorem dX11_plane_45 : decode cX11_plane 45 = .ok (.isub, 1) := by decide +kernel
theorem dX11_plane_46 : decode cX11_plane 46 = .ok (.ireturn, 1) := by decide +kernel
theorem dX11_plane_47 : decode cX11_plane 47 = .ok (.aload_n 0, 1) := by decide +kernel
theorem dX11_plane_48 : decode cX11_plane 48 = .ok (.getfield 19, 3) := by decide +kernel
theorem dX11_plane_51 : decode cX11_plane 51 = .ok (.astore_n 1, 1) := by decide +kernel
theorem dX11_plane_52 : decode cX11_plane 52 = .ok (.aload_n 0, 1) := by decide +kernel
theorem dX11_plane_53 : decode cX11_plane 53 = .ok (.aload_n 0, 1) := by decide +kernel
theorem dX11_plane_54 : decode cX11_plane 54 = .ok (.getfield 23, 3) := by decide +kernel
theorem dX11_plane_57 : decode cX11_plane 57 = .ok (.putfield 19, 3) := by decide +kernel
theorem dX11_plane_60 : decode cX11_plane 60 = .ok (.aload_n 0, 1) := by decide +kernel
theorem dX11_plane_61 : decode cX11_plane 61 = .ok (.aload_n 1, 1) := by decide +kernel
theorem dX11_plane_62 : decode cX11_plane 62 = .ok (.putfield 23, 3) := by decide +kernel
theorem dX11_plane_65 : decode cX11_plane 65 = .ok (.aload_n 0, 1) := by decide +kernel
theorem dX11_plane_66 : decode cX11_plane 66 = .ok (.invokevirtual 94, 3) := by decide +kernel
theorem dX11_plane_69 : decode cX11_plane 69 = .ok (.aload_n 0, 1) := by decide +kernel
theorem dX11_plane_70 : decode cX11_plane 70 = .ok (.getfield 19, 3) := by decide +kernel
theorem dX11_plane_73 : decode cX11_plane 73 = .ok (.getfield 97, 3) := by decide +kernel
theorem dX11_plane_76 : decode cX11_plane 76 = .ok (.getfield 101, 3) := by decide +kernel
theorem dX11_plane_79 : decode cX11_plane 79 = .ok (.ireturn, 1) := by decide +kernel
theorem dX11_cargo_0 : decode cX11_cargo 0 = .ok (.aload_n 0, 1) := by decide +kernel
theorem dX11_cargo_1 : decode cX11_cargo 1 = .ok (.getfield 10, 3) := by decide +kernel
theorem dX11_cargo_4 : decode cX11_cargo 4 = .ok (.aload_n 0, 1) := by decide +kernel
theorem dX11_cargo_5 : decode cX11_cargo 5 = .ok (.getfield 33, 3) := by decide +kernel
theorem dX11_cargo_8 : decode cX11_cargo 8 = .ok (.invokevirtual 106, 3) := by decide +kernel
theorem dX11_cargo_11 : decode cX11_cargo 11 = .ok (.aload_n 0, 1) := by decide +kernel
theorem dX11_cargo_12 : decode cX11_cargo 12 = .ok (.aload_n 0, 1) := by decide +kernel
theorem dX11_cargo_13 : decode cX11_cargo 13 = .ok (.getfield 10, 3) := by decide +kernel
theorem dX11_cargo_16 : decode cX11_cargo 16 = .ok (.getfield 67, 3) := by decide +kernel
theorem dX11_cargo_19 : decode cX11_cargo 19 = .ok (.getfield 85, 3) := by decide +kernel
theorem dX11_cargo_22 : decode cX11_cargo 22 = .ok (.putfield 88, 3) := by decide +kernel
theorem dX11_cargo_25 : decode cX11_cargo 25 = .ok (.aload_n 0, 1) := by decide +kernel
theorem dX11_cargo_26 : decode cX11_cargo 26 = .ok (.getfield 88, 3) := by decide +kernel
theorem dX11_cargo_29 : decode cX11_cargo 29 = .ok (.ifCond .eq 18, 3) := by decide +kernel
theorem dX11_cargo_32 : decode cX11_cargo 32 = .ok (.sipush (-1000), 3) := by decide +kernel
theorem dX11_cargo_35 : decode cX11_cargo 35 = .ok (.aload_n 0, 1) := by decide +kernel
theorem dX11_cargo_36 : decode cX11_cargo 36 = .ok (.getfield 10, 3) := by decide +kernel
theorem dX11_cargo_39 : decode cX11_cargo 39 = .ok (.getfield 67, 3) := by decide +kernel
theorem dX11_cargo_42 : decode cX11_cargo 42 = .ok (.getfield 91, 3) := by decide +kernel
theorem dX11_cargo_45 : decode cX11_cargo 45 = .ok (.isub, 1) := by decide +kernel
theorem dX11_cargo_46 : decode cX11_cargo 46 = .ok (.ireturn, 1) := by decide +kernel
theorem dX11_cargo_47 : decode cX11_cargo 47 = .ok (.aload_n 0, 1) := by decide +kernel
theorem dX11_cargo_48 : decode cX11_cargo 48 = .ok (.getfield 29, 3) := by decide +kernel
theorem dX11_cargo_51 : decode cX11_cargo 51 = .ok (.astore_n 1, 1) := by decide +kernel
theorem dX11_cargo_52 : decode cX11_cargo 52 = .ok (.aload_n 0, 1) := by decide +kernel
theorem dX11_cargo_53 : decode cX11_cargo 53 = .ok (.aload_n 0, 1) := by decide +kernel
theorem dX11_cargo_54 : decode cX11_cargo 54 = .ok (.getfield 33, 3) := by decide +kernel
theorem dX11_cargo_57 : decode cX11_cargo 57 = .ok (.putfield 29, 3) := by decide +kernel
theorem dX11_cargo_60 : decode cX11_cargo 60 = .ok (.aload_n 0, 1) := by decide +kernel
theorem dX11_cargo_61 : decode cX11_cargo 61 = .ok (.aload_n 1, 1) := by decide +kernel
theorem dX11_cargo_62 : decode cX11_cargo 62 = .ok (.putfield 33, 3) := by decide +kernel
theorem dX11_cargo_65 : decode cX11_cargo 65 = .ok (.aload_n 0, 1) := by decide +kernel
theorem dX11_cargo_66 : decode cX11_cargo 66 = .ok (.invokevirtual 94, 3) := by decide +kernel
theorem dX11_cargo_69 : decode cX11_cargo 69 = .ok (.aload_n 0, 1) := by decide +kernel
theorem dX11_cargo_70 : decode cX11_cargo 70 = .ok (.getfield 29, 3) := by decide +kernel
theorem dX11_cargo_73 : decode cX11_cargo 73 = .ok (.getfield 110, 3) := by decide +kernel
theorem dX11_cargo_76 : decode cX11_cargo 76 = .ok (.ireturn, 1) := by decide +kernel
theorem dX11_fault_0 : decode cX11_fault 0 = .ok (.aload_n 0, 1) := by decide +kernel
theorem dX11_fault_1 : decode cX11_fault 1 = .ok (.getfield 88, 3) := by decide +kernel
theorem dX11_fault_4 : decode cX11_fault 4 = .ok (.ireturn, 1) := by decide +kernel
theorem dX11_count_0 : decode cX11_count 0 = .ok (.iload_n 1, 1) := by decide +kernel
theorem dX11_count_1 : decode cX11_count 1 = .ok (.tableswitch 168 0 10 #[59, 70, 81, 92, 100, 111, 122, 133, 141, 149, 157], 59) := by decide +kernel
theorem dX11_count_60 : decode cX11_count 60 = .ok (.aload_n 0, 1) := by decide +kernel
theorem dX11_count_61 : decode cX11_count 61 = .ok (.getfield 19, 3) := by decide +kernel
theorem dX11_count_64 : decode cX11_count 64 = .ok (.getfield 97, 3) := by decide +kernel
theorem dX11_count_67 : decode cX11_count 67 = .ok (.getfield 113, 3) := by decide +kernel
theorem dX11_count_70 : decode cX11_count 70 = .ok (.ireturn, 1) := by decide +kernel
theorem dX11_count_71 : decode cX11_count 71 = .ok (.aload_n 0, 1) := by decide +kernel
theorem dX11_count_72 : decode cX11_count 72 = .ok (.getfield 19, 3) := by decide +kernel
theorem dX11_count_75 : decode cX11_count 75 = .ok (.getfield 97, 3) := by decide +kernel
theorem dX11_count_78 : decode cX11_count 78 = .ok (.getfield 101, 3) := by decide +kernel
theorem dX11_count_81 : decode cX11_count 81 = .ok (.ireturn, 1) := by decide +kernel
theorem dX11_count_82 : decode cX11_count 82 = .ok (.aload_n 0, 1) := by decide +kernel
theorem dX11_count_83 : decode cX11_count 83 = .ok (.getfield 19, 3) := by decide +kernel
theorem dX11_count_86 : decode cX11_count 86 = .ok (.getfield 97, 3) := by decide +kernel
theorem dX11_count_89 : decode cX11_count 89 = .ok (.getfield 116, 3) := by decide +kernel
theorem dX11_count_92 : decode cX11_count 92 = .ok (.ireturn, 1) := by decide +kernel
theorem dX11_count_93 : decode cX11_count 93 = .ok (.aload_n 0, 1) := by decide +kernel
theorem dX11_count_94 : decode cX11_count 94 = .ok (.getfield 19, 3) := by decide +kernel
theorem dX11_count_97 : decode cX11_count 97 = .ok (.getfield 119, 3) := by decide +kernel
theorem dX11_count_100 : decode cX11_count 100 = .ok (.ireturn, 1) := by decide +kernel
theorem dX11_count_101 : decode cX11_count 101 = .ok (.aload_n 0, 1) := by decide +kernel
theorem dX11_count_102 : decode cX11_count 102 = .ok (.getfield 19, 3) := by decide +kernel
theorem dX11_count_105 : decode cX11_count 105 = .ok (.getfield 122, 3) := by decide +kernel
theorem dX11_count_108 : decode cX11_count 108 = .ok (.getfield 126, 3) := by decide +kernel
theorem dX11_count_111 : decode cX11_count 111 = .ok (.ireturn, 1) := by decide +kernel
theorem dX11_count_112 : decode cX11_count 112 = .ok (.aload_n 0, 1) := by decide +kernel
theorem dX11_count_113 : decode cX11_count 113 = .ok (.getfield 19, 3) := by decide +kernel
theorem dX11_count_116 : decode cX11_count 116 = .ok (.getfield 122, 3) := by decide +kernel
theorem dX11_count_119 : decode cX11_count 119 = .ok (.getfield 131, 3) := by decide +kernel
theorem dX11_count_122 : decode cX11_count 122 = .ok (.ireturn, 1) := by decide +kernel
theorem dX11_count_123 : decode cX11_count 123 = .ok (.aload_n 0, 1) := by decide +kernel
theorem dX11_count_124 : decode cX11_count 124 = .ok (.getfield 19, 3) := by decide +kernel
theorem dX11_count_127 : decode cX11_count 127 = .ok (.getfield 122, 3) := by decide +kernel
theorem dX11_count_130 : decode cX11_count 130 = .ok (.getfield 134, 3) := by decide +kernel
theorem dX11_count_133 : decode cX11_count 133 = .ok (.ireturn, 1) := by decide +kernel
theorem dX11_count_134 : decode cX11_count 134 = .ok (.aload_n 0, 1) := by decide +kernel
theorem dX11_count_135 : decode cX11_count 135 = .ok (.getfield 29, 3) := by decide +kernel
theorem dX11_count_138 : decode cX11_count 138 = .ok (.getfield 110, 3) := by decide +kernel
theorem dX11_count_141 : decode cX11_count 141 = .ok (.ireturn, 1) := by decide +kernel
theorem dX11_count_142 : decode cX11_count 142 = .ok (.aload_n 0, 1) := by decide +kernel
theorem dX11_count_143 : decode cX11_count 143 = .ok (.getfield 29, 3) := by decide +kernel
theorem dX11_count_146 : decode cX11_count 146 = .ok (.getfield 137, 3) := by decide +kernel
theorem dX11_count_149 : decode cX11_count 149 = .ok (.ireturn, 1) := by decide +kernel
theorem dX11_count_150 : decode cX11_count 150 = .ok (.aload_n 0, 1) := by decide +kernel
theorem dX11_count_151 : decode cX11_count 151 = .ok (.getfield 29, 3) := by decide +kernel
theorem dX11_count_154 : decode cX11_count 154 = .ok (.invokevirtual 140, 3) := by decide +kernel
theorem dX11_count_157 : decode cX11_count 157 = .ok (.ireturn, 1) := by decide +kernel
theorem dX11_count_158 : decode cX11_count 158 = .ok (.aload_n 0, 1) := by decide +kernel
theorem dX11_count_159 : decode cX11_count 159 = .ok (.getfield 10, 3) := by decide +kernel
theorem dX11_count_162 : decode cX11_count 162 = .ok (.getfield 67, 3) := by decide +kernel
theorem dX11_count_165 : decode cX11_count 165 = .ok (.getfield 71, 3) := by decide +kernel
theorem dX11_count_168 : decode cX11_count 168 = .ok (.ireturn, 1) := by decide +kernel
theorem dX11_count_169 : decode cX11_count 169 = .ok (.iconst (-1), 1) := by decide +kernel
theorem dX11_count_170 : decode cX11_count 170 = .ok (.ireturn, 1) := by decide +kernel
theorem dX11_pallet_0 : decode cX11_pallet 0 = .ok (.aload_n 0, 1) := by decide +kernel
theorem dX11_pallet_1 : decode cX11_pallet 1 = .ok (.getfield 29, 3) := by decide +kernel
theorem dX11_pallet_4 : decode cX11_pallet 4 = .ok (.iload_n 1, 1) := by decide +kernel
theorem dX11_pallet_5 : decode cX11_pallet 5 = .ok (.invokevirtual 144, 3) := by decide +kernel
theorem dX11_pallet_8 : decode cX11_pallet 8 = .ok (.ifCond .ne 5, 3) := by decide +kernel
theorem dX11_pallet_11 : decode cX11_pallet 11 = .ok (.iconst (-1), 1) := by decide +kernel
theorem dX11_pallet_12 : decode cX11_pallet 12 = .ok (.ireturn, 1) := by decide +kernel
theorem dX11_pallet_13 : decode cX11_pallet 13 = .ok (.iload_n 2, 1) := by decide +kernel
theorem dX11_pallet_14 : decode cX11_pallet 14 = .ok (.tableswitch 73 0 3 #[30, 40, 50, 60], 30) := by decide +kernel
theorem dX11_pallet_44 : decode cX11_pallet 44 = .ok (.aload_n 0, 1) := by decide +kernel
theorem dX11_pallet_45 : decode cX11_pallet 45 = .ok (.getfield 29, 3) := by decide +kernel
theorem dX11_pallet_48 : decode cX11_pallet 48 = .ok (.getfield 148, 3) := by decide +kernel
theorem dX11_pallet_51 : decode cX11_pallet 51 = .ok (.iload_n 1, 1) := by decide +kernel
theorem dX11_pallet_52 : decode cX11_pallet 52 = .ok (.iaload, 1) := by decide +kernel
theorem dX11_pallet_53 : decode cX11_pallet 53 = .ok (.ireturn, 1) := by decide +kernel
theorem dX11_pallet_54 : decode cX11_pallet 54 = .ok (.aload_n 0, 1) := by decide +kernel
theorem dX11_pallet_55 : decode cX11_pallet 55 = .ok (.getfield 29, 3) := by decide +kernel
theorem dX11_pallet_58 : decode cX11_pallet 58 = .ok (.getfield 152, 3) := by decide +kernel
theorem dX11_pallet_61 : decode cX11_pallet 61 = .ok (.iload_n 1, 1) := by decide +kernel
theorem dX11_pallet_62 : decode cX11_pallet 62 = .ok (.iaload, 1) := by decide +kernel
theorem dX11_pallet_63 : decode cX11_pallet 63 = .ok (.ireturn, 1) := by decide +kernel
theorem dX11_pallet_64 : decode cX11_pallet 64 = .ok (.aload_n 0, 1) := by decide +kernel
theorem dX11_pallet_65 : decode cX11_pallet 65 = .ok (.getfield 29, 3) := by decide +kernel
theorem dX11_pallet_68 : decode cX11_pallet 68 = .ok (.getfield 155, 3) := by decide +kernel
theorem dX11_pallet_71 : decode cX11_pallet 71 = .ok (.iload_n 1, 1) := by decide +kernel
theorem dX11_pallet_72 : decode cX11_pallet 72 = .ok (.iaload, 1) := by decide +kernel
theorem dX11_pallet_73 : decode cX11_pallet 73 = .ok (.ireturn, 1) := by decide +kernel
theorem dX11_pallet_74 : decode cX11_pallet 74 = .ok (.aload_n 0, 1) := by decide +kernel
theorem dX11_pallet_75 : decode cX11_pallet 75 = .ok (.getfield 29, 3) := by decide +kernel
theorem dX11_pallet_78 : decode cX11_pallet 78 = .ok (.getfield 158, 3) := by decide +kernel
theorem dX11_pallet_81 : decode cX11_pallet 81 = .ok (.iload_n 1, 1) := by decide +kernel
theorem dX11_pallet_82 : decode cX11_pallet 82 = .ok (.laload, 1) := by decide +kernel
theorem dX11_pallet_83 : decode cX11_pallet 83 = .ok (.invokestatic 162, 3) := by decide +kernel
theorem dX11_pallet_86 : decode cX11_pallet 86 = .ok (.ireturn, 1) := by decide +kernel
theorem dX11_pallet_87 : decode cX11_pallet 87 = .ok (.iconst (-1), 1) := by decide +kernel
theorem dX11_pallet_88 : decode cX11_pallet 88 = .ok (.ireturn, 1) := by decide +kernel
theorem dX11_in_0 : decode cX11_in 0 = .ok (.iload_n 1, 1) := by decide +kernel
theorem dX11_in_1 : decode cX11_in 1 = .ok (.ifCond .ne 24, 3) := by decide +kernel
theorem dX11_in_4 : decode cX11_in 4 = .ok (.aload_n 0, 1) := by decide +kernel
theorem dX11_in_5 : decode cX11_in 5 = .ok (.getfield 19, 3) := by decide +kernel
theorem dX11_in_8 : decode cX11_in 8 = .ok (.iload_n 2, 1) := by decide +kernel
theorem dX11_in_9 : decode cX11_in 9 = .ok (.invokevirtual 192, 3) := by decide +kernel
theorem dX11_in_12 : decode cX11_in 12 = .ok (.ifCond .eq 13, 3) := by decide +kernel
theorem dX11_in_15 : decode cX11_in 15 = .ok (.aload_n 0, 1) := by decide +kernel
theorem dX11_in_16 : decode cX11_in 16 = .ok (.getfield 29, 3) := by decide +kernel
theorem dX11_in_19 : decode cX11_in 19 = .ok (.getfield 195, 3) := by decide +kernel
theorem dX11_in_22 : decode cX11_in 22 = .ok (.iload_n 2, 1) := by decide +kernel
theorem dX11_in_23 : decode cX11_in 23 = .ok (.iaload, 1) := by decide +kernel
theorem dX11_in_24 : decode cX11_in 24 = .ok (.ireturn, 1) := by decide +kernel
theorem dX11_in_25 : decode cX11_in 25 = .ok (.iload_n 1, 1) := by decide +kernel
theorem dX11_in_26 : decode cX11_in 26 = .ok (.iconst 1, 1) := by decide +kernel
theorem dX11_in_27 : decode cX11_in 27 = .ok (.if_icmp .ne 30, 3) := by decide +kernel
theorem dX11_in_30 : decode cX11_in 30 = .ok (.aload_n 0, 1) := by decide +kernel
theorem dX11_in_31 : decode cX11_in 31 = .ok (.getfield 19, 3) := by decide +kernel
theorem dX11_in_34 : decode cX11_in 34 = .ok (.getfield 122, 3) := by decide +kernel
theorem dX11_in_37 : decode cX11_in 37 = .ok (.iload_n 2, 1) := by decide +kernel
theorem dX11_in_38 : decode cX11_in 38 = .ok (.invokevirtual 198, 3) := by decide +kernel
theorem dX11_in_41 : decode cX11_in 41 = .ok (.ifCond .eq 16, 3) := by decide +kernel
theorem dX11_in_44 : decode cX11_in 44 = .ok (.aload_n 0, 1) := by decide +kernel
theorem dX11_in_45 : decode cX11_in 45 = .ok (.getfield 19, 3) := by decide +kernel
theorem dX11_in_48 : decode cX11_in 48 = .ok (.getfield 122, 3) := by decide +kernel
theorem dX11_in_51 : decode cX11_in 51 = .ok (.getfield 201, 3) := by decide +kernel
theorem dX11_in_54 : decode cX11_in 54 = .ok (.iload_n 2, 1) := by decide +kernel
theorem dX11_in_55 : decode cX11_in 55 = .ok (.iaload, 1) := by decide +kernel
theorem dX11_in_56 : decode cX11_in 56 = .ok (.ireturn, 1) := by decide +kernel
theorem dX11_in_57 : decode cX11_in 57 = .ok (.iload_n 1, 1) := by decide +kernel
theorem dX11_in_58 : decode cX11_in 58 = .ok (.iconst 2, 1) := by decide +kernel
theorem dX11_in_59 : decode cX11_in 59 = .ok (.if_icmp .ne 33, 3) := by decide +kernel
theorem dX11_in_62 : decode cX11_in 62 = .ok (.aload_n 0, 1) := by decide +kernel
theorem dX11_in_63 : decode cX11_in 63 = .ok (.getfield 19, 3) := by decide +kernel
theorem dX11_in_66 : decode cX11_in 66 = .ok (.getfield 97, 3) := by decide +kernel
theorem dX11_in_69 : decode cX11_in 69 = .ok (.iload_n 2, 1) := by decide +kernel
theorem dX11_in_70 : decode cX11_in 70 = .ok (.invokevirtual 204, 3) := by decide +kernel
theorem dX11_in_73 : decode cX11_in 73 = .ok (.ifCond .eq 19, 3) := by decide +kernel
theorem dX11_in_76 : decode cX11_in 76 = .ok (.aload_n 0, 1) := by decide +kernel
theorem dX11_in_77 : decode cX11_in 77 = .ok (.getfield 19, 3) := by decide +kernel
theorem dX11_in_80 : decode cX11_in 80 = .ok (.getfield 97, 3) := by decide +kernel
theorem dX11_in_83 : decode cX11_in 83 = .ok (.aload_n 0, 1) := by decide +kernel
theorem dX11_in_84 : decode cX11_in 84 = .ok (.getfield 29, 3) := by decide +kernel
theorem dX11_in_87 : decode cX11_in 87 = .ok (.iload_n 2, 1) := by decide +kernel
theorem dX11_in_88 : decode cX11_in 88 = .ok (.invokestatic 207, 3) := by decide +kernel
theorem dX11_in_91 : decode cX11_in 91 = .ok (.ireturn, 1) := by decide +kernel
theorem dX11_in_92 : decode cX11_in 92 = .ok (.iconst (-1), 1) := by decide +kernel
theorem dX11_in_93 : decode cX11_in 93 = .ok (.ireturn, 1) := by decide +kernel
theorem dX11_put_0 : decode cX11_put 0 = .ok (.aload_n 0, 1) := by decide +kernel
theorem dX11_put_1 : decode cX11_put 1 = .ok (.getfield 29, 3) := by decide +kernel
theorem dX11_put_4 : decode cX11_put 4 = .ok (.iload_n 1, 1) := by decide +kernel
theorem dX11_put_5 : decode cX11_put 5 = .ok (.invokevirtual 144, 3) := by decide +kernel
theorem dX11_put_8 : decode cX11_put 8 = .ok (.ifCond .eq 17, 3) := by decide +kernel
theorem dX11_put_11 : decode cX11_put 11 = .ok (.aload_n 0, 1) := by decide +kernel
theorem dX11_put_12 : decode cX11_put 12 = .ok (.getfield 19, 3) := by decide +kernel
theorem dX11_put_15 : decode cX11_put 15 = .ok (.getfield 97, 3) := by decide +kernel
theorem dX11_put_18 : decode cX11_put 18 = .ok (.iload_n 2, 1) := by decide +kernel
theorem dX11_put_19 : decode cX11_put 19 = .ok (.invokevirtual 173, 3) := by decide +kernel
theorem dX11_put_22 : decode cX11_put 22 = .ok (.ifCond .ne 5, 3) := by decide +kernel
theorem dX11_put_25 : decode cX11_put 25 = .ok (.iconst (-1), 1) := by decide +kernel
theorem dX11_put_26 : decode cX11_put 26 = .ok (.ireturn, 1) := by decide +kernel
theorem dX11_put_27 : decode cX11_put 27 = .ok (.aload_n 0, 1) := by decide +kernel
theorem dX11_put_28 : decode cX11_put 28 = .ok (.getfield 29, 3) := by decide +kernel
theorem dX11_put_31 : decode cX11_put 31 = .ok (.iload_n 2, 1) := by decide +kernel
theorem dX11_put_32 : decode cX11_put 32 = .ok (.invokevirtual 185, 3) := by decide +kernel
theorem dX11_put_35 : decode cX11_put 35 = .ok (.istore_n 3, 1) := by decide +kernel
theorem dX11_put_36 : decode cX11_put 36 = .ok (.iload_n 3, 1) := by decide +kernel
theorem dX11_put_37 : decode cX11_put 37 = .ok (.iload_n 1, 1) := by decide +kernel
theorem dX11_put_38 : decode cX11_put 38 = .ok (.if_icmp .ne 5, 3) := by decide +kernel
theorem dX11_put_41 : decode cX11_put 41 = .ok (.iconst 2, 1) := by decide +kernel
theorem dX11_put_42 : decode cX11_put 42 = .ok (.ireturn, 1) := by decide +kernel
theorem dX11_put_43 : decode cX11_put 43 = .ok (.iload_n 3, 1) := by decide +kernel
theorem dX11_put_44 : decode cX11_put 44 = .ok (.iconst (-1), 1) := by decide +kernel
theorem dX11_put_45 : decode cX11_put 45 = .ok (.if_icmp .eq 5, 3) := by decide +kernel
theorem dX11_put_48 : decode cX11_put 48 = .ok (.iconst 1, 1) := by decide +kernel
theorem dX11_put_49 : decode cX11_put 49 = .ok (.ireturn, 1) := by decide +kernel
theorem dX11_put_50 : decode cX11_put 50 = .ok (.aload_n 0, 1) := by decide +kernel
theorem dX11_put_51 : decode cX11_put 51 = .ok (.getfield 39, 3) := by decide +kernel
theorem dX11_put_54 : decode cX11_put 54 = .ok (.aload_n 0, 1) := by decide +kernel
theorem dX11_put_55 : decode cX11_put 55 = .ok (.getfield 29, 3) := by decide +kernel
theorem dX11_put_58 : decode cX11_put 58 = .ok (.invokevirtual 213, 3) := by decide +kernel
theorem dX11_put_61 : decode cX11_put 61 = .ok (.aload_n 0, 1) := by decide +kernel
theorem dX11_put_62 : decode cX11_put 62 = .ok (.getfield 29, 3) := by decide +kernel
theorem dX11_put_65 : decode cX11_put 65 = .ok (.getfield 155, 3) := by decide +kernel
theorem dX11_put_68 : decode cX11_put 68 = .ok (.iload_n 1, 1) := by decide +kernel
theorem dX11_put_69 : decode cX11_put 69 = .ok (.iload_n 2, 1) := by decide +kernel
theorem dX11_put_70 : decode cX11_put 70 = .ok (.iastore, 1) := by decide +kernel
theorem dX11_put_71 : decode cX11_put 71 = .ok (.iconst 0, 1) := by decide +kernel
theorem dX11_put_72 : decode cX11_put 72 = .ok (.ireturn, 1) := by decide +kernel
theorem dX11_off_0 : decode cX11_off 0 = .ok (.aload_n 0, 1) := by decide +kernel
theorem dX11_off_1 : decode cX11_off 1 = .ok (.getfield 29, 3) := by decide +kernel
theorem dX11_off_4 : decode cX11_off 4 = .ok (.iload_n 1, 1) := by decide +kernel
theorem dX11_off_5 : decode cX11_off 5 = .ok (.invokevirtual 144, 3) := by decide +kernel
theorem dX11_off_8 : decode cX11_off 8 = .ok (.ifCond .eq 16, 3) := by decide +kernel
theorem dX11_off_11 : decode cX11_off 11 = .ok (.aload_n 0, 1) := by decide +kernel
theorem dX11_off_12 : decode cX11_off 12 = .ok (.getfield 29, 3) := by decide +kernel
theorem dX11_off_15 : decode cX11_off 15 = .ok (.getfield 155, 3) := by decide +kernel
theorem dX11_off_18 : decode cX11_off 18 = .ok (.iload_n 1, 1) := by decide +kernel
theorem dX11_off_19 : decode cX11_off 19 = .ok (.iaload, 1) := by decide +kernel
theorem dX11_off_20 : decode cX11_off 20 = .ok (.iconst (-1), 1) := by decide +kernel
theorem dX11_off_21 : decode cX11_off 21 = .ok (.if_icmp .ne 5, 3) := by decide +kernel
theorem dX11_off_24 : decode cX11_off 24 = .ok (.iconst (-1), 1) := by decide +kernel
theorem dX11_off_25 : decode cX11_off 25 = .ok (.ireturn, 1) := by decide +kernel
theorem dX11_off_26 : decode cX11_off 26 = .ok (.aload_n 0, 1) := by decide +kernel
theorem dX11_off_27 : decode cX11_off 27 = .ok (.getfield 39, 3) := by decide +kernel
theorem dX11_off_30 : decode cX11_off 30 = .ok (.aload_n 0, 1) := by decide +kernel
theorem dX11_off_31 : decode cX11_off 31 = .ok (.getfield 29, 3) := by decide +kernel
theorem dX11_off_34 : decode cX11_off 34 = .ok (.invokevirtual 213, 3) := by decide +kernel
theorem dX11_off_37 : decode cX11_off 37 = .ok (.aload_n 0, 1) := by decide +kernel
theorem dX11_off_38 : decode cX11_off 38 = .ok (.getfield 29, 3) := by decide +kernel
theorem dX11_off_41 : decode cX11_off 41 = .ok (.getfield 155, 3) := by decide +kernel
theorem dX11_off_44 : decode cX11_off 44 = .ok (.iload_n 1, 1) := by decide +kernel
theorem dX11_off_45 : decode cX11_off 45 = .ok (.iaload, 1) := by decide +kernel
theorem dX11_off_46 : decode cX11_off 46 = .ok (.istore_n 2, 1) := by decide +kernel
theorem dX11_off_47 : decode cX11_off 47 = .ok (.aload_n 0, 1) := by decide +kernel
theorem dX11_off_48 : decode cX11_off 48 = .ok (.getfield 29, 3) := by decide +kernel
theorem dX11_off_51 : decode cX11_off 51 = .ok (.getfield 155, 3) := by decide +kernel
theorem dX11_off_54 : decode cX11_off 54 = .ok (.iload_n 1, 1) := by decide +kernel
theorem dX11_off_55 : decode cX11_off 55 = .ok (.iconst (-1), 1) := by decide +kernel
theorem dX11_off_56 : decode cX11_off 56 = .ok (.iastore, 1) := by decide +kernel
theorem dX11_off_57 : decode cX11_off 57 = .ok (.iload_n 2, 1) := by decide +kernel
theorem dX11_off_58 : decode cX11_off 58 = .ok (.ireturn, 1) := by decide +kernel
theorem dX11_pour_0 : decode cX11_pour 0 = .ok (.aload_n 0, 1) := by decide +kernel
theorem dX11_pour_1 : decode cX11_pour 1 = .ok (.getfield 19, 3) := by decide +kernel
theorem dX11_pour_4 : decode cX11_pour 4 = .ok (.iload_n 1, 1) := by decide +kernel
theorem dX11_pour_5 : decode cX11_pour 5 = .ok (.invokevirtual 192, 3) := by decide +kernel
theorem dX11_pour_8 : decode cX11_pour 8 = .ok (.ifCond .eq 20, 3) := by decide +kernel
theorem dX11_pour_11 : decode cX11_pour 11 = .ok (.iload_n 2, 1) := by decide +kernel
theorem dX11_pour_12 : decode cX11_pour 12 = .ok (.ifCond .lt 16, 3) := by decide +kernel
theorem dX11_pour_15 : decode cX11_pour 15 = .ok (.iload_n 2, 1) := by decide +kernel
theorem dX11_pour_16 : decode cX11_pour 16 = .ok (.aload_n 0, 1) := by decide +kernel
theorem dX11_pour_17 : decode cX11_pour 17 = .ok (.getfield 19, 3) := by decide +kernel
theorem dX11_pour_20 : decode cX11_pour 20 = .ok (.getfield 216, 3) := by decide +kernel
theorem dX11_pour_23 : decode cX11_pour 23 = .ok (.iload_n 1, 1) := by decide +kernel
theorem dX11_pour_24 : decode cX11_pour 24 = .ok (.iaload, 1) := by decide +kernel
theorem dX11_pour_25 : decode cX11_pour 25 = .ok (.if_icmp .le 5, 3) := by decide +kernel
theorem dX11_pour_28 : decode cX11_pour 28 = .ok (.iconst (-1), 1) := by decide +kernel
theorem dX11_pour_29 : decode cX11_pour 29 = .ok (.ireturn, 1) := by decide +kernel
theorem dX11_pour_30 : decode cX11_pour 30 = .ok (.aload_n 0, 1) := by decide +kernel
theorem dX11_pour_31 : decode cX11_pour 31 = .ok (.getfield 29, 3) := by decide +kernel
theorem dX11_pour_34 : decode cX11_pour 34 = .ok (.getfield 195, 3) := by decide +kernel
theorem dX11_pour_37 : decode cX11_pour 37 = .ok (.iload_n 1, 1) := by decide +kernel
theorem dX11_pour_38 : decode cX11_pour 38 = .ok (.iaload, 1) := by decide +kernel
theorem dX11_pour_39 : decode cX11_pour 39 = .ok (.iload_n 2, 1) := by decide +kernel
theorem dX11_pour_40 : decode cX11_pour 40 = .ok (.if_icmp .ne 5, 3) := by decide +kernel
theorem dX11_pour_43 : decode cX11_pour 43 = .ok (.iconst 1, 1) := by decide +kernel
theorem dX11_pour_44 : decode cX11_pour 44 = .ok (.ireturn, 1) := by decide +kernel
theorem dX11_pour_45 : decode cX11_pour 45 = .ok (.aload_n 0, 1) := by decide +kernel
theorem dX11_pour_46 : decode cX11_pour 46 = .ok (.getfield 39, 3) := by decide +kernel
theorem dX11_pour_49 : decode cX11_pour 49 = .ok (.aload_n 0, 1) := by decide +kernel
theorem dX11_pour_50 : decode cX11_pour 50 = .ok (.getfield 29, 3) := by decide +kernel
theorem dX11_pour_53 : decode cX11_pour 53 = .ok (.invokevirtual 213, 3) := by decide +kernel
theorem dX11_pour_56 : decode cX11_pour 56 = .ok (.aload_n 0, 1) := by decide +kernel
theorem dX11_pour_57 : decode cX11_pour 57 = .ok (.getfield 29, 3) := by decide +kernel
theorem dX11_pour_60 : decode cX11_pour 60 = .ok (.getfield 195, 3) := by decide +kernel
theorem dX11_pour_63 : decode cX11_pour 63 = .ok (.iload_n 1, 1) := by decide +kernel
theorem dX11_pour_64 : decode cX11_pour 64 = .ok (.iload_n 2, 1) := by decide +kernel
theorem dX11_pour_65 : decode cX11_pour 65 = .ok (.iastore, 1) := by decide +kernel
theorem dX11_pour_66 : decode cX11_pour 66 = .ok (.iconst 0, 1) := by decide +kernel
theorem dX11_pour_67 : decode cX11_pour 67 = .ok (.ireturn, 1) := by decide +kernel
theorem dX11_why_0 : decode cX11_why 0 = .ok (.aload_n 0, 1) := by decide +kernel
theorem dX11_why_1 : decode cX11_why 1 = .ok (.getfield 19, 3) := by decide +kernel
theorem dX11_why_4 : decode cX11_why 4 = .ok (.aload_n 0, 1) := by decide +kernel
theorem dX11_why_5 : decode cX11_why 5 = .ok (.getfield 29, 3) := by decide +kernel
theorem dX11_why_8 : decode cX11_why 8 = .ok (.invokestatic 219, 3) := by decide +kernel
theorem dX11_why_11 : decode cX11_why 11 = .ok (.ireturn, 1) := by decide +kernel
theorem dX11_where_0 : decode cX11_where 0 = .ok (.aload_n 0, 1) := by decide +kernel
theorem dX11_where_1 : decode cX11_where 1 = .ok (.getfield 19, 3) := by decide +kernel
theorem dX11_where_4 : decode cX11_where 4 = .ok (.aload_n 0, 1) := by decide +kernel
theorem dX11_where_5 : decode cX11_where 5 = .ok (.getfield 29, 3) := by decide +kernel
theorem dX11_where_8 : decode cX11_where 8 = .ok (.invokestatic 219, 3) := by decide +kernel
theorem dX11_where_11 : decode cX11_where 11 = .ok (.aload_n 0, 1) := by decide +kernel
theorem dX11_where_12 : decode cX11_where 12 = .ok (.getfield 19, 3) := by decide +kernel
theorem dX11_where_15 : decode cX11_where 15 = .ok (.aload_n 0, 1) := by decide +kernel
theorem dX11_where_16 : decode cX11_where 16 = .ok (.getfield 29, 3) := by decide +kernel
theorem dX11_where_19 : decode cX11_where 19 = .ok (.invokestatic 223, 3) := by decide +kernel
theorem dX11_where_22 : decode cX11_where 22 = .ok (.ireturn, 1) := by decide +kernel
theorem dX11_stage_0 : decode cX11_stage 0 = .ok (.iload_n 1, 1) := by decide +kernel
theorem dX11_stage_1 : decode cX11_stage 1 = .ok (.ifCond .lt 17, 3) := by decide +kernel
theorem dX11_stage_4 : decode cX11_stage 4 = .ok (.iload_n 1, 1) := by decide +kernel
theorem dX11_stage_5 : decode cX11_stage 5 = .ok (.aload_n 0, 1) := by decide +kernel
theorem dX11_stage_6 : decode cX11_stage 6 = .ok (.getfield 19, 3) := by decide +kernel
theorem dX11_stage_9 : decode cX11_stage 9 = .ok (.getfield 122, 3) := by decide +kernel
theorem dX11_stage_12 : decode cX11_stage 12 = .ok (.getfield 131, 3) := by decide +kernel
theorem dX11_stage_15 : decode cX11_stage 15 = .ok (.if_icmp .le 6, 3) := by decide +kernel
theorem dX11_stage_18 : decode cX11_stage 18 = .ok (.ldc 227, 2) := by decide +kernel
theorem dX11_stage_20 : decode cX11_stage 20 = .ok (.ireturn, 1) := by decide +kernel
theorem dX11_stage_21 : decode cX11_stage 21 = .ok (.aload_n 0, 1) := by decide +kernel
theorem dX11_stage_22 : decode cX11_stage 22 = .ok (.getfield 19, 3) := by decide +kernel
theorem dX11_stage_25 : decode cX11_stage 25 = .ok (.aload_n 0, 1) := by decide +kernel
theorem dX11_stage_26 : decode cX11_stage 26 = .ok (.getfield 29, 3) := by decide +kernel
theorem dX11_stage_29 : decode cX11_stage 29 = .ok (.iload_n 1, 1) := by decide +kernel
theorem dX11_stage_30 : decode cX11_stage 30 = .ok (.invokestatic 228, 3) := by decide +kernel
theorem dX11_stage_33 : decode cX11_stage 33 = .ok (.istore_n 3, 1) := by decide +kernel
theorem dX11_stage_34 : decode cX11_stage 34 = .ok (.aload_n 0, 1) := by decide +kernel
theorem dX11_stage_35 : decode cX11_stage 35 = .ok (.getfield 19, 3) := by decide +kernel
theorem dX11_stage_38 : decode cX11_stage 38 = .ok (.aload_n 0, 1) := by decide +kernel
theorem dX11_stage_39 : decode cX11_stage 39 = .ok (.getfield 29, 3) := by decide +kernel
theorem dX11_stage_42 : decode cX11_stage 42 = .ok (.iload_n 1, 1) := by decide +kernel
theorem dX11_stage_43 : decode cX11_stage 43 = .ok (.invokestatic 232, 3) := by decide +kernel
theorem dX11_stage_46 : decode cX11_stage 46 = .ok (.istore 4, 2) := by decide +kernel
theorem dX11_stage_48 : decode cX11_stage 48 = .ok (.iload_n 2, 1) := by decide +kernel
theorem dX11_stage_49 : decode cX11_stage 49 = .ok (.tableswitch 62 0 3 #[31, 33, 36, 49], 31) := by decide +kernel
theorem dX11_stage_80 : decode cX11_stage 80 = .ok (.iload_n 3, 1) := by decide +kernel
theorem dX11_stage_81 : decode cX11_stage 81 = .ok (.ireturn, 1) := by decide +kernel
theorem dX11_stage_82 : decode cX11_stage 82 = .ok (.iload 4, 2) := by decide +kernel
theorem dX11_stage_84 : decode cX11_stage 84 = .ok (.ireturn, 1) := by decide +kernel
theorem dX11_stage_85 : decode cX11_stage 85 = .ok (.iload 4, 2) := by decide +kernel
theorem dX11_stage_87 : decode cX11_stage 87 = .ok (.iload_n 3, 1) := by decide +kernel
theorem dX11_stage_88 : decode cX11_stage 88 = .ok (.aload_n 0, 1) := by decide +kernel
theorem dX11_stage_89 : decode cX11_stage 89 = .ok (.getfield 19, 3) := by decide +kernel
theorem dX11_stage_92 : decode cX11_stage 92 = .ok (.getfield 235, 3) := by decide +kernel
theorem dX11_stage_95 : decode cX11_stage 95 = .ok (.imul, 1) := by decide +kernel
theorem dX11_stage_96 : decode cX11_stage 96 = .ok (.isub, 1) := by decide +kernel
theorem dX11_stage_97 : decode cX11_stage 97 = .ok (.ireturn, 1) := by decide +kernel
theorem dX11_stage_98 : decode cX11_stage 98 = .ok (.iload_n 3, 1) := by decide +kernel
theorem dX11_stage_99 : decode cX11_stage 99 = .ok (.aload_n 0, 1) := by decide +kernel
theorem dX11_stage_100 : decode cX11_stage 100 = .ok (.getfield 19, 3) := by decide +kernel
theorem dX11_stage_103 : decode cX11_stage 103 = .ok (.getfield 238, 3) := by decide +kernel
theorem dX11_stage_106 : decode cX11_stage 106 = .ok (.imul, 1) := by decide +kernel
theorem dX11_stage_107 : decode cX11_stage 107 = .ok (.iload 4, 2) := by decide +kernel
theorem dX11_stage_109 : decode cX11_stage 109 = .ok (.isub, 1) := by decide +kernel
theorem dX11_stage_110 : decode cX11_stage 110 = .ok (.ireturn, 1) := by decide +kernel
theorem dX11_stage_111 : decode cX11_stage 111 = .ok (.ldc 227, 2) := by decide +kernel
theorem dX11_stage_113 : decode cX11_stage 113 = .ok (.ireturn, 1) := by decide +kernel
theorem dX11_blocks_0 : decode cX11_blocks 0 = .ok (.aload_n 0, 1) := by decide +kernel
theorem dX11_blocks_1 : decode cX11_blocks 1 = .ok (.getfield 29, 3) := by decide +kernel
theorem dX11_blocks_4 : decode cX11_blocks 4 = .ok (.iload_n 1, 1) := by decide +kernel
theorem dX11_blocks_5 : decode cX11_blocks 5 = .ok (.invokevirtual 144, 3) := by decide +kernel
theorem dX11_blocks_8 : decode cX11_blocks 8 = .ok (.ifCond .eq 21, 3) := by decide +kernel
theorem dX11_blocks_11 : decode cX11_blocks 11 = .ok (.aload_n 0, 1) := by decide +kernel
theorem dX11_blocks_12 : decode cX11_blocks 12 = .ok (.getfield 19, 3) := by decide +kernel
theorem dX11_blocks_15 : decode cX11_blocks 15 = .ok (.getfield 97, 3) := by decide +kernel
theorem dX11_blocks_18 : decode cX11_blocks 18 = .ok (.aload_n 0, 1) := by decide +kernel
theorem dX11_blocks_19 : decode cX11_blocks 19 = .ok (.getfield 29, 3) := by decide +kernel
theorem dX11_blocks_22 : decode cX11_blocks 22 = .ok (.iload_n 1, 1) := by decide +kernel
theorem dX11_blocks_23 : decode cX11_blocks 23 = .ok (.invokestatic 241, 3) := by decide +kernel
theorem dX11_blocks_26 : decode cX11_blocks 26 = .ok (.goto 4, 3) := by decide +kernel
theorem dX11_blocks_29 : decode cX11_blocks 29 = .ok (.iconst (-1), 1) := by decide +kernel
theorem dX11_blocks_30 : decode cX11_blocks 30 = .ok (.ireturn, 1) := by decide +kernel
theorem dX11_weigh_0 : decode cX11_weigh 0 = .ok (.aload_n 0, 1) := by decide +kernel
theorem dX11_weigh_1 : decode cX11_weigh 1 = .ok (.getfield 29, 3) := by decide +kernel
theorem dX11_weigh_4 : decode cX11_weigh 4 = .ok (.iload_n 1, 1) := by decide +kernel
theorem dX11_weigh_5 : decode cX11_weigh 5 = .ok (.invokevirtual 144, 3) := by decide +kernel
theorem dX11_weigh_8 : decode cX11_weigh 8 = .ok (.ifCond .eq 14, 3) := by decide +kernel
theorem dX11_weigh_11 : decode cX11_weigh 11 = .ok (.iload_n 2, 1) := by decide +kernel
theorem dX11_weigh_12 : decode cX11_weigh 12 = .ok (.iconst 1, 1) := by decide +kernel
theorem dX11_weigh_13 : decode cX11_weigh 13 = .ok (.if_icmp .lt 9, 3) := by decide +kernel
theorem dX11_weigh_16 : decode cX11_weigh 16 = .ok (.iload_n 2, 1) := by decide +kernel
theorem dX11_weigh_17 : decode cX11_weigh 17 = .ok (.bipush 99, 2) := by decide +kernel
theorem dX11_weigh_19 : decode cX11_weigh 19 = .ok (.if_icmp .le 5, 3) := by decide +kernel
theorem dX11_weigh_22 : decode cX11_weigh 22 = .ok (.iconst (-1), 1) := by decide +kernel
theorem dX11_weigh_23 : decode cX11_weigh 23 = .ok (.ireturn, 1) := by decide +kernel
theorem dX11_weigh_24 : decode cX11_weigh 24 = .ok (.aload_n 0, 1) := by decide +kernel
theorem dX11_weigh_25 : decode cX11_weigh 25 = .ok (.getfield 29, 3) := by decide +kernel
theorem dX11_weigh_28 : decode cX11_weigh 28 = .ok (.getfield 148, 3) := by decide +kernel
theorem dX11_weigh_31 : decode cX11_weigh 31 = .ok (.iload_n 1, 1) := by decide +kernel
theorem dX11_weigh_32 : decode cX11_weigh 32 = .ok (.iaload, 1) := by decide +kernel
theorem dX11_weigh_33 : decode cX11_weigh 33 = .ok (.iload_n 2, 1) := by decide +kernel
theorem dX11_weigh_34 : decode cX11_weigh 34 = .ok (.if_icmp .ne 5, 3) := by decide +kernel
theorem dX11_weigh_37 : decode cX11_weigh 37 = .ok (.iconst 1, 1) := by decide +kernel
theorem dX11_weigh_38 : decode cX11_weigh 38 = .ok (.ireturn, 1) := by decide +kernel
theorem dX11_weigh_39 : decode cX11_weigh 39 = .ok (.aload_n 0, 1) := by decide +kernel
theorem dX11_weigh_40 : decode cX11_weigh 40 = .ok (.getfield 39, 3) := by decide +kernel
theorem dX11_weigh_43 : decode cX11_weigh 43 = .ok (.aload_n 0, 1) := by decide +kernel
theorem dX11_weigh_44 : decode cX11_weigh 44 = .ok (.getfield 29, 3) := by decide +kernel
theorem dX11_weigh_47 : decode cX11_weigh 47 = .ok (.invokevirtual 213, 3) := by decide +kernel
theorem dX11_weigh_50 : decode cX11_weigh 50 = .ok (.aload_n 0, 1) := by decide +kernel
theorem dX11_weigh_51 : decode cX11_weigh 51 = .ok (.getfield 56, 3) := by decide +kernel
theorem dX11_weigh_54 : decode cX11_weigh 54 = .ok (.invokevirtual 283, 3) := by decide +kernel
theorem dX11_weigh_57 : decode cX11_weigh 57 = .ok (.aload_n 0, 1) := by decide +kernel
theorem dX11_weigh_58 : decode cX11_weigh 58 = .ok (.getfield 29, 3) := by decide +kernel
theorem dX11_weigh_61 : decode cX11_weigh 61 = .ok (.getfield 148, 3) := by decide +kernel
theorem dX11_weigh_64 : decode cX11_weigh 64 = .ok (.iload_n 1, 1) := by decide +kernel
theorem dX11_weigh_65 : decode cX11_weigh 65 = .ok (.iload_n 2, 1) := by decide +kernel
theorem dX11_weigh_66 : decode cX11_weigh 66 = .ok (.iastore, 1) := by decide +kernel
theorem dX11_weigh_67 : decode cX11_weigh 67 = .ok (.iconst 0, 1) := by decide +kernel
theorem dX11_weigh_68 : decode cX11_weigh 68 = .ok (.ireturn, 1) := by decide +kernel
theorem dX11_undo_0 : decode cX11_undo 0 = .ok (.aload_n 0, 1) := by decide +kernel
theorem dX11_undo_1 : decode cX11_undo 1 = .ok (.getfield 39, 3) := by decide +kernel
theorem dX11_undo_4 : decode cX11_undo 4 = .ok (.getfield 293, 3) := by decide +kernel
theorem dX11_undo_7 : decode cX11_undo 7 = .ok (.ifCond .ne 5, 3) := by decide +kernel
theorem dX11_undo_10 : decode cX11_undo 10 = .ok (.iconst (-1), 1) := by decide +kernel
theorem dX11_undo_11 : decode cX11_undo 11 = .ok (.ireturn, 1) := by decide +kernel
theorem dX11_undo_12 : decode cX11_undo 12 = .ok (.aload_n 0, 1) := by decide +kernel
theorem dX11_undo_13 : decode cX11_undo 13 = .ok (.getfield 56, 3) := by decide +kernel
theorem dX11_undo_16 : decode cX11_undo 16 = .ok (.invokevirtual 283, 3) := by decide +kernel
theorem dX11_undo_19 : decode cX11_undo 19 = .ok (.aload_n 0, 1) := by decide +kernel
theorem dX11_undo_20 : decode cX11_undo 20 = .ok (.getfield 39, 3) := by decide +kernel
theorem dX11_undo_23 : decode cX11_undo 23 = .ok (.aload_n 0, 1) := by decide +kernel
theorem dX11_undo_24 : decode cX11_undo 24 = .ok (.getfield 29, 3) := by decide +kernel
theorem dX11_undo_27 : decode cX11_undo 27 = .ok (.invokevirtual 294, 3) := by decide +kernel
theorem dX11_undo_30 : decode cX11_undo 30 = .ok (.aload_n 0, 1) := by decide +kernel
theorem dX11_undo_31 : decode cX11_undo 31 = .ok (.getfield 39, 3) := by decide +kernel
theorem dX11_undo_34 : decode cX11_undo 34 = .ok (.getfield 293, 3) := by decide +kernel
theorem dX11_undo_37 : decode cX11_undo 37 = .ok (.ireturn, 1) := by decide +kernel
theorem dX11_startAnew_0 : decode cX11_startAnew 0 = .ok (.aload_n 0, 1) := by decide +kernel
theorem dX11_startAnew_1 : decode cX11_startAnew 1 = .ok (.getfield 29, 3) := by decide +kernel
theorem dX11_startAnew_4 : decode cX11_startAnew 4 = .ok (.invokevirtual 316, 3) := by decide +kernel
theorem dX11_startAnew_7 : decode cX11_startAnew 7 = .ok (.aload_n 0, 1) := by decide +kernel
theorem dX11_startAnew_8 : decode cX11_startAnew 8 = .ok (.getfield 39, 3) := by decide +kernel
theorem dX11_startAnew_11 : decode cX11_startAnew 11 = .ok (.iconst 0, 1) := by decide +kernel
theorem dX11_startAnew_12 : decode cX11_startAnew 12 = .ok (.putfield 293, 3) := by decide +kernel
theorem dX11_startAnew_15 : decode cX11_startAnew 15 = .ok (.aload_n 0, 1) := by decide +kernel
theorem dX11_startAnew_16 : decode cX11_startAnew 16 = .ok (.getfield 56, 3) := by decide +kernel
theorem dX11_startAnew_19 : decode cX11_startAnew 19 = .ok (.invokevirtual 283, 3) := by decide +kernel
theorem dX11_startAnew_22 : decode cX11_startAnew 22 = .ok (.return_, 1) := by decide +kernel
theorem dJ9_max_7cf53_0 : decode cJ9_max_7cf53 0 = .ok (.iload_n 0, 1) := by decide +kernel
theorem dJ9_max_7cf53_1 : decode cJ9_max_7cf53 1 = .ok (.iload_n 1, 1) := by decide +kernel
theorem dJ9_max_7cf53_2 : decode cJ9_max_7cf53 2 = .ok (.if_icmp .lt 7, 3) := by decide +kernel
theorem dJ9_max_7cf53_5 : decode cJ9_max_7cf53 5 = .ok (.iload_n 0, 1) := by decide +kernel
theorem dJ9_max_7cf53_6 : decode cJ9_max_7cf53 6 = .ok (.goto 4, 3) := by decide +kernel
theorem dJ9_max_7cf53_9 : decode cJ9_max_7cf53 9 = .ok (.iload_n 1, 1) := by decide +kernel
theorem dJ9_max_7cf53_10 : decode cJ9_max_7cf53 10 = .ok (.ireturn, 1) := by decide +kernel
theorem dJ9_min_7cf53_0 : decode cJ9_min_7cf53 0 = .ok (.iload_n 0, 1) := by decide +kernel
theorem dJ9_min_7cf53_1 : decode cJ9_min_7cf53 1 = .ok (.iload_n 1, 1) := by decide +kernel
theorem dJ9_min_7cf53_2 : decode cJ9_min_7cf53 2 = .ok (.if_icmp .gt 7, 3) := by decide +kernel
theorem dJ9_min_7cf53_5 : decode cJ9_min_7cf53 5 = .ok (.iload_n 0, 1) := by decide +kernel
theorem dJ9_min_7cf53_6 : decode cJ9_min_7cf53 6 = .ok (.goto 4, 3) := by decide +kernel
theorem dJ9_min_7cf53_9 : decode cJ9_min_7cf53 9 = .ok (.iload_n 1, 1) := by decide +kernel
theorem dJ9_min_7cf53_10 : decode cJ9_min_7cf53 10 = .ok (.ireturn, 1) := by decide +kernel
theorem dJ0_length_8abf5_0 : decode cJ0_length_8abf5 0 = .ok (.aload_n 0, 1) := by decide +kernel
theorem dJ0_length_8abf5_1 : decode cJ0_length_8abf5 1 = .ok (.getfield 9, 3) := by decide +kernel
theorem dJ0_length_8abf5_4 : decode cJ0_length_8abf5 4 = .ok (.arraylength, 1) := by decide +kernel
theorem dJ0_length_8abf5_5 : decode cJ0_length_8abf5 5 = .ok (.aload_n 0, 1) := by decide +kernel
theorem dJ0_length_8abf5_6 : decode cJ0_length_8abf5 6 = .ok (.invokevirtual 335, 3) := by decide +kernel
theorem dJ0_length_8abf5_9 : decode cJ0_length_8abf5 9 = .ok (.ishr, 1) := by decide +kernel
theorem dJ0_length_8abf5_10 : decode cJ0_length_8abf5 10 = .ok (.ireturn, 1) := by decide +kernel
theorem dJ0_charAt_5068e_0 : decode cJ0_charAt_5068e 0 = .ok (.aload_n 0, 1) := by decide +kernel
theorem dJ0_charAt_5068e_1 : decode cJ0_charAt_5068e 1 = .ok (.invokevirtual 492, 3) := by decide +kernel
theorem dJ0_charAt_5068e_4 : decode cJ0_charAt_5068e 4 = .ok (.ifCond .eq 12, 3) := by decide +kernel
theorem dJ0_charAt_5068e_7 : decode cJ0_charAt_5068e 7 = .ok (.aload_n 0, 1) := by decide +kernel
theorem dJ0_charAt_5068e_8 : decode cJ0_charAt_5068e 8 = .ok (.getfield 9, 3) := by decide +kernel
theorem dJ0_charAt_5068e_11 : decode cJ0_charAt_5068e 11 = .ok (.iload_n 1, 1) := by decide +kernel
theorem dJ0_charAt_5068e_12 : decode cJ0_charAt_5068e 12 = .ok (.invokestatic 495, 3) := by decide +kernel
theorem dJ0_charAt_5068e_15 : decode cJ0_charAt_5068e 15 = .ok (.ireturn, 1) := by decide +kernel
theorem dJ0_charAt_5068e_16 : decode cJ0_charAt_5068e 16 = .ok (.aload_n 0, 1) := by decide +kernel
theorem dJ0_charAt_5068e_17 : decode cJ0_charAt_5068e 17 = .ok (.getfield 9, 3) := by decide +kernel
theorem dJ0_charAt_5068e_20 : decode cJ0_charAt_5068e 20 = .ok (.iload_n 1, 1) := by decide +kernel
theorem dJ0_charAt_5068e_21 : decode cJ0_charAt_5068e 21 = .ok (.invokestatic 498, 3) := by decide +kernel
theorem dJ0_charAt_5068e_24 : decode cJ0_charAt_5068e 24 = .ok (.ireturn, 1) := by decide +kernel
theorem dJ0_coder_7d493_0 : decode cJ0_coder_7d493 0 = .ok (.getstatic 38, 3) := by decide +kernel
theorem dJ0_coder_7d493_3 : decode cJ0_coder_7d493 3 = .ok (.ifCond .eq 10, 3) := by decide +kernel
theorem dJ0_coder_7d493_6 : decode cJ0_coder_7d493 6 = .ok (.aload_n 0, 1) := by decide +kernel
theorem dJ0_coder_7d493_7 : decode cJ0_coder_7d493 7 = .ok (.getfield 15, 3) := by decide +kernel
theorem dJ0_coder_7d493_10 : decode cJ0_coder_7d493 10 = .ok (.goto 4, 3) := by decide +kernel
theorem dJ0_coder_7d493_13 : decode cJ0_coder_7d493 13 = .ok (.iconst 1, 1) := by decide +kernel
theorem dJ0_coder_7d493_14 : decode cJ0_coder_7d493 14 = .ok (.ireturn, 1) := by decide +kernel
theorem dJ0_isLatin1_aae02_0 : decode cJ0_isLatin1_aae02 0 = .ok (.getstatic 38, 3) := by decide +kernel
theorem dJ0_isLatin1_aae02_3 : decode cJ0_isLatin1_aae02 3 = .ok (.ifCond .eq 14, 3) := by decide +kernel
theorem dJ0_isLatin1_aae02_6 : decode cJ0_isLatin1_aae02 6 = .ok (.aload_n 0, 1) := by decide +kernel
theorem dJ0_isLatin1_aae02_7 : decode cJ0_isLatin1_aae02 7 = .ok (.getfield 15, 3) := by decide +kernel
theorem dJ0_isLatin1_aae02_10 : decode cJ0_isLatin1_aae02 10 = .ok (.ifCond .ne 7, 3) := by decide +kernel
theorem dJ0_isLatin1_aae02_13 : decode cJ0_isLatin1_aae02 13 = .ok (.iconst 1, 1) := by decide +kernel
theorem dJ0_isLatin1_aae02_14 : decode cJ0_isLatin1_aae02 14 = .ok (.goto 4, 3) := by decide +kernel
theorem dJ0_isLatin1_aae02_17 : decode cJ0_isLatin1_aae02 17 = .ok (.iconst 0, 1) := by decide +kernel
theorem dJ0_isLatin1_aae02_18 : decode cJ0_isLatin1_aae02 18 = .ok (.ireturn, 1) := by decide +kernel
theorem dJ0_checkIndex_df160_0 : decode cJ0_checkIndex_df160 0 = .ok (.iload_n 0, 1) := by decide +kernel
theorem dJ0_checkIndex_df160_1 : decode cJ0_checkIndex_df160 1 = .ok (.iload_n 1, 1) := by decide +kernel
theorem dJ0_checkIndex_df160_2 : decode cJ0_checkIndex_df160 2 = .ok (.getstatic 1053, 3) := by decide +kernel
theorem dJ0_checkIndex_df160_5 : decode cJ0_checkIndex_df160 5 = .ok (.invokestatic 1059, 3) := by decide +kernel
theorem dJ0_checkIndex_df160_8 : decode cJ0_checkIndex_df160 8 = .ok (.pop, 1) := by decide +kernel
theorem dJ0_checkIndex_df160_9 : decode cJ0_checkIndex_df160 9 = .ok (.return_, 1) := by decide +kernel
theorem dJ1_charAt_3b067_0 : decode cJ1_charAt_3b067 0 = .ok (.iload_n 1, 1) := by decide +kernel
theorem dJ1_charAt_3b067_1 : decode cJ1_charAt_3b067 1 = .ok (.aload_n 0, 1) := by decide +kernel
theorem dJ1_charAt_3b067_2 : decode cJ1_charAt_3b067 2 = .ok (.arraylength, 1) := by decide +kernel
theorem dJ1_charAt_3b067_3 : decode cJ1_charAt_3b067 3 = .ok (.invokestatic 9, 3) := by decide +kernel
theorem dJ1_charAt_3b067_6 : decode cJ1_charAt_3b067 6 = .ok (.aload_n 0, 1) := by decide +kernel
theorem dJ1_charAt_3b067_7 : decode cJ1_charAt_3b067 7 = .ok (.iload_n 1, 1) := by decide +kernel
theorem dJ1_charAt_3b067_8 : decode cJ1_charAt_3b067 8 = .ok (.baload, 1) := by decide +kernel
theorem dJ1_charAt_3b067_9 : decode cJ1_charAt_3b067 9 = .ok (.sipush 255, 3) := by decide +kernel
theorem dJ1_charAt_3b067_12 : decode cJ1_charAt_3b067 12 = .ok (.iand, 1) := by decide +kernel
theorem dJ1_charAt_3b067_13 : decode cJ1_charAt_3b067 13 = .ok (.i2c, 1) := by decide +kernel
theorem dJ1_charAt_3b067_14 : decode cJ1_charAt_3b067 14 = .ok (.ireturn, 1) := by decide +kernel
theorem dJ2_getChar_3b067_0 : decode cJ2_getChar_3b067 0 = .ok (.getstatic 44, 3) := by decide +kernel
theorem dJ2_getChar_3b067_3 : decode cJ2_getChar_3b067 3 = .ok (.ifCond .ne 25, 3) := by decide +kernel
theorem dJ2_getChar_3b067_6 : decode cJ2_getChar_3b067 6 = .ok (.iload_n 1, 1) := by decide +kernel
theorem dJ2_getChar_3b067_7 : decode cJ2_getChar_3b067 7 = .ok (.ifCond .lt 11, 3) := by decide +kernel
theorem dJ2_getChar_3b067_10 : decode cJ2_getChar_3b067 10 = .ok (.iload_n 1, 1) := by decide +kernel
theorem dJ2_getChar_3b067_11 : decode cJ2_getChar_3b067 11 = .ok (.aload_n 0, 1) := by decide +kernel
theorem dJ2_getChar_3b067_12 : decode cJ2_getChar_3b067 12 = .ok (.invokestatic 48, 3) := by decide +kernel
theorem dJ2_getChar_3b067_15 : decode cJ2_getChar_3b067 15 = .ok (.if_icmp .lt 13, 3) := by decide +kernel
theorem dJ2_getChar_3b067_18 : decode cJ2_getChar_3b067 18 = .ok (.new 52, 3) := by decide +kernel
theorem dJ2_getChar_3b067_21 : decode cJ2_getChar_3b067 21 = .ok (.dup, 1) := by decide +kernel
theorem dJ2_getChar_3b067_22 : decode cJ2_getChar_3b067 22 = .ok (.ldc 54, 2) := by decide +kernel
theorem dJ2_getChar_3b067_24 : decode cJ2_getChar_3b067 24 = .ok (.invokespecial 56, 3) := by decide +kernel
theorem dJ2_getChar_3b067_27 : decode cJ2_getChar_3b067 27 = .ok (.athrow, 1) := by decide +kernel
theorem dJ2_getChar_3b067_28 : decode cJ2_getChar_3b067 28 = .ok (.iload_n 1, 1) := by decide +kernel
theorem dJ2_getChar_3b067_29 : decode cJ2_getChar_3b067 29 = .ok (.iconst 1, 1) := by decide +kernel
theorem dJ2_getChar_3b067_30 : decode cJ2_getChar_3b067 30 = .ok (.ishl, 1) := by decide +kernel
theorem dJ2_getChar_3b067_31 : decode cJ2_getChar_3b067 31 = .ok (.istore_n 1, 1) := by decide +kernel
theorem dJ2_getChar_3b067_32 : decode cJ2_getChar_3b067 32 = .ok (.aload_n 0, 1) := by decide +kernel
theorem dJ2_getChar_3b067_33 : decode cJ2_getChar_3b067 33 = .ok (.iload_n 1, 1) := by decide +kernel
theorem dJ2_getChar_3b067_34 : decode cJ2_getChar_3b067 34 = .ok (.iinc 1 1, 3) := by decide +kernel
theorem dJ2_getChar_3b067_37 : decode cJ2_getChar_3b067 37 = .ok (.baload, 1) := by decide +kernel
theorem dJ2_getChar_3b067_38 : decode cJ2_getChar_3b067 38 = .ok (.sipush 255, 3) := by decide +kernel
theorem dJ2_getChar_3b067_41 : decode cJ2_getChar_3b067 41 = .ok (.iand, 1) := by decide +kernel
theorem dJ2_getChar_3b067_42 : decode cJ2_getChar_3b067 42 = .ok (.getstatic 59, 3) := by decide +kernel
theorem dJ2_getChar_3b067_45 : decode cJ2_getChar_3b067 45 = .ok (.ishl, 1) := by decide +kernel
theorem dJ2_getChar_3b067_46 : decode cJ2_getChar_3b067 46 = .ok (.aload_n 0, 1) := by decide +kernel
theorem dJ2_getChar_3b067_47 : decode cJ2_getChar_3b067 47 = .ok (.iload_n 1, 1) := by decide +kernel
theorem dJ2_getChar_3b067_48 : decode cJ2_getChar_3b067 48 = .ok (.baload, 1) := by decide +kernel
theorem dJ2_getChar_3b067_49 : decode cJ2_getChar_3b067 49 = .ok (.sipush 255, 3) := by decide +kernel
theorem dJ2_getChar_3b067_52 : decode cJ2_getChar_3b067 52 = .ok (.iand, 1) := by decide +kernel
theorem dJ2_getChar_3b067_53 : decode cJ2_getChar_3b067 53 = .ok (.getstatic 63, 3) := by decide +kernel
theorem dJ2_getChar_3b067_56 : decode cJ2_getChar_3b067 56 = .ok (.ishl, 1) := by decide +kernel
theorem dJ2_getChar_3b067_57 : decode cJ2_getChar_3b067 57 = .ok (.ior, 1) := by decide +kernel
theorem dJ2_getChar_3b067_58 : decode cJ2_getChar_3b067 58 = .ok (.i2c, 1) := by decide +kernel
theorem dJ2_getChar_3b067_59 : decode cJ2_getChar_3b067 59 = .ok (.ireturn, 1) := by decide +kernel
theorem dJ2_length_9d52b_0 : decode cJ2_length_9d52b 0 = .ok (.aload_n 0, 1) := by decide +kernel
theorem dJ2_length_9d52b_1 : decode cJ2_length_9d52b 1 = .ok (.arraylength, 1) := by decide +kernel
theorem dJ2_length_9d52b_2 : decode cJ2_length_9d52b 2 = .ok (.iconst 1, 1) := by decide +kernel
theorem dJ2_length_9d52b_3 : decode cJ2_length_9d52b 3 = .ok (.ishr, 1) := by decide +kernel
theorem dJ2_length_9d52b_4 : decode cJ2_length_9d52b 4 = .ok (.ireturn, 1) := by decide +kernel
theorem dJ2_charAt_3b067_0 : decode cJ2_charAt_3b067 0 = .ok (.iload_n 1, 1) := by decide +kernel
theorem dJ2_charAt_3b067_1 : decode cJ2_charAt_3b067 1 = .ok (.aload_n 0, 1) := by decide +kernel
theorem dJ2_charAt_3b067_2 : decode cJ2_charAt_3b067 2 = .ok (.invokestatic 67, 3) := by decide +kernel
theorem dJ2_charAt_3b067_5 : decode cJ2_charAt_3b067 5 = .ok (.aload_n 0, 1) := by decide +kernel
theorem dJ2_charAt_3b067_6 : decode cJ2_charAt_3b067 6 = .ok (.iload_n 1, 1) := by decide +kernel
theorem dJ2_charAt_3b067_7 : decode cJ2_charAt_3b067 7 = .ok (.invokestatic 71, 3) := by decide +kernel
theorem dJ2_charAt_3b067_10 : decode cJ2_charAt_3b067 10 = .ok (.ireturn, 1) := by decide +kernel
theorem dJ2_checkIndex_2214a_0 : decode cJ2_checkIndex_2214a 0 = .ok (.iload_n 0, 1) := by decide +kernel
theorem dJ2_checkIndex_2214a_1 : decode cJ2_checkIndex_2214a 1 = .ok (.aload_n 1, 1) := by decide +kernel
theorem dJ2_checkIndex_2214a_2 : decode cJ2_checkIndex_2214a 2 = .ok (.invokestatic 48, 3) := by decide +kernel
theorem dJ2_checkIndex_2214a_5 : decode cJ2_checkIndex_2214a 5 = .ok (.invokestatic 414, 3) := by decide +kernel
theorem dJ2_checkIndex_2214a_8 : decode cJ2_checkIndex_2214a 8 = .ok (.return_, 1) := by decide +kernel
theorem dJ3_checkIndex_8e157_0 : decode cJ3_checkIndex_8e157 0 = .ok (.iload_n 0, 1) := by decide +kernel
theorem dJ3_checkIndex_8e157_1 : decode cJ3_checkIndex_8e157 1 = .ok (.ifCond .lt 8, 3) := by decide +kernel
theorem dJ3_checkIndex_8e157_4 : decode cJ3_checkIndex_8e157 4 = .ok (.iload_n 0, 1) := by decide +kernel
theorem dJ3_checkIndex_8e157_5 : decode cJ3_checkIndex_8e157 5 = .ok (.iload_n 1, 1) := by decide +kernel
theorem dJ3_checkIndex_8e157_6 : decode cJ3_checkIndex_8e157 6 = .ok (.if_icmp .lt 10, 3) := by decide +kernel
theorem dJ3_checkIndex_8e157_9 : decode cJ3_checkIndex_8e157 9 = .ok (.aload_n 2, 1) := by decide +kernel
theorem dJ3_checkIndex_8e157_10 : decode cJ3_checkIndex_8e157 10 = .ok (.iload_n 0, 1) := by decide +kernel
theorem dJ3_checkIndex_8e157_11 : decode cJ3_checkIndex_8e157 11 = .ok (.iload_n 1, 1) := by decide +kernel
theorem dJ3_checkIndex_8e157_12 : decode cJ3_checkIndex_8e157 12 = .ok (.invokestatic 95, 3) := by decide +kernel
theorem dJ3_checkIndex_8e157_15 : decode cJ3_checkIndex_8e157 15 = .ok (.athrow, 1) := by decide +kernel
theorem dJ3_checkIndex_8e157_16 : decode cJ3_checkIndex_8e157 16 = .ok (.iload_n 0, 1) := by decide +kernel
theorem dJ3_checkIndex_8e157_17 : decode cJ3_checkIndex_8e157 17 = .ok (.ireturn, 1) := by decide +kernel
theorem dL_sign_0 : decode cL_sign 0 = .ok (.aload_n 0, 1) := by decide +kernel
theorem dL_sign_1 : decode cL_sign 1 = .ok (.iconst 0, 1) := by decide +kernel
theorem dL_sign_2 : decode cL_sign 2 = .ok (.iaload, 1) := by decide +kernel
theorem dL_sign_3 : decode cL_sign 3 = .ok (.istore_n 2, 1) := by decide +kernel
theorem dL_sign_4 : decode cL_sign 4 = .ok (.aload_n 0, 1) := by decide +kernel
theorem dL_sign_5 : decode cL_sign 5 = .ok (.iconst 1, 1) := by decide +kernel
theorem dL_sign_6 : decode cL_sign 6 = .ok (.iload_n 2, 1) := by decide +kernel
theorem dL_sign_7 : decode cL_sign 7 = .ok (.iconst 4, 1) := by decide +kernel
theorem dL_sign_8 : decode cL_sign 8 = .ok (.idiv, 1) := by decide +kernel
theorem dL_sign_9 : decode cL_sign 9 = .ok (.iadd, 1) := by decide +kernel
theorem dL_sign_10 : decode cL_sign 10 = .ok (.aload_n 0, 1) := by decide +kernel
theorem dL_sign_11 : decode cL_sign 11 = .ok (.iconst 1, 1) := by decide +kernel
theorem dL_sign_12 : decode cL_sign 12 = .ok (.iload_n 2, 1) := by decide +kernel
theorem dL_sign_13 : decode cL_sign 13 = .ok (.iconst 4, 1) := by decide +kernel
theorem dL_sign_14 : decode cL_sign 14 = .ok (.idiv, 1) := by decide +kernel
theorem dL_sign_15 : decode cL_sign 15 = .ok (.iadd, 1) := by decide +kernel
theorem dL_sign_16 : decode cL_sign 16 = .ok (.iaload, 1) := by decide +kernel
theorem dL_sign_17 : decode cL_sign 17 = .ok (.iload_n 1, 1) := by decide +kernel
theorem dL_sign_18 : decode cL_sign 18 = .ok (.sipush 255, 3) := by decide +kernel
theorem dL_sign_21 : decode cL_sign 21 = .ok (.iand, 1) := by decide +kernel
theorem dL_sign_22 : decode cL_sign 22 = .ok (.bipush 24, 2) := by decide +kernel
theorem dL_sign_24 : decode cL_sign 24 = .ok (.bipush 8, 2) := by decide +kernel
theorem dL_sign_26 : decode cL_sign 26 = .ok (.iload_n 2, 1) := by decide +kernel
theorem dL_sign_27 : decode cL_sign 27 = .ok (.iconst 4, 1) := by decide +kernel
theorem dL_sign_28 : decode cL_sign 28 = .ok (.irem, 1) := by decide +kernel
theorem dL_sign_29 : decode cL_sign 29 = .ok (.imul, 1) := by decide +kernel
theorem dL_sign_30 : decode cL_sign 30 = .ok (.isub, 1) := by decide +kernel
theorem dL_sign_31 : decode cL_sign 31 = .ok (.ishl, 1) := by decide +kernel
theorem dL_sign_32 : decode cL_sign 32 = .ok (.ior, 1) := by decide +kernel
theorem dL_sign_33 : decode cL_sign 33 = .ok (.iastore, 1) := by decide +kernel
theorem dL_sign_34 : decode cL_sign 34 = .ok (.aload_n 0, 1) := by decide +kernel
theorem dL_sign_35 : decode cL_sign 35 = .ok (.iconst 0, 1) := by decide +kernel
theorem dL_sign_36 : decode cL_sign 36 = .ok (.iload_n 2, 1) := by decide +kernel
theorem dL_sign_37 : decode cL_sign 37 = .ok (.iconst 1, 1) := by decide +kernel
theorem dL_sign_38 : decode cL_sign 38 = .ok (.iadd, 1) := by decide +kernel
theorem dL_sign_39 : decode cL_sign 39 = .ok (.iastore, 1) := by decide +kernel
theorem dL_sign_40 : decode cL_sign 40 = .ok (.return_, 1) := by decide +kernel
theorem dL_text_0 : decode cL_text 0 = .ok (.bipush 56, 2) := by decide +kernel
theorem dL_text_2 : decode cL_text 2 = .ok (.istore_n 3, 1) := by decide +kernel
theorem dL_text_3 : decode cL_text 3 = .ok (.iload_n 3, 1) := by decide +kernel
theorem dL_text_4 : decode cL_text 4 = .ok (.ifCond .lt 30, 3) := by decide +kernel
theorem dL_text_7 : decode cL_text 7 = .ok (.lload_n 1, 1) := by decide +kernel
theorem dL_text_8 : decode cL_text 8 = .ok (.iload_n 3, 1) := by decide +kernel
theorem dL_text_9 : decode cL_text 9 = .ok (.lshr, 1) := by decide +kernel
theorem dL_text_10 : decode cL_text 10 = .ok (.ldc2_w 7, 3) := by decide +kernel
theorem dL_text_13 : decode cL_text 13 = .ok (.land, 1) := by decide +kernel
theorem dL_text_14 : decode cL_text 14 = .ok (.l2i, 1) := by decide +kernel
theorem dL_text_15 : decode cL_text 15 = .ok (.istore 4, 2) := by decide +kernel
theorem dL_text_17 : decode cL_text 17 = .ok (.iload 4, 2) := by decide +kernel
theorem dL_text_19 : decode cL_text 19 = .ok (.ifCond .le 9, 3) := by decide +kernel
theorem dL_text_22 : decode cL_text 22 = .ok (.aload_n 0, 1) := by decide +kernel
theorem dL_text_23 : decode cL_text 23 = .ok (.iload 4, 2) := by decide +kernel
theorem dL_text_25 : decode cL_text 25 = .ok (.invokestatic 9, 3) := by decide +kernel
theorem dL_text_28 : decode cL_text 28 = .ok (.iinc 3 (-8), 3) := by decide +kernel
theorem dL_text_31 : decode cL_text 31 = .ok (.goto (-28), 3) := by decide +kernel
theorem dL_text_34 : decode cL_text 34 = .ok (.return_, 1) := by decide +kernel
theorem dL_number_0 : decode cL_number 0 = .ok (.iconst 1, 1) := by decide +kernel
theorem dL_number_1 : decode cL_number 1 = .ok (.istore_n 2, 1) := by decide +kernel
theorem dL_number_2 : decode cL_number 2 = .ok (.iload_n 1, 1) := by decide +kernel
theorem dL_number_3 : decode cL_number 3 = .ok (.iload_n 2, 1) := by decide +kernel
theorem dL_number_4 : decode cL_number 4 = .ok (.idiv, 1) := by decide +kernel
theorem dL_number_5 : decode cL_number 5 = .ok (.bipush 9, 2) := by decide +kernel
theorem dL_number_7 : decode cL_number 7 = .ok (.if_icmp .le 11, 3) := by decide +kernel
theorem dL_number_10 : decode cL_number 10 = .ok (.bipush 10, 2) := by decide +kernel
theorem dL_number_12 : decode cL_number 12 = .ok (.iload_n 2, 1) := by decide +kernel
theorem dL_number_13 : decode cL_number 13 = .ok (.imul, 1) := by decide +kernel
theorem dL_number_14 : decode cL_number 14 = .ok (.istore_n 2, 1) := by decide +kernel
theorem dL_number_15 : decode cL_number 15 = .ok (.goto (-13), 3) := by decide +kernel
theorem dL_number_18 : decode cL_number 18 = .ok (.iload_n 2, 1) := by decide +kernel
theorem dL_number_19 : decode cL_number 19 = .ok (.ifCond .le 24, 3) := by decide +kernel
theorem dL_number_22 : decode cL_number 22 = .ok (.aload_n 0, 1) := by decide +kernel
theorem dL_number_23 : decode cL_number 23 = .ok (.bipush 48, 2) := by decide +kernel
theorem dL_number_25 : decode cL_number 25 = .ok (.iload_n 1, 1) := by decide +kernel
theorem dL_number_26 : decode cL_number 26 = .ok (.iload_n 2, 1) := by decide +kernel
theorem dL_number_27 : decode cL_number 27 = .ok (.idiv, 1) := by decide +kernel
theorem dL_number_28 : decode cL_number 28 = .ok (.bipush 10, 2) := by decide +kernel
theorem dL_number_30 : decode cL_number 30 = .ok (.irem, 1) := by decide +kernel
theorem dL_number_31 : decode cL_number 31 = .ok (.iadd, 1) := by decide +kernel
theorem dL_number_32 : decode cL_number 32 = .ok (.invokestatic 9, 3) := by decide +kernel
theorem dL_number_35 : decode cL_number 35 = .ok (.iload_n 2, 1) := by decide +kernel
theorem dL_number_36 : decode cL_number 36 = .ok (.bipush 10, 2) := by decide +kernel
theorem dL_number_38 : decode cL_number 38 = .ok (.idiv, 1) := by decide +kernel
theorem dL_number_39 : decode cL_number 39 = .ok (.istore_n 2, 1) := by decide +kernel
theorem dL_number_40 : decode cL_number 40 = .ok (.goto (-22), 3) := by decide +kernel
theorem dL_number_43 : decode cL_number 43 = .ok (.return_, 1) := by decide +kernel
theorem dL_send_0 : decode cL_send 0 = .ok (.aload_n 1, 1) := by decide +kernel
theorem dL_send_1 : decode cL_send 1 = .ok (.iconst 0, 1) := by decide +kernel
theorem dL_send_2 : decode cL_send 2 = .ok (.iaload, 1) := by decide +kernel
theorem dL_send_3 : decode cL_send 3 = .ok (.istore_n 2, 1) := by decide +kernel
theorem dL_send_4 : decode cL_send 4 = .ok (.iconst 1, 1) := by decide +kernel
theorem dL_send_5 : decode cL_send 5 = .ok (.istore_n 3, 1) := by decide +kernel
theorem dL_send_6 : decode cL_send 6 = .ok (.iconst 4, 1) := by decide +kernel
theorem dL_send_7 : decode cL_send 7 = .ok (.iload_n 3, 1) := by decide +kernel
theorem dL_send_8 : decode cL_send 8 = .ok (.imul, 1) := by decide +kernel
theorem dL_send_9 : decode cL_send 9 = .ok (.iconst 4, 1) := by decide +kernel
theorem dL_send_10 : decode cL_send 10 = .ok (.isub, 1) := by decide +kernel
theorem dL_send_11 : decode cL_send 11 = .ok (.iload_n 2, 1) := by decide +kernel
theorem dL_send_12 : decode cL_send 12 = .ok (.if_icmp .ge 77, 3) := by decide +kernel
theorem dL_send_15 : decode cL_send 15 = .ok (.aload_n 0, 1) := by decide +kernel
theorem dL_send_16 : decode cL_send 16 = .ok (.aload_n 1, 1) := by decide +kernel
theorem dL_send_17 : decode cL_send 17 = .ok (.iload_n 3, 1) := by decide +kernel
theorem dL_send_18 : decode cL_send 18 = .ok (.iaload, 1) := by decide +kernel
theorem dL_send_19 : decode cL_send 19 = .ok (.iload_n 3, 1) := by decide +kernel
theorem dL_send_20 : decode cL_send 20 = .ok (.bipush 63, 2) := by decide +kernel
theorem dL_send_22 : decode cL_send 22 = .ok (.if_icmp .ge 11, 3) := by decide +kernel
theorem dL_send_25 : decode cL_send 25 = .ok (.aload_n 1, 1) := by decide +kernel
theorem dL_send_26 : decode cL_send 26 = .ok (.iload_n 3, 1) := by decide +kernel
theorem dL_send_27 : decode cL_send 27 = .ok (.iconst 1, 1) := by decide +kernel
theorem dL_send_28 : decode cL_send 28 = .ok (.iadd, 1) := by decide +kernel
theorem dL_send_29 : decode cL_send 29 = .ok (.iaload, 1) := by decide +kernel
theorem dL_send_30 : decode cL_send 30 = .ok (.goto 4, 3) := by decide +kernel
theorem dL_send_33 : decode cL_send 33 = .ok (.iconst 0, 1) := by decide +kernel
theorem dL_send_34 : decode cL_send 34 = .ok (.iload_n 3, 1) := by decide +kernel
theorem dL_send_35 : decode cL_send 35 = .ok (.bipush 62, 2) := by decide +kernel
theorem dL_send_37 : decode cL_send 37 = .ok (.if_icmp .ge 11, 3) := by decide +kernel
theorem dL_send_40 : decode cL_send 40 = .ok (.aload_n 1, 1) := by decide +kernel
theorem dL_send_41 : decode cL_send 41 = .ok (.iload_n 3, 1) := by decide +kernel
theorem dL_send_42 : decode cL_send 42 = .ok (.iconst 2, 1) := by decide +kernel
theorem dL_send_43 : decode cL_send 43 = .ok (.iadd, 1) := by decide +kernel
theorem dL_send_44 : decode cL_send 44 = .ok (.iaload, 1) := by decide +kernel
theorem dL_send_45 : decode cL_send 45 = .ok (.goto 4, 3) := by decide +kernel
theorem dL_send_48 : decode cL_send 48 = .ok (.iconst 0, 1) := by decide +kernel
theorem dL_send_49 : decode cL_send 49 = .ok (.iload_n 3, 1) := by decide +kernel
theorem dL_send_50 : decode cL_send 50 = .ok (.bipush 61, 2) := by decide +kernel
theorem dL_send_52 : decode cL_send 52 = .ok (.if_icmp .ge 11, 3) := by decide +kernel
theorem dL_send_55 : decode cL_send 55 = .ok (.aload_n 1, 1) := by decide +kernel
theorem dL_send_56 : decode cL_send 56 = .ok (.iload_n 3, 1) := by decide +kernel
theorem dL_send_57 : decode cL_send 57 = .ok (.iconst 3, 1) := by decide +kernel
theorem dL_send_58 : decode cL_send 58 = .ok (.iadd, 1) := by decide +kernel
theorem dL_send_59 : decode cL_send 59 = .ok (.iaload, 1) := by decide +kernel
theorem dL_send_60 : decode cL_send 60 = .ok (.goto 4, 3) := by decide +kernel
theorem dL_send_63 : decode cL_send 63 = .ok (.iconst 0, 1) := by decide +kernel
theorem dL_send_64 : decode cL_send 64 = .ok (.iload_n 3, 1) := by decide +kernel
theorem dL_send_65 : decode cL_send 65 = .ok (.bipush 60, 2) := by decide +kernel
theorem dL_send_67 : decode cL_send 67 = .ok (.if_icmp .ge 11, 3) := by decide +kernel
theorem dL_send_70 : decode cL_send 70 = .ok (.aload_n 1, 1) := by decide +kernel
theorem dL_send_71 : decode cL_send 71 = .ok (.iload_n 3, 1) := by decide +kernel
theorem dL_send_72 : decode cL_send 72 = .ok (.iconst 4, 1) := by decide +kernel
theorem dL_send_73 : decode cL_send 73 = .ok (.iadd, 1) := by decide +kernel
theorem dL_send_74 : decode cL_send 74 = .ok (.iaload, 1) := by decide +kernel
theorem dL_send_75 : decode cL_send 75 = .ok (.goto 4, 3) := by decide +kernel
theorem dL_send_78 : decode cL_send 78 = .ok (.iconst 0, 1) := by decide +kernel
theorem dL_send_79 : decode cL_send 79 = .ok (.invokevirtual 15, 3) := by decide +kernel
theorem dL_send_82 : decode cL_send 82 = .ok (.pop, 1) := by decide +kernel
theorem dL_send_83 : decode cL_send 83 = .ok (.iinc 3 5, 3) := by decide +kernel
theorem dL_send_86 : decode cL_send 86 = .ok (.goto (-80), 3) := by decide +kernel
theorem dL_send_89 : decode cL_send 89 = .ok (.aload_n 0, 1) := by decide +kernel
theorem dL_send_90 : decode cL_send 90 = .ok (.iload_n 2, 1) := by decide +kernel
theorem dL_send_91 : decode cL_send 91 = .ok (.invokevirtual 21, 3) := by decide +kernel
theorem dL_send_94 : decode cL_send 94 = .ok (.pop, 1) := by decide +kernel
theorem dL_send_95 : decode cL_send 95 = .ok (.iconst 0, 1) := by decide +kernel
theorem dL_send_96 : decode cL_send 96 = .ok (.istore_n 3, 1) := by decide +kernel
theorem dL_send_97 : decode cL_send 97 = .ok (.iload_n 3, 1) := by decide +kernel
theorem dL_send_98 : decode cL_send 98 = .ok (.bipush 64, 2) := by decide +kernel
theorem dL_send_100 : decode cL_send 100 = .ok (.if_icmp .ge 13, 3) := by decide +kernel
theorem dL_send_103 : decode cL_send 103 = .ok (.aload_n 1, 1) := by decide +kernel
theorem dL_send_104 : decode cL_send 104 = .ok (.iload_n 3, 1) := by decide +kernel
theorem dL_send_105 : decode cL_send 105 = .ok (.iconst 0, 1) := by decide +kernel
theorem dL_send_106 : decode cL_send 106 = .ok (.iastore, 1) := by decide +kernel
theorem dL_send_107 : decode cL_send 107 = .ok (.iinc 3 1, 3) := by decide +kernel
theorem dL_send_110 : decode cL_send 110 = .ok (.goto (-13), 3) := by decide +kernel
theorem dL_send_113 : decode cL_send 113 = .ok (.return_, 1) := by decide +kernel
theorem dL_cell_0 : decode cL_cell 0 = .ok (.iload_n 1, 1) := by decide +kernel
theorem dL_cell_1 : decode cL_cell 1 = .ok (.aload_n 0, 1) := by decide +kernel
theorem dL_cell_2 : decode cL_cell 2 = .ok (.arraylength, 1) := by decide +kernel
theorem dL_cell_3 : decode cL_cell 3 = .ok (.if_icmp .ge 9, 3) := by decide +kernel
theorem dL_cell_6 : decode cL_cell 6 = .ok (.aload_n 0, 1) := by decide +kernel
theorem dL_cell_7 : decode cL_cell 7 = .ok (.iload_n 1, 1) := by decide +kernel
theorem dL_cell_8 : decode cL_cell 8 = .ok (.iaload, 1) := by decide +kernel
theorem dL_cell_9 : decode cL_cell 9 = .ok (.goto 4, 3) := by decide +kernel
theorem dL_cell_12 : decode cL_cell 12 = .ok (.iconst 0, 1) := by decide +kernel
theorem dL_cell_13 : decode cL_cell 13 = .ok (.ireturn, 1) := by decide +kernel
theorem dL_two_0 : decode cL_two 0 = .ok (.aload_n 0, 1) := by decide +kernel
theorem dL_two_1 : decode cL_two 1 = .ok (.bipush 32, 2) := by decide +kernel
theorem dL_two_3 : decode cL_two 3 = .ok (.invokestatic 9, 3) := by decide +kernel
theorem dL_two_6 : decode cL_two 6 = .ok (.aload_n 0, 1) := by decide +kernel
theorem dL_two_7 : decode cL_two 7 = .ok (.iload_n 1, 1) := by decide +kernel
theorem dL_two_8 : decode cL_two 8 = .ok (.invokestatic 25, 3) := by decide +kernel
theorem dL_two_11 : decode cL_two 11 = .ok (.aload_n 0, 1) := by decide +kernel
theorem dL_two_12 : decode cL_two 12 = .ok (.bipush 32, 2) := by decide +kernel
theorem dL_two_14 : decode cL_two 14 = .ok (.invokestatic 9, 3) := by decide +kernel
theorem dL_two_17 : decode cL_two 17 = .ok (.aload_n 0, 1) := by decide +kernel
theorem dL_two_18 : decode cL_two 18 = .ok (.iload_n 2, 1) := by decide +kernel
theorem dL_two_19 : decode cL_two 19 = .ok (.invokestatic 25, 3) := by decide +kernel
theorem dL_two_22 : decode cL_two 22 = .ok (.aload_n 0, 1) := by decide +kernel
theorem dL_two_23 : decode cL_two 23 = .ok (.bipush 59, 2) := by decide +kernel
theorem dL_two_25 : decode cL_two 25 = .ok (.invokestatic 9, 3) := by decide +kernel
theorem dL_two_28 : decode cL_two 28 = .ok (.return_, 1) := by decide +kernel
theorem dL_plane_0 : decode cL_plane 0 = .ok (.bipush 23, 2) := by decide +kernel
theorem dL_plane_2 : decode cL_plane 2 = .ok (.newarray .int, 2) := by decide +kernel
theorem dL_plane_4 : decode cL_plane 4 = .ok (.astore_n 1, 1) := by decide +kernel
theorem dL_plane_5 : decode cL_plane 5 = .ok (.aload_n 0, 1) := by decide +kernel
theorem dL_plane_6 : decode cL_plane 6 = .ok (.iconst 0, 1) := by decide +kernel
theorem dL_plane_7 : decode cL_plane 7 = .ok (.invokestatic 28, 3) := by decide +kernel
theorem dL_plane_10 : decode cL_plane 10 = .ok (.istore_n 2, 1) := by decide +kernel
theorem dL_plane_11 : decode cL_plane 11 = .ok (.aload_n 0, 1) := by decide +kernel
theorem dL_plane_12 : decode cL_plane 12 = .ok (.iconst 1, 1) := by decide +kernel
theorem dL_plane_13 : decode cL_plane 13 = .ok (.invokestatic 28, 3) := by decide +kernel
theorem dL_plane_16 : decode cL_plane 16 = .ok (.istore_n 3, 1) := by decide +kernel
theorem dL_plane_17 : decode cL_plane 17 = .ok (.aload_n 1, 1) := by decide +kernel
theorem dL_plane_18 : decode cL_plane 18 = .ok (.iconst 0, 1) := by decide +kernel
theorem dL_plane_19 : decode cL_plane 19 = .ok (.bipush 20, 2) := by decide +kernel
theorem dL_plane_21 : decode cL_plane 21 = .ok (.iload_n 2, 1) := by decide +kernel
theorem dL_plane_22 : decode cL_plane 22 = .ok (.bipush 63, 2) := by decide +kernel
theorem dL_plane_24 : decode cL_plane 24 = .ok (.iand, 1) := by decide +kernel
theorem dL_plane_25 : decode cL_plane 25 = .ok (.iadd, 1) := by decide +kernel
theorem dL_plane_26 : decode cL_plane 26 = .ok (.iastore, 1) := by decide +kernel
theorem dL_plane_27 : decode cL_plane 27 = .ok (.aload_n 1, 1) := by decide +kernel
theorem dL_plane_28 : decode cL_plane 28 = .ok (.iconst 1, 1) := by decide +kernel
theorem dL_plane_29 : decode cL_plane 29 = .ok (.bipush 40, 2) := by decide +kernel
theorem dL_plane_31 : decode cL_plane 31 = .ok (.iload_n 2, 1) := by decide +kernel
theorem dL_plane_32 : decode cL_plane 32 = .ok (.bipush 6, 2) := by decide +kernel
theorem dL_plane_34 : decode cL_plane 34 = .ok (.ishr, 1) := by decide +kernel
theorem dL_plane_35 : decode cL_plane 35 = .ok (.bipush 15, 2) := by decide +kernel
theorem dL_plane_37 : decode cL_plane 37 = .ok (.iand, 1) := by decide +kernel
theorem dL_plane_38 : decode cL_plane 38 = .ok (.iadd, 1) := by decide +kernel
theorem dL_plane_39 : decode cL_plane 39 = .ok (.iastore, 1) := by decide +kernel
theorem dL_plane_40 : decode cL_plane 40 = .ok (.aload_n 1, 1) := by decide +kernel
theorem dL_plane_41 : decode cL_plane 41 = .ok (.iconst 2, 1) := by decide +kernel
theorem dL_plane_42 : decode cL_plane 42 = .ok (.bipush 35, 2) := by decide +kernel
theorem dL_plane_44 : decode cL_plane 44 = .ok (.iload_n 2, 1) := by decide +kernel
theorem dL_plane_45 : decode cL_plane 45 = .ok (.bipush 10, 2) := by decide +kernel
theorem dL_plane_47 : decode cL_plane 47 = .ok (.ishr, 1) := by decide +kernel
theorem dL_plane_48 : decode cL_plane 48 = .ok (.bipush 7, 2) := by decide +kernel
theorem dL_plane_50 : decode cL_plane 50 = .ok (.iand, 1) := by decide +kernel
theorem dL_plane_51 : decode cL_plane 51 = .ok (.iadd, 1) := by decide +kernel
theorem dL_plane_52 : decode cL_plane 52 = .ok (.iastore, 1) := by decide +kernel
theorem dL_plane_53 : decode cL_plane 53 = .ok (.aload_n 1, 1) := by decide +kernel
theorem dL_plane_54 : decode cL_plane 54 = .ok (.iconst 3, 1) := by decide +kernel
theorem dL_plane_55 : decode cL_plane 55 = .ok (.bipush 50, 2) := by decide +kernel
theorem dL_plane_57 : decode cL_plane 57 = .ok (.iload_n 2, 1) := by decide +kernel
theorem dL_plane_58 : decode cL_plane 58 = .ok (.bipush 13, 2) := by decide +kernel
theorem dL_plane_60 : decode cL_plane 60 = .ok (.ishr, 1) := by decide +kernel
theorem dL_plane_61 : decode cL_plane 61 = .ok (.bipush 15, 2) := by decide +kernel
theorem dL_plane_63 : decode cL_plane 63 = .ok (.iand, 1) := by decide +kernel
theorem dL_plane_64 : decode cL_plane 64 = .ok (.iadd, 1) := by decide +kernel
theorem dL_plane_65 : decode cL_plane 65 = .ok (.iastore, 1) := by decide +kernel
theorem dL_plane_66 : decode cL_plane 66 = .ok (.aload_n 1, 1) := by decide +kernel
theorem dL_plane_67 : decode cL_plane 67 = .ok (.iconst 4, 1) := by decide +kernel
theorem dL_plane_68 : decode cL_plane 68 = .ok (.bipush 20, 2) := by decide +kernel
theorem dL_plane_70 : decode cL_plane 70 = .ok (.iload_n 2, 1) := by decide +kernel
theorem dL_plane_71 : decode cL_plane 71 = .ok (.bipush 17, 2) := by decide +kernel
theorem dL_plane_73 : decode cL_plane 73 = .ok (.ishr, 1) := by decide +kernel
theorem dL_plane_74 : decode cL_plane 74 = .ok (.bipush 63, 2) := by decide +kernel
theorem dL_plane_76 : decode cL_plane 76 = .ok (.iand, 1) := by decide +kernel
theorem dL_plane_77 : decode cL_plane 77 = .ok (.iadd, 1) := by decide +kernel
theorem dL_plane_78 : decode cL_plane 78 = .ok (.iastore, 1) := by decide +kernel
theorem dL_plane_79 : decode cL_plane 79 = .ok (.aload_n 1, 1) := by decide +kernel
theorem dL_plane_80 : decode cL_plane 80 = .ok (.iconst 5, 1) := by decide +kernel
theorem dL_plane_81 : decode cL_plane 81 = .ok (.bipush 20, 2) := by decide +kernel
theorem dL_plane_83 : decode cL_plane 83 = .ok (.iload_n 2, 1) := by decide +kernel
theorem dL_plane_84 : decode cL_plane 84 = .ok (.bipush 23, 2) := by decide +kernel
theorem dL_plane_86 : decode cL_plane 86 = .ok (.ishr, 1) := by decide +kernel
theorem dL_plane_87 : decode cL_plane 87 = .ok (.bipush 63, 2) := by decide +kernel
theorem dL_plane_89 : decode cL_plane 89 = .ok (.iand, 1) := by decide +kernel
theorem dL_plane_90 : decode cL_plane 90 = .ok (.iadd, 1) := by decide +kernel
theorem dL_plane_91 : decode cL_plane 91 = .ok (.iastore, 1) := by decide +kernel
theorem dL_plane_92 : decode cL_plane 92 = .ok (.aload_n 1, 1) := by decide +kernel
theorem dL_plane_93 : decode cL_plane 93 = .ok (.bipush 6, 2) := by decide +kernel
theorem dL_plane_95 : decode cL_plane 95 = .ok (.iload_n 3, 1) := by decide +kernel
theorem dL_plane_96 : decode cL_plane 96 = .ok (.iconst 1, 1) := by decide +kernel
theorem dL_plane_97 : decode cL_plane 97 = .ok (.iand, 1) := by decide +kernel
theorem dL_plane_98 : decode cL_plane 98 = .ok (.iastore, 1) := by decide +kernel
theorem dL_plane_99 : decode cL_plane 99 = .ok (.aload_n 1, 1) := by decide +kernel
theorem dL_plane_100 : decode cL_plane 100 = .ok (.bipush 7, 2) := by decide +kernel
theorem dL_plane_102 : decode cL_plane 102 = .ok (.iload_n 3, 1) := by decide +kernel
theorem dL_plane_103 : decode cL_plane 103 = .ok (.iconst 1, 1) := by decide +kernel
theorem dL_plane_104 : decode cL_plane 104 = .ok (.ishr, 1) := by decide +kernel
theorem dL_plane_105 : decode cL_plane 105 = .ok (.iconst 1, 1) := by decide +kernel
theorem dL_plane_106 : decode cL_plane 106 = .ok (.iand, 1) := by decide +kernel
theorem dL_plane_107 : decode cL_plane 107 = .ok (.iastore, 1) := by decide +kernel
theorem dL_plane_108 : decode cL_plane 108 = .ok (.iconst 0, 1) := by decide +kernel
theorem dL_plane_109 : decode cL_plane 109 = .ok (.istore 4, 2) := by decide +kernel
theorem dL_plane_111 : decode cL_plane 111 = .ok (.iload 4, 2) := by decide +kernel
theorem dL_plane_113 : decode cL_plane 113 = .ok (.iconst 4, 1) := by decide +kernel
theorem dL_plane_114 : decode cL_plane 114 = .ok (.if_icmp .ge 56, 3) := by decide +kernel
theorem dL_plane_117 : decode cL_plane 117 = .ok (.aload_n 1, 1) := by decide +kernel
theorem dL_plane_118 : decode cL_plane 118 = .ok (.bipush 8, 2) := by decide +kernel
theorem dL_plane_120 : decode cL_plane 120 = .ok (.iload 4, 2) := by decide +kernel
theorem dL_plane_122 : decode cL_plane 122 = .ok (.iadd, 1) := by decide +kernel
theorem dL_plane_123 : decode cL_plane 123 = .ok (.bipush 20, 2) := by decide +kernel
theorem dL_plane_125 : decode cL_plane 125 = .ok (.iload 4, 2) := by decide +kernel
theorem dL_plane_127 : decode cL_plane 127 = .ok (.imul, 1) := by decide +kernel
theorem dL_plane_128 : decode cL_plane 128 = .ok (.iload_n 3, 1) := by decide +kernel
theorem dL_plane_129 : decode cL_plane 129 = .ok (.iconst 2, 1) := by decide +kernel
theorem dL_plane_130 : decode cL_plane 130 = .ok (.iconst 3, 1) := by decide +kernel
theorem dL_plane_131 : decode cL_plane 131 = .ok (.iload 4, 2) := by decide +kernel
theorem dL_plane_133 : decode cL_plane 133 = .ok (.imul, 1) := by decide +kernel
theorem dL_plane_134 : decode cL_plane 134 = .ok (.iadd, 1) := by decide +kernel
theorem dL_plane_135 : decode cL_plane 135 = .ok (.ishr, 1) := by decide +kernel
theorem dL_plane_136 : decode cL_plane 136 = .ok (.bipush 7, 2) := by decide +kernel
theorem dL_plane_138 : decode cL_plane 138 = .ok (.iand, 1) := by decide +kernel
theorem dL_plane_139 : decode cL_plane 139 = .ok (.iadd, 1) := by decide +kernel
theorem dL_plane_140 : decode cL_plane 140 = .ok (.iastore, 1) := by decide +kernel
theorem dL_plane_141 : decode cL_plane 141 = .ok (.aload_n 1, 1) := by decide +kernel
theorem dL_plane_142 : decode cL_plane 142 = .ok (.bipush 12, 2) := by decide +kernel
theorem dL_plane_144 : decode cL_plane 144 = .ok (.iload 4, 2) := by decide +kernel
theorem dL_plane_146 : decode cL_plane 146 = .ok (.iadd, 1) := by decide +kernel
theorem dL_plane_147 : decode cL_plane 147 = .ok (.bipush 10, 2) := by decide +kernel
theorem dL_plane_149 : decode cL_plane 149 = .ok (.aload_n 0, 1) := by decide +kernel
theorem dL_plane_150 : decode cL_plane 150 = .ok (.iconst 2, 1) := by decide +kernel
theorem dL_plane_151 : decode cL_plane 151 = .ok (.invokestatic 28, 3) := by decide +kernel
theorem dL_plane_154 : decode cL_plane 154 = .ok (.iconst 5, 1) := by decide +kernel
theorem dL_plane_155 : decode cL_plane 155 = .ok (.iload 4, 2) := by decide +kernel
theorem dL_plane_157 : decode cL_plane 157 = .ok (.imul, 1) := by decide +kernel
theorem dL_plane_158 : decode cL_plane 158 = .ok (.ishr, 1) := by decide +kernel
theorem dL_plane_159 : decode cL_plane 159 = .ok (.bipush 31, 2) := by decide +kernel
theorem dL_plane_161 : decode cL_plane 161 = .ok (.iand, 1) := by decide +kernel
theorem dL_plane_162 : decode cL_plane 162 = .ok (.iadd, 1) := by decide +kernel
theorem dL_plane_163 : decode cL_plane 163 = .ok (.iastore, 1) := by decide +kernel
theorem dL_plane_164 : decode cL_plane 164 = .ok (.iinc 4 1, 3) := by decide +kernel
theorem dL_plane_167 : decode cL_plane 167 = .ok (.goto (-56), 3) := by decide +kernel
theorem dL_plane_170 : decode cL_plane 170 = .ok (.aload_n 1, 1) := by decide +kernel
theorem dL_plane_171 : decode cL_plane 171 = .ok (.bipush 16, 2) := by decide +kernel
theorem dL_plane_173 : decode cL_plane 173 = .ok (.bipush 15, 2) := by decide +kernel
theorem dL_plane_175 : decode cL_plane 175 = .ok (.iload_n 3, 1) := by decide +kernel
theorem dL_plane_176 : decode cL_plane 176 = .ok (.bipush 14, 2) := by decide +kernel
theorem dL_plane_178 : decode cL_plane 178 = .ok (.ishr, 1) := by decide +kernel
theorem dL_plane_179 : decode cL_plane 179 = .ok (.bipush 63, 2) := by decide +kernel
theorem dL_plane_181 : decode cL_plane 181 = .ok (.iand, 1) := by decide +kernel
theorem dL_plane_182 : decode cL_plane 182 = .ok (.iadd, 1) := by decide +kernel
theorem dL_plane_183 : decode cL_plane 183 = .ok (.iastore, 1) := by decide +kernel
theorem dL_plane_184 : decode cL_plane 184 = .ok (.aload_n 1, 1) := by decide +kernel
theorem dL_plane_185 : decode cL_plane 185 = .ok (.bipush 17, 2) := by decide +kernel
theorem dL_plane_187 : decode cL_plane 187 = .ok (.iload_n 3, 1) := by decide +kernel
theorem dL_plane_188 : decode cL_plane 188 = .ok (.bipush 20, 2) := by decide +kernel
theorem dL_plane_190 : decode cL_plane 190 = .ok (.ishr, 1) := by decide +kernel
theorem dL_plane_191 : decode cL_plane 191 = .ok (.bipush 63, 2) := by decide +kernel
theorem dL_plane_193 : decode cL_plane 193 = .ok (.iand, 1) := by decide +kernel
theorem dL_plane_194 : decode cL_plane 194 = .ok (.iastore, 1) := by decide +kernel
theorem dL_plane_195 : decode cL_plane 195 = .ok (.aload_n 1, 1) := by decide +kernel
theorem dL_plane_196 : decode cL_plane 196 = .ok (.bipush 18, 2) := by decide +kernel
theorem dL_plane_198 : decode cL_plane 198 = .ok (.iconst 1, 1) := by decide +kernel
theorem dL_plane_199 : decode cL_plane 199 = .ok (.aload_n 0, 1) := by decide +kernel
theorem dL_plane_200 : decode cL_plane 200 = .ok (.iconst 2, 1) := by decide +kernel
theorem dL_plane_201 : decode cL_plane 201 = .ok (.invokestatic 28, 3) := by decide +kernel
theorem dL_plane_204 : decode cL_plane 204 = .ok (.bipush 20, 2) := by decide +kernel
theorem dL_plane_206 : decode cL_plane 206 = .ok (.ishr, 1) := by decide +kernel
theorem dL_plane_207 : decode cL_plane 207 = .ok (.iconst 3, 1) := by decide +kernel
theorem dL_plane_208 : decode cL_plane 208 = .ok (.iand, 1) := by decide +kernel
theorem dL_plane_209 : decode cL_plane 209 = .ok (.iadd, 1) := by decide +kernel
theorem dL_plane_210 : decode cL_plane 210 = .ok (.iastore, 1) := by decide +kernel
theorem dL_plane_211 : decode cL_plane 211 = .ok (.aload_n 1, 1) := by decide +kernel
theorem dL_plane_212 : decode cL_plane 212 = .ok (.bipush 19, 2) := by decide +kernel
theorem dL_plane_214 : decode cL_plane 214 = .ok (.bipush 30, 2) := by decide +kernel
theorem dL_plane_216 : decode cL_plane 216 = .ok (.iload_n 3, 1) := by decide +kernel
theorem dL_plane_217 : decode cL_plane 217 = .ok (.bipush 26, 2) := by decide +kernel
theorem dL_plane_219 : decode cL_plane 219 = .ok (.ishr, 1) := by decide +kernel
theorem dL_plane_220 : decode cL_plane 220 = .ok (.bipush 31, 2) := by decide +kernel
theorem dL_plane_222 : decode cL_plane 222 = .ok (.iand, 1) := by decide +kernel
theorem dL_plane_223 : decode cL_plane 223 = .ok (.iadd, 1) := by decide +kernel
theorem dL_plane_224 : decode cL_plane 224 = .ok (.iastore, 1) := by decide +kernel
theorem dL_plane_225 : decode cL_plane 225 = .ok (.aload_n 1, 1) := by decide +kernel
theorem dL_plane_226 : decode cL_plane 226 = .ok (.bipush 20, 2) := by decide +kernel
theorem dL_plane_228 : decode cL_plane 228 = .ok (.bipush 20, 2) := by decide +kernel
theorem dL_plane_230 : decode cL_plane 230 = .ok (.aload_n 0, 1) := by decide +kernel
theorem dL_plane_231 : decode cL_plane 231 = .ok (.iconst 2, 1) := by decide +kernel
theorem dL_plane_232 : decode cL_plane 232 = .ok (.invokestatic 28, 3) := by decide +kernel
theorem dL_plane_235 : decode cL_plane 235 = .ok (.bipush 22, 2) := by decide +kernel
theorem dL_plane_237 : decode cL_plane 237 = .ok (.ishr, 1) := by decide +kernel
theorem dL_plane_238 : decode cL_plane 238 = .ok (.bipush 31, 2) := by decide +kernel
theorem dL_plane_240 : decode cL_plane 240 = .ok (.iand, 1) := by decide +kernel
theorem dL_plane_241 : decode cL_plane 241 = .ok (.iadd, 1) := by decide +kernel
theorem dL_plane_242 : decode cL_plane 242 = .ok (.iastore, 1) := by decide +kernel
theorem dL_plane_243 : decode cL_plane 243 = .ok (.aload_n 1, 1) := by decide +kernel
theorem dL_plane_244 : decode cL_plane 244 = .ok (.bipush 21, 2) := by decide +kernel
theorem dL_plane_246 : decode cL_plane 246 = .ok (.iconst 1, 1) := by decide +kernel
theorem dL_plane_247 : decode cL_plane 247 = .ok (.aload_n 0, 1) := by decide +kernel
theorem dL_plane_248 : decode cL_plane 248 = .ok (.iconst 2, 1) := by decide +kernel
theorem dL_plane_249 : decode cL_plane 249 = .ok (.invokestatic 28, 3) := by decide +kernel
theorem dL_plane_252 : decode cL_plane 252 = .ok (.bipush 27, 2) := by decide +kernel
theorem dL_plane_254 : decode cL_plane 254 = .ok (.ishr, 1) := by decide +kernel
theorem dL_plane_255 : decode cL_plane 255 = .ok (.bipush 7, 2) := by decide +kernel
theorem dL_plane_257 : decode cL_plane 257 = .ok (.iand, 1) := by decide +kernel
theorem dL_plane_258 : decode cL_plane 258 = .ok (.iadd, 1) := by decide +kernel
theorem dL_plane_259 : decode cL_plane 259 = .ok (.iastore, 1) := by decide +kernel
theorem dL_plane_260 : decode cL_plane 260 = .ok (.aload_n 1, 1) := by decide +kernel
theorem dL_plane_261 : decode cL_plane 261 = .ok (.bipush 22, 2) := by decide +kernel
theorem dL_plane_263 : decode cL_plane 263 = .ok (.iconst 5, 1) := by decide +kernel
theorem dL_plane_264 : decode cL_plane 264 = .ok (.iastore, 1) := by decide +kernel
theorem dL_plane_265 : decode cL_plane 265 = .ok (.aload_n 1, 1) := by decide +kernel
theorem dL_plane_266 : decode cL_plane 266 = .ok (.areturn, 1) := by decide +kernel
theorem dL_door_0 : decode cL_door 0 = .ok (.iload_n 1, 1) := by decide +kernel
theorem dL_door_1 : decode cL_door 1 = .ok (.iconst 1, 1) := by decide +kernel
theorem dL_door_2 : decode cL_door 2 = .ok (.if_icmp .ne 13, 3) := by decide +kernel
theorem dL_door_5 : decode cL_door 5 = .ok (.aload_n 0, 1) := by decide +kernel
theorem dL_door_6 : decode cL_door 6 = .ok (.ldc2_w 32, 3) := by decide +kernel
theorem dL_door_9 : decode cL_door 9 = .ok (.invokestatic 34, 3) := by decide +kernel
theorem dL_door_12 : decode cL_door 12 = .ok (.goto 10, 3) := by decide +kernel
theorem dL_door_15 : decode cL_door 15 = .ok (.aload_n 0, 1) := by decide +kernel
theorem dL_door_16 : decode cL_door 16 = .ok (.ldc2_w 38, 3) := by decide +kernel
theorem dL_door_19 : decode cL_door 19 = .ok (.invokestatic 34, 3) := by decide +kernel
theorem dL_door_22 : decode cL_door 22 = .ok (.return_, 1) := by decide +kernel
theorem dL_isPlane_0 : decode cL_isPlane 0 = .ok (.aload_n 1, 1) := by decide +kernel
theorem dL_isPlane_1 : decode cL_isPlane 1 = .ok (.ldc2_w 40, 3) := by decide +kernel
theorem dL_isPlane_4 : decode cL_isPlane 4 = .ok (.invokestatic 34, 3) := by decide +kernel
theorem dL_isPlane_7 : decode cL_isPlane 7 = .ok (.aload_n 1, 1) := by decide +kernel
theorem dL_isPlane_8 : decode cL_isPlane 8 = .ok (.aload_n 2, 1) := by decide +kernel
theorem dL_isPlane_9 : decode cL_isPlane 9 = .ok (.iconst 0, 1) := by decide +kernel
theorem dL_isPlane_10 : decode cL_isPlane 10 = .ok (.iaload, 1) := by decide +kernel
theorem dL_isPlane_11 : decode cL_isPlane 11 = .ok (.aload_n 2, 1) := by decide +kernel
theorem dL_isPlane_12 : decode cL_isPlane 12 = .ok (.iconst 1, 1) := by decide +kernel
theorem dL_isPlane_13 : decode cL_isPlane 13 = .ok (.iaload, 1) := by decide +kernel
theorem dL_isPlane_14 : decode cL_isPlane 14 = .ok (.invokestatic 42, 3) := by decide +kernel
theorem dL_isPlane_17 : decode cL_isPlane 17 = .ok (.aload_n 1, 1) := by decide +kernel
theorem dL_isPlane_18 : decode cL_isPlane 18 = .ok (.ldc2_w 46, 3) := by decide +kernel
theorem dL_isPlane_21 : decode cL_isPlane 21 = .ok (.invokestatic 34, 3) := by decide +kernel
theorem dL_isPlane_24 : decode cL_isPlane 24 = .ok (.aload_n 1, 1) := by decide +kernel
theorem dL_isPlane_25 : decode cL_isPlane 25 = .ok (.aload_n 2, 1) := by decide +kernel
theorem dL_isPlane_26 : decode cL_isPlane 26 = .ok (.iconst 2, 1) := by decide +kernel
theorem dL_isPlane_27 : decode cL_isPlane 27 = .ok (.iaload, 1) := by decide +kernel
theorem dL_isPlane_28 : decode cL_isPlane 28 = .ok (.aload_n 2, 1) := by decide +kernel
theorem dL_isPlane_29 : decode cL_isPlane 29 = .ok (.iconst 3, 1) := by decide +kernel
theorem dL_isPlane_30 : decode cL_isPlane 30 = .ok (.iaload, 1) := by decide +kernel
theorem dL_isPlane_31 : decode cL_isPlane 31 = .ok (.invokestatic 42, 3) := by decide +kernel
theorem dL_isPlane_34 : decode cL_isPlane 34 = .ok (.iconst 0, 1) := by decide +kernel
theorem dL_isPlane_35 : decode cL_isPlane 35 = .ok (.istore_n 3, 1) := by decide +kernel
theorem dL_isPlane_36 : decode cL_isPlane 36 = .ok (.iload_n 3, 1) := by decide +kernel
theorem dL_isPlane_37 : decode cL_isPlane 37 = .ok (.iconst 2, 1) := by decide +kernel
theorem dL_isPlane_38 : decode cL_isPlane 38 = .ok (.if_icmp .ge 120, 3) := by decide +kernel
theorem dL_isPlane_41 : decode cL_isPlane 41 = .ok (.aload_n 1, 1) := by decide +kernel
theorem dL_isPlane_42 : decode cL_isPlane 42 = .ok (.ldc2_w 48, 3) := by decide +kernel
theorem dL_isPlane_45 : decode cL_isPlane 45 = .ok (.invokestatic 34, 3) := by decide +kernel
theorem dL_isPlane_48 : decode cL_isPlane 48 = .ok (.aload_n 1, 1) := by decide +kernel
theorem dL_isPlane_49 : decode cL_isPlane 49 = .ok (.bipush 97, 2) := by decide +kernel
theorem dL_isPlane_51 : decode cL_isPlane 51 = .ok (.iload_n 3, 1) := by decide +kernel
theorem dL_isPlane_52 : decode cL_isPlane 52 = .ok (.iadd, 1) := by decide +kernel
theorem dL_isPlane_53 : decode cL_isPlane 53 = .ok (.invokestatic 9, 3) := by decide +kernel
theorem dL_isPlane_56 : decode cL_isPlane 56 = .ok (.aload_n 1, 1) := by decide +kernel
theorem dL_isPlane_57 : decode cL_isPlane 57 = .ok (.bipush 32, 2) := by decide +kernel
theorem dL_isPlane_59 : decode cL_isPlane 59 = .ok (.invokestatic 9, 3) := by decide +kernel
theorem dL_isPlane_62 : decode cL_isPlane 62 = .ok (.aload_n 1, 1) := by decide +kernel
theorem dL_isPlane_63 : decode cL_isPlane 63 = .ok (.aload_n 2, 1) := by decide +kernel
theorem dL_isPlane_64 : decode cL_isPlane 64 = .ok (.iconst 4, 1) := by decide +kernel
theorem dL_isPlane_65 : decode cL_isPlane 65 = .ok (.iload_n 3, 1) := by decide +kernel
theorem dL_isPlane_66 : decode cL_isPlane 66 = .ok (.iadd, 1) := by decide +kernel
theorem dL_isPlane_67 : decode cL_isPlane 67 = .ok (.iaload, 1) := by decide +kernel
theorem dL_isPlane_68 : decode cL_isPlane 68 = .ok (.invokestatic 25, 3) := by decide +kernel
theorem dL_isPlane_71 : decode cL_isPlane 71 = .ok (.aload_n 1, 1) := by decide +kernel
theorem dL_isPlane_72 : decode cL_isPlane 72 = .ok (.aload_n 2, 1) := by decide +kernel
theorem dL_isPlane_73 : decode cL_isPlane 73 = .ok (.bipush 6, 2) := by decide +kernel
theorem dL_isPlane_75 : decode cL_isPlane 75 = .ok (.iload_n 3, 1) := by decide +kernel
theorem dL_isPlane_76 : decode cL_isPlane 76 = .ok (.iadd, 1) := by decide +kernel
theorem dL_isPlane_77 : decode cL_isPlane 77 = .ok (.iaload, 1) := by decide +kernel
theorem dL_isPlane_78 : decode cL_isPlane 78 = .ok (.invokestatic 50, 3) := by decide +kernel
theorem dL_isPlane_81 : decode cL_isPlane 81 = .ok (.iconst 2, 1) := by decide +kernel
theorem dL_isPlane_82 : decode cL_isPlane 82 = .ok (.iload_n 3, 1) := by decide +kernel
theorem dL_isPlane_83 : decode cL_isPlane 83 = .ok (.imul, 1) := by decide +kernel
theorem dL_isPlane_84 : decode cL_isPlane 84 = .ok (.istore 4, 2) := by decide +kernel
theorem dL_isPlane_86 : decode cL_isPlane 86 = .ok (.iload 4, 2) := by decide +kernel
theorem dL_isPlane_88 : decode cL_isPlane 88 = .ok (.iconst 2, 1) := by decide +kernel
theorem dL_isPlane_89 : decode cL_isPlane 89 = .ok (.iload_n 3, 1) := by decide +kernel
theorem dL_isPlane_90 : decode cL_isPlane 90 = .ok (.imul, 1) := by decide +kernel
theorem dL_isPlane_91 : decode cL_isPlane 91 = .ok (.iconst 2, 1) := by decide +kernel
theorem dL_isPlane_92 : decode cL_isPlane 92 = .ok (.iadd, 1) := by decide +kernel
theorem dL_isPlane_93 : decode cL_isPlane 93 = .ok (.if_icmp .ge 34, 3) := by decide +kernel
theorem dL_isPlane_96 : decode cL_isPlane 96 = .ok (.aload_n 1, 1) := by decide +kernel
theorem dL_isPlane_97 : decode cL_isPlane 97 = .ok (.ldc2_w 53, 3) := by decide +kernel
theorem dL_isPlane_100 : decode cL_isPlane 100 = .ok (.invokestatic 34, 3) := by decide +kernel
theorem dL_isPlane_103 : decode cL_isPlane 103 = .ok (.aload_n 1, 1) := by decide +kernel
theorem dL_isPlane_104 : decode cL_isPlane 104 = .ok (.aload_n 2, 1) := by decide +kernel
theorem dL_isPlane_105 : decode cL_isPlane 105 = .ok (.bipush 8, 2) := by decide +kernel
theorem dL_isPlane_107 : decode cL_isPlane 107 = .ok (.iload 4, 2) := by decide +kernel
theorem dL_isPlane_109 : decode cL_isPlane 109 = .ok (.iadd, 1) := by decide +kernel
theorem dL_isPlane_110 : decode cL_isPlane 110 = .ok (.iaload, 1) := by decide +kernel
theorem dL_isPlane_111 : decode cL_isPlane 111 = .ok (.aload_n 2, 1) := by decide +kernel
theorem dL_isPlane_112 : decode cL_isPlane 112 = .ok (.bipush 12, 2) := by decide +kernel
theorem dL_isPlane_114 : decode cL_isPlane 114 = .ok (.iload 4, 2) := by decide +kernel
theorem dL_isPlane_116 : decode cL_isPlane 116 = .ok (.iadd, 1) := by decide +kernel
theorem dL_isPlane_117 : decode cL_isPlane 117 = .ok (.iaload, 1) := by decide +kernel
theorem dL_isPlane_118 : decode cL_isPlane 118 = .ok (.invokestatic 42, 3) := by decide +kernel
theorem dL_isPlane_121 : decode cL_isPlane 121 = .ok (.iinc 4 1, 3) := by decide +kernel
theorem dL_isPlane_124 : decode cL_isPlane 124 = .ok (.goto (-38), 3) := by decide +kernel
theorem dL_isPlane_127 : decode cL_isPlane 127 = .ok (.iload_n 3, 1) := by decide +kernel
theorem dL_isPlane_128 : decode cL_isPlane 128 = .ok (.ifCond .ne 24, 3) := by decide +kernel
theorem dL_isPlane_131 : decode cL_isPlane 131 = .ok (.aload_n 1, 1) := by decide +kernel
theorem dL_isPlane_132 : decode cL_isPlane 132 = .ok (.ldc2_w 55, 3) := by decide +kernel
theorem dL_isPlane_135 : decode cL_isPlane 135 = .ok (.invokestatic 34, 3) := by decide +kernel
theorem dL_isPlane_138 : decode cL_isPlane 138 = .ok (.aload_n 1, 1) := by decide +kernel
theorem dL_isPlane_139 : decode cL_isPlane 139 = .ok (.aload_n 2, 1) := by decide +kernel
theorem dL_isPlane_140 : decode cL_isPlane 140 = .ok (.bipush 16, 2) := by decide +kernel
theorem dL_isPlane_142 : decode cL_isPlane 142 = .ok (.iaload, 1) := by decide +kernel
theorem dL_isPlane_143 : decode cL_isPlane 143 = .ok (.invokestatic 25, 3) := by decide +kernel
theorem dL_isPlane_146 : decode cL_isPlane 146 = .ok (.aload_n 1, 1) := by decide +kernel
theorem dL_isPlane_147 : decode cL_isPlane 147 = .ok (.bipush 59, 2) := by decide +kernel
theorem dL_isPlane_149 : decode cL_isPlane 149 = .ok (.invokestatic 9, 3) := by decide +kernel
theorem dL_isPlane_152 : decode cL_isPlane 152 = .ok (.iinc 3 1, 3) := by decide +kernel
theorem dL_isPlane_155 : decode cL_isPlane 155 = .ok (.goto (-119), 3) := by decide +kernel
theorem dL_isPlane_158 : decode cL_isPlane 158 = .ok (.aload_n 1, 1) := by decide +kernel
theorem dL_isPlane_159 : decode cL_isPlane 159 = .ok (.ldc2_w 57, 3) := by decide +kernel
theorem dL_isPlane_162 : decode cL_isPlane 162 = .ok (.invokestatic 34, 3) := by decide +kernel
theorem dL_isPlane_165 : decode cL_isPlane 165 = .ok (.aload_n 1, 1) := by decide +kernel
theorem dL_isPlane_166 : decode cL_isPlane 166 = .ok (.aload_n 2, 1) := by decide +kernel
theorem dL_isPlane_167 : decode cL_isPlane 167 = .ok (.bipush 17, 2) := by decide +kernel
theorem dL_isPlane_169 : decode cL_isPlane 169 = .ok (.iaload, 1) := by decide +kernel
theorem dL_isPlane_170 : decode cL_isPlane 170 = .ok (.aload_n 2, 1) := by decide +kernel
theorem dL_isPlane_171 : decode cL_isPlane 171 = .ok (.bipush 18, 2) := by decide +kernel
theorem dL_isPlane_173 : decode cL_isPlane 173 = .ok (.iaload, 1) := by decide +kernel
theorem dL_isPlane_174 : decode cL_isPlane 174 = .ok (.invokestatic 42, 3) := by decide +kernel
theorem dL_isPlane_177 : decode cL_isPlane 177 = .ok (.aload_n 1, 1) := by decide +kernel
theorem dL_isPlane_178 : decode cL_isPlane 178 = .ok (.ldc2_w 59, 3) := by decide +kernel
theorem dL_isPlane_181 : decode cL_isPlane 181 = .ok (.invokestatic 34, 3) := by decide +kernel
theorem dL_isPlane_184 : decode cL_isPlane 184 = .ok (.aload_n 1, 1) := by decide +kernel
theorem dL_isPlane_185 : decode cL_isPlane 185 = .ok (.aload_n 2, 1) := by decide +kernel
theorem dL_isPlane_186 : decode cL_isPlane 186 = .ok (.bipush 19, 2) := by decide +kernel
theorem dL_isPlane_188 : decode cL_isPlane 188 = .ok (.iaload, 1) := by decide +kernel
theorem dL_isPlane_189 : decode cL_isPlane 189 = .ok (.aload_n 2, 1) := by decide +kernel
theorem dL_isPlane_190 : decode cL_isPlane 190 = .ok (.bipush 20, 2) := by decide +kernel
theorem dL_isPlane_192 : decode cL_isPlane 192 = .ok (.iaload, 1) := by decide +kernel
theorem dL_isPlane_193 : decode cL_isPlane 193 = .ok (.invokestatic 42, 3) := by decide +kernel
theorem dL_isPlane_196 : decode cL_isPlane 196 = .ok (.aload_n 1, 1) := by decide +kernel
theorem dL_isPlane_197 : decode cL_isPlane 197 = .ok (.ldc2_w 61, 3) := by decide +kernel
theorem dL_isPlane_200 : decode cL_isPlane 200 = .ok (.invokestatic 34, 3) := by decide +kernel
theorem dL_isPlane_203 : decode cL_isPlane 203 = .ok (.aload_n 1, 1) := by decide +kernel
theorem dL_isPlane_204 : decode cL_isPlane 204 = .ok (.aload_n 2, 1) := by decide +kernel
theorem dL_isPlane_205 : decode cL_isPlane 205 = .ok (.bipush 21, 2) := by decide +kernel
theorem dL_isPlane_207 : decode cL_isPlane 207 = .ok (.iaload, 1) := by decide +kernel
theorem dL_isPlane_208 : decode cL_isPlane 208 = .ok (.invokestatic 25, 3) := by decide +kernel
theorem dL_isPlane_211 : decode cL_isPlane 211 = .ok (.aload_n 1, 1) := by decide +kernel
theorem dL_isPlane_212 : decode cL_isPlane 212 = .ok (.ldc2_w 63, 3) := by decide +kernel
theorem dL_isPlane_215 : decode cL_isPlane 215 = .ok (.invokestatic 34, 3) := by decide +kernel
theorem dL_isPlane_218 : decode cL_isPlane 218 = .ok (.aload_n 1, 1) := by decide +kernel
theorem dL_isPlane_219 : decode cL_isPlane 219 = .ok (.ldc2_w 65, 3) := by decide +kernel
theorem dL_isPlane_222 : decode cL_isPlane 222 = .ok (.invokestatic 34, 3) := by decide +kernel
theorem dL_isPlane_225 : decode cL_isPlane 225 = .ok (.aload_n 1, 1) := by decide +kernel
theorem dL_isPlane_226 : decode cL_isPlane 226 = .ok (.aload_n 2, 1) := by decide +kernel
theorem dL_isPlane_227 : decode cL_isPlane 227 = .ok (.bipush 22, 2) := by decide +kernel
theorem dL_isPlane_229 : decode cL_isPlane 229 = .ok (.iaload, 1) := by decide +kernel
theorem dL_isPlane_230 : decode cL_isPlane 230 = .ok (.invokestatic 25, 3) := by decide +kernel
theorem dL_isPlane_233 : decode cL_isPlane 233 = .ok (.aload_n 1, 1) := by decide +kernel
theorem dL_isPlane_234 : decode cL_isPlane 234 = .ok (.ldc2_w 67, 3) := by decide +kernel
theorem dL_isPlane_237 : decode cL_isPlane 237 = .ok (.invokestatic 34, 3) := by decide +kernel
theorem dL_isPlane_240 : decode cL_isPlane 240 = .ok (.aload_n 0, 1) := by decide +kernel
theorem dL_isPlane_241 : decode cL_isPlane 241 = .ok (.aload_n 1, 1) := by decide +kernel
theorem dL_isPlane_242 : decode cL_isPlane 242 = .ok (.invokestatic 69, 3) := by decide +kernel
theorem dL_isPlane_245 : decode cL_isPlane 245 = .ok (.aload_n 0, 1) := by decide +kernel
theorem dL_isPlane_246 : decode cL_isPlane 246 = .ok (.invokevirtual 73, 3) := by decide +kernel
theorem dL_isPlane_249 : decode cL_isPlane 249 = .ok (.iconst 4, 1) := by decide +kernel
theorem dL_isPlane_250 : decode cL_isPlane 250 = .ok (.if_icmp .ne 14, 3) := by decide +kernel
theorem dL_isPlane_253 : decode cL_isPlane 253 = .ok (.aload_n 0, 1) := by decide +kernel
theorem dL_isPlane_254 : decode cL_isPlane 254 = .ok (.invokevirtual 77, 3) := by decide +kernel
theorem dL_isPlane_257 : decode cL_isPlane 257 = .ok (.ifCond .ne 7, 3) := by decide +kernel
theorem dL_isPlane_260 : decode cL_isPlane 260 = .ok (.iconst 1, 1) := by decide +kernel
theorem dL_isPlane_261 : decode cL_isPlane 261 = .ok (.goto 4, 3) := by decide +kernel
theorem dL_isPlane_264 : decode cL_isPlane 264 = .ok (.iconst 0, 1) := by decide +kernel
theorem dL_isPlane_265 : decode cL_isPlane 265 = .ok (.ireturn, 1) := by decide +kernel
theorem dL_cargo_0 : decode cL_cargo 0 = .ok (.bipush 12, 2) := by decide +kernel
theorem dL_cargo_2 : decode cL_cargo 2 = .ok (.newarray .int, 2) := by decide +kernel
theorem dL_cargo_4 : decode cL_cargo 4 = .ok (.astore_n 2, 1) := by decide +kernel
theorem dL_cargo_5 : decode cL_cargo 5 = .ok (.aload_n 2, 1) := by decide +kernel
theorem dL_cargo_6 : decode cL_cargo 6 = .ok (.bipush 11, 2) := by decide +kernel
theorem dL_cargo_8 : decode cL_cargo 8 = .ok (.aload_n 0, 1) := by decide +kernel
theorem dL_cargo_9 : decode cL_cargo 9 = .ok (.iconst 3, 1) := by decide +kernel
theorem dL_cargo_10 : decode cL_cargo 10 = .ok (.invokestatic 28, 3) := by decide +kernel
theorem dL_cargo_13 : decode cL_cargo 13 = .ok (.iconst 3, 1) := by decide +kernel
theorem dL_cargo_14 : decode cL_cargo 14 = .ok (.iand, 1) := by decide +kernel
theorem dL_cargo_15 : decode cL_cargo 15 = .ok (.iconst 4, 1) := by decide +kernel
theorem dL_cargo_16 : decode cL_cargo 16 = .ok (.irem, 1) := by decide +kernel
theorem dL_cargo_17 : decode cL_cargo 17 = .ok (.iastore, 1) := by decide +kernel
theorem dL_cargo_18 : decode cL_cargo 18 = .ok (.iconst 0, 1) := by decide +kernel
theorem dL_cargo_19 : decode cL_cargo 19 = .ok (.istore_n 3, 1) := by decide +kernel
theorem dL_cargo_20 : decode cL_cargo 20 = .ok (.iload_n 3, 1) := by decide +kernel
theorem dL_cargo_21 : decode cL_cargo 21 = .ok (.aload_n 2, 1) := by decide +kernel
theorem dL_cargo_22 : decode cL_cargo 22 = .ok (.bipush 11, 2) := by decide +kernel
theorem dL_cargo_24 : decode cL_cargo 24 = .ok (.iaload, 1) := by decide +kernel
theorem dL_cargo_25 : decode cL_cargo 25 = .ok (.if_icmp .ge 57, 3) := by decide +kernel
theorem dL_cargo_28 : decode cL_cargo 28 = .ok (.aload_n 2, 1) := by decide +kernel
theorem dL_cargo_29 : decode cL_cargo 29 = .ok (.iconst 2, 1) := by decide +kernel
theorem dL_cargo_30 : decode cL_cargo 30 = .ok (.iload_n 3, 1) := by decide +kernel
theorem dL_cargo_31 : decode cL_cargo 31 = .ok (.imul, 1) := by decide +kernel
theorem dL_cargo_32 : decode cL_cargo 32 = .ok (.iconst 1, 1) := by decide +kernel
theorem dL_cargo_33 : decode cL_cargo 33 = .ok (.aload_n 0, 1) := by decide +kernel
theorem dL_cargo_34 : decode cL_cargo 34 = .ok (.iconst 3, 1) := by decide +kernel
theorem dL_cargo_35 : decode cL_cargo 35 = .ok (.invokestatic 28, 3) := by decide +kernel
theorem dL_cargo_38 : decode cL_cargo 38 = .ok (.iconst 2, 1) := by decide +kernel
theorem dL_cargo_39 : decode cL_cargo 39 = .ok (.bipush 7, 2) := by decide +kernel
theorem dL_cargo_41 : decode cL_cargo 41 = .ok (.iload_n 3, 1) := by decide +kernel
theorem dL_cargo_42 : decode cL_cargo 42 = .ok (.imul, 1) := by decide +kernel
theorem dL_cargo_43 : decode cL_cargo 43 = .ok (.iadd, 1) := by decide +kernel
theorem dL_cargo_44 : decode cL_cargo 44 = .ok (.ishr, 1) := by decide +kernel
theorem dL_cargo_45 : decode cL_cargo 45 = .ok (.bipush 31, 2) := by decide +kernel
theorem dL_cargo_47 : decode cL_cargo 47 = .ok (.iand, 1) := by decide +kernel
theorem dL_cargo_48 : decode cL_cargo 48 = .ok (.iadd, 1) := by decide +kernel
theorem dL_cargo_49 : decode cL_cargo 49 = .ok (.iastore, 1) := by decide +kernel
theorem dL_cargo_50 : decode cL_cargo 50 = .ok (.aload_n 2, 1) := by decide +kernel
theorem dL_cargo_51 : decode cL_cargo 51 = .ok (.iconst 2, 1) := by decide +kernel
theorem dL_cargo_52 : decode cL_cargo 52 = .ok (.iload_n 3, 1) := by decide +kernel
theorem dL_cargo_53 : decode cL_cargo 53 = .ok (.imul, 1) := by decide +kernel
theorem dL_cargo_54 : decode cL_cargo 54 = .ok (.iconst 1, 1) := by decide +kernel
theorem dL_cargo_55 : decode cL_cargo 55 = .ok (.iadd, 1) := by decide +kernel
theorem dL_cargo_56 : decode cL_cargo 56 = .ok (.iconst 1, 1) := by decide +kernel
theorem dL_cargo_57 : decode cL_cargo 57 = .ok (.aload_n 0, 1) := by decide +kernel
theorem dL_cargo_58 : decode cL_cargo 58 = .ok (.iconst 3, 1) := by decide +kernel
theorem dL_cargo_59 : decode cL_cargo 59 = .ok (.invokestatic 28, 3) := by decide +kernel
theorem dL_cargo_62 : decode cL_cargo 62 = .ok (.bipush 7, 2) := by decide +kernel
theorem dL_cargo_64 : decode cL_cargo 64 = .ok (.bipush 7, 2) := by decide +kernel
theorem dL_cargo_66 : decode cL_cargo 66 = .ok (.iload_n 3, 1) := by decide +kernel
theorem dL_cargo_67 : decode cL_cargo 67 = .ok (.imul, 1) := by decide +kernel
theorem dL_cargo_68 : decode cL_cargo 68 = .ok (.iadd, 1) := by decide +kernel
theorem dL_cargo_69 : decode cL_cargo 69 = .ok (.ishr, 1) := by decide +kernel
theorem dL_cargo_70 : decode cL_cargo 70 = .ok (.iconst 3, 1) := by decide +kernel
theorem dL_cargo_71 : decode cL_cargo 71 = .ok (.iand, 1) := by decide +kernel
theorem dL_cargo_72 : decode cL_cargo 72 = .ok (.iconst 3, 1) := by decide +kernel
theorem dL_cargo_73 : decode cL_cargo 73 = .ok (.irem, 1) := by decide +kernel
theorem dL_cargo_74 : decode cL_cargo 74 = .ok (.iadd, 1) := by decide +kernel
theorem dL_cargo_75 : decode cL_cargo 75 = .ok (.iastore, 1) := by decide +kernel
theorem dL_cargo_76 : decode cL_cargo 76 = .ok (.iinc 3 1, 3) := by decide +kernel
theorem dL_cargo_79 : decode cL_cargo 79 = .ok (.goto (-59), 3) := by decide +kernel
theorem dL_cargo_82 : decode cL_cargo 82 = .ok (.aload_n 2, 1) := by decide +kernel
theorem dL_cargo_83 : decode cL_cargo 83 = .ok (.bipush 10, 2) := by decide +kernel
theorem dL_cargo_85 : decode cL_cargo 85 = .ok (.aload_n 0, 1) := by decide +kernel
theorem dL_cargo_86 : decode cL_cargo 86 = .ok (.iconst 3, 1) := by decide +kernel
theorem dL_cargo_87 : decode cL_cargo 87 = .ok (.invokestatic 28, 3) := by decide +kernel
theorem dL_cargo_90 : decode cL_cargo 90 = .ok (.bipush 24, 2) := by decide +kernel
theorem dL_cargo_92 : decode cL_cargo 92 = .ok (.ishr, 1) := by decide +kernel
theorem dL_cargo_93 : decode cL_cargo 93 = .ok (.bipush 7, 2) := by decide +kernel
theorem dL_cargo_95 : decode cL_cargo 95 = .ok (.iand, 1) := by decide +kernel
theorem dL_cargo_96 : decode cL_cargo 96 = .ok (.aload_n 1, 1) := by decide +kernel
theorem dL_cargo_97 : decode cL_cargo 97 = .ok (.bipush 18, 2) := by decide +kernel
theorem dL_cargo_99 : decode cL_cargo 99 = .ok (.iaload, 1) := by decide +kernel
theorem dL_cargo_100 : decode cL_cargo 100 = .ok (.iconst 2, 1) := by decide +kernel
theorem dL_cargo_101 : decode cL_cargo 101 = .ok (.iadd, 1) := by decide +kernel
theorem dL_cargo_102 : decode cL_cargo 102 = .ok (.irem, 1) := by decide +kernel
theorem dL_cargo_103 : decode cL_cargo 103 = .ok (.iastore, 1) := by decide +kernel
theorem dL_cargo_104 : decode cL_cargo 104 = .ok (.aload_n 2, 1) := by decide +kernel
theorem dL_cargo_105 : decode cL_cargo 105 = .ok (.areturn, 1) := by decide +kernel
theorem dL_isCargo_0 : decode cL_isCargo 0 = .ok (.iconst 0, 1) := by decide +kernel
theorem dL_isCargo_1 : decode cL_isCargo 1 = .ok (.istore_n 3, 1) := by decide +kernel
theorem dL_isCargo_2 : decode cL_isCargo 2 = .ok (.iload_n 3, 1) := by decide +kernel
theorem dL_isCargo_3 : decode cL_isCargo 3 = .ok (.aload_n 2, 1) := by decide +kernel
theorem dL_isCargo_4 : decode cL_isCargo 4 = .ok (.bipush 11, 2) := by decide +kernel
theorem dL_isCargo_6 : decode cL_isCargo 6 = .ok (.iaload, 1) := by decide +kernel
theorem dL_isCargo_7 : decode cL_isCargo 7 = .ok (.if_icmp .ge 40, 3) := by decide +kernel
theorem dL_isCargo_10 : decode cL_isCargo 10 = .ok (.aload_n 1, 1) := by decide +kernel
theorem dL_isCargo_11 : decode cL_isCargo 11 = .ok (.ldc2_w 80, 3) := by decide +kernel
theorem dL_isCargo_14 : decode cL_isCargo 14 = .ok (.invokestatic 34, 3) := by decide +kernel
theorem dL_isCargo_17 : decode cL_isCargo 17 = .ok (.aload_n 1, 1) := by decide +kernel
theorem dL_isCargo_18 : decode cL_isCargo 18 = .ok (.bipush 97, 2) := by decide +kernel
theorem dL_isCargo_20 : decode cL_isCargo 20 = .ok (.iload_n 3, 1) := by decide +kernel
theorem dL_isCargo_21 : decode cL_isCargo 21 = .ok (.iadd, 1) := by decide +kernel
theorem dL_isCargo_22 : decode cL_isCargo 22 = .ok (.invokestatic 9, 3) := by decide +kernel
theorem dL_isCargo_25 : decode cL_isCargo 25 = .ok (.aload_n 1, 1) := by decide +kernel
theorem dL_isCargo_26 : decode cL_isCargo 26 = .ok (.aload_n 2, 1) := by decide +kernel
theorem dL_isCargo_27 : decode cL_isCargo 27 = .ok (.iconst 2, 1) := by decide +kernel
theorem dL_isCargo_28 : decode cL_isCargo 28 = .ok (.iload_n 3, 1) := by decide +kernel
theorem dL_isCargo_29 : decode cL_isCargo 29 = .ok (.imul, 1) := by decide +kernel
theorem dL_isCargo_30 : decode cL_isCargo 30 = .ok (.iaload, 1) := by decide +kernel
theorem dL_isCargo_31 : decode cL_isCargo 31 = .ok (.aload_n 2, 1) := by decide +kernel
theorem dL_isCargo_32 : decode cL_isCargo 32 = .ok (.iconst 2, 1) := by decide +kernel
theorem dL_isCargo_33 : decode cL_isCargo 33 = .ok (.iload_n 3, 1) := by decide +kernel
theorem dL_isCargo_34 : decode cL_isCargo 34 = .ok (.imul, 1) := by decide +kernel
theorem dL_isCargo_35 : decode cL_isCargo 35 = .ok (.iconst 1, 1) := by decide +kernel
theorem dL_isCargo_36 : decode cL_isCargo 36 = .ok (.iadd, 1) := by decide +kernel
theorem dL_isCargo_37 : decode cL_isCargo 37 = .ok (.iaload, 1) := by decide +kernel
theorem dL_isCargo_38 : decode cL_isCargo 38 = .ok (.invokestatic 42, 3) := by decide +kernel
theorem dL_isCargo_41 : decode cL_isCargo 41 = .ok (.iinc 3 1, 3) := by decide +kernel
theorem dL_isCargo_44 : decode cL_isCargo 44 = .ok (.goto (-42), 3) := by decide +kernel
theorem dL_isCargo_47 : decode cL_isCargo 47 = .ok (.aload_n 1, 1) := by decide +kernel
theorem dL_isCargo_48 : decode cL_isCargo 48 = .ok (.ldc2_w 82, 3) := by decide +kernel
theorem dL_isCargo_51 : decode cL_isCargo 51 = .ok (.invokestatic 34, 3) := by decide +kernel
theorem dL_isCargo_54 : decode cL_isCargo 54 = .ok (.aload_n 1, 1) := by decide +kernel
theorem dL_isCargo_55 : decode cL_isCargo 55 = .ok (.aload_n 2, 1) := by decide +kernel
theorem dL_isCargo_56 : decode cL_isCargo 56 = .ok (.bipush 10, 2) := by decide +kernel
theorem dL_isCargo_58 : decode cL_isCargo 58 = .ok (.iaload, 1) := by decide +kernel
theorem dL_isCargo_59 : decode cL_isCargo 59 = .ok (.invokestatic 25, 3) := by decide +kernel
theorem dL_isCargo_62 : decode cL_isCargo 62 = .ok (.aload_n 1, 1) := by decide +kernel
theorem dL_isCargo_63 : decode cL_isCargo 63 = .ok (.bipush 59, 2) := by decide +kernel
theorem dL_isCargo_65 : decode cL_isCargo 65 = .ok (.invokestatic 9, 3) := by decide +kernel
theorem dL_isCargo_68 : decode cL_isCargo 68 = .ok (.aload_n 0, 1) := by decide +kernel
theorem dL_isCargo_69 : decode cL_isCargo 69 = .ok (.aload_n 1, 1) := by decide +kernel
theorem dL_isCargo_70 : decode cL_isCargo 70 = .ok (.invokestatic 69, 3) := by decide +kernel
theorem dL_isCargo_73 : decode cL_isCargo 73 = .ok (.aload_n 0, 1) := by decide +kernel
theorem dL_isCargo_74 : decode cL_isCargo 74 = .ok (.invokevirtual 84, 3) := by decide +kernel
theorem dL_isCargo_77 : decode cL_isCargo 77 = .ok (.aload_n 2, 1) := by decide +kernel
theorem dL_isCargo_78 : decode cL_isCargo 78 = .ok (.bipush 11, 2) := by decide +kernel
theorem dL_isCargo_80 : decode cL_isCargo 80 = .ok (.iaload, 1) := by decide +kernel
theorem dL_isCargo_81 : decode cL_isCargo 81 = .ok (.if_icmp .ne 14, 3) := by decide +kernel
theorem dL_isCargo_84 : decode cL_isCargo 84 = .ok (.aload_n 0, 1) := by decide +kernel
theorem dL_isCargo_85 : decode cL_isCargo 85 = .ok (.invokevirtual 77, 3) := by decide +kernel
theorem dL_isCargo_88 : decode cL_isCargo 88 = .ok (.ifCond .ne 7, 3) := by decide +kernel
theorem dL_isCargo_91 : decode cL_isCargo 91 = .ok (.iconst 1, 1) := by decide +kernel
theorem dL_isCargo_92 : decode cL_isCargo 92 = .ok (.goto 4, 3) := by decide +kernel
theorem dL_isCargo_95 : decode cL_isCargo 95 = .ok (.iconst 0, 1) := by decide +kernel
theorem dL_isCargo_96 : decode cL_isCargo 96 = .ok (.ireturn, 1) := by decide +kernel
theorem dL_way_0 : decode cL_way 0 = .ok (.iload_n 1, 1) := by decide +kernel
theorem dL_way_1 : decode cL_way 1 = .ok (.iconst 1, 1) := by decide +kernel
theorem dL_way_2 : decode cL_way 2 = .ok (.ixor, 1) := by decide +kernel
theorem dL_way_3 : decode cL_way 3 = .ok (.istore_n 2, 1) := by decide +kernel
theorem dL_way_4 : decode cL_way 4 = .ok (.aload_n 0, 1) := by decide +kernel
theorem dL_way_5 : decode cL_way 5 = .ok (.bipush 6, 2) := by decide +kernel
theorem dL_way_7 : decode cL_way 7 = .ok (.iload_n 1, 1) := by decide +kernel
theorem dL_way_8 : decode cL_way 8 = .ok (.iconst 2, 1) := by decide +kernel
theorem dL_way_9 : decode cL_way 9 = .ok (.idiv, 1) := by decide +kernel
theorem dL_way_10 : decode cL_way 10 = .ok (.iadd, 1) := by decide +kernel
theorem dL_way_11 : decode cL_way 11 = .ok (.iaload, 1) := by decide +kernel
theorem dL_way_12 : decode cL_way 12 = .ok (.iload_n 2, 1) := by decide +kernel
theorem dL_way_13 : decode cL_way 13 = .ok (.iload_n 1, 1) := by decide +kernel
theorem dL_way_14 : decode cL_way 14 = .ok (.if_icmp .le 7, 3) := by decide +kernel
theorem dL_way_17 : decode cL_way 17 = .ok (.iconst 1, 1) := by decide +kernel
theorem dL_way_18 : decode cL_way 18 = .ok (.goto 4, 3) := by decide +kernel
theorem dL_way_21 : decode cL_way 21 = .ok (.iconst 0, 1) := by decide +kernel
theorem dL_way_22 : decode cL_way 22 = .ok (.if_icmp .ne 7, 3) := by decide +kernel
theorem dL_way_25 : decode cL_way 25 = .ok (.iload_n 2, 1) := by decide +kernel
theorem dL_way_26 : decode cL_way 26 = .ok (.goto 4, 3) := by decide +kernel
theorem dL_way_29 : decode cL_way 29 = .ok (.iconst (-1), 1) := by decide +kernel
theorem dL_way_30 : decode cL_way 30 = .ok (.ireturn, 1) := by decide +kernel
theorem dL_stage_0 : decode cL_stage 0 = .ok (.aload_n 0, 1) := by decide +kernel
theorem dL_stage_1 : decode cL_stage 1 = .ok (.bipush 20, 2) := by decide +kernel
theorem dL_stage_3 : decode cL_stage 3 = .ok (.iaload, 1) := by decide +kernel
theorem dL_stage_4 : decode cL_stage 4 = .ok (.iload 4, 2) := by decide +kernel
theorem dL_stage_6 : decode cL_stage 6 = .ok (.ifCond .le 10, 3) := by decide +kernel
theorem dL_stage_9 : decode cL_stage 9 = .ok (.aload_n 0, 1) := by decide +kernel
theorem dL_stage_10 : decode cL_stage 10 = .ok (.bipush 21, 2) := by decide +kernel
theorem dL_stage_12 : decode cL_stage 12 = .ok (.iaload, 1) := by decide +kernel
theorem dL_stage_13 : decode cL_stage 13 = .ok (.goto 4, 3) := by decide +kernel
theorem dL_stage_16 : decode cL_stage 16 = .ok (.iconst 0, 1) := by decide +kernel
theorem dL_stage_17 : decode cL_stage 17 = .ok (.isub, 1) := by decide +kernel
theorem dL_stage_18 : decode cL_stage 18 = .ok (.iload 4, 2) := by decide +kernel
theorem dL_stage_20 : decode cL_stage 20 = .ok (.iconst 2, 1) := by decide +kernel
theorem dL_stage_21 : decode cL_stage 21 = .ok (.if_icmp .le 10, 3) := by decide +kernel
theorem dL_stage_24 : decode cL_stage 24 = .ok (.aload_n 0, 1) := by decide +kernel
theorem dL_stage_25 : decode cL_stage 25 = .ok (.bipush 22, 2) := by decide +kernel
theorem dL_stage_27 : decode cL_stage 27 = .ok (.iaload, 1) := by decide +kernel
theorem dL_stage_28 : decode cL_stage 28 = .ok (.goto 4, 3) := by decide +kernel
theorem dL_stage_31 : decode cL_stage 31 = .ok (.iconst 0, 1) := by decide +kernel
theorem dL_stage_32 : decode cL_stage 32 = .ok (.isub, 1) := by decide +kernel
theorem dL_stage_33 : decode cL_stage 33 = .ok (.istore 6, 2) := by decide +kernel
theorem dL_stage_35 : decode cL_stage 35 = .ok (.aload_n 0, 1) := by decide +kernel
theorem dL_stage_36 : decode cL_stage 36 = .ok (.iconst 0, 1) := by decide +kernel
theorem dL_stage_37 : decode cL_stage 37 = .ok (.iaload, 1) := by decide +kernel
theorem dL_stage_38 : decode cL_stage 38 = .ok (.iload 5, 2) := by decide +kernel
theorem dL_stage_40 : decode cL_stage 40 = .ok (.ifCond .eq 9, 3) := by decide +kernel
theorem dL_stage_43 : decode cL_stage 43 = .ok (.aload_n 0, 1) := by decide +kernel
theorem dL_stage_44 : decode cL_stage 44 = .ok (.iconst 1, 1) := by decide +kernel
theorem dL_stage_45 : decode cL_stage 45 = .ok (.iaload, 1) := by decide +kernel
theorem dL_stage_46 : decode cL_stage 46 = .ok (.goto 4, 3) := by decide +kernel
theorem dL_stage_49 : decode cL_stage 49 = .ok (.iconst 1, 1) := by decide +kernel
theorem dL_stage_50 : decode cL_stage 50 = .ok (.imul, 1) := by decide +kernel
theorem dL_stage_51 : decode cL_stage 51 = .ok (.iload 6, 2) := by decide +kernel
theorem dL_stage_53 : decode cL_stage 53 = .ok (.iload 5, 2) := by decide +kernel
theorem dL_stage_55 : decode cL_stage 55 = .ok (.ifCond .eq 10, 3) := by decide +kernel
theorem dL_stage_58 : decode cL_stage 58 = .ok (.aload_n 0, 1) := by decide +kernel
theorem dL_stage_59 : decode cL_stage 59 = .ok (.bipush 19, 2) := by decide +kernel
theorem dL_stage_61 : decode cL_stage 61 = .ok (.iaload, 1) := by decide +kernel
theorem dL_stage_62 : decode cL_stage 62 = .ok (.goto 4, 3) := by decide +kernel
theorem dL_stage_65 : decode cL_stage 65 = .ok (.iconst 1, 1) := by decide +kernel
theorem dL_stage_66 : decode cL_stage 66 = .ok (.imul, 1) := by decide +kernel
theorem dL_stage_67 : decode cL_stage 67 = .ok (.iadd, 1) := by decide +kernel
theorem dL_stage_68 : decode cL_stage 68 = .ok (.iload_n 3, 1) := by decide +kernel
theorem dL_stage_69 : decode cL_stage 69 = .ok (.iload 5, 2) := by decide +kernel
theorem dL_stage_71 : decode cL_stage 71 = .ok (.ifCond .eq 10, 3) := by decide +kernel
theorem dL_stage_74 : decode cL_stage 74 = .ok (.aload_n 0, 1) := by decide +kernel
theorem dL_stage_75 : decode cL_stage 75 = .ok (.bipush 17, 2) := by decide +kernel
theorem dL_stage_77 : decode cL_stage 77 = .ok (.iaload, 1) := by decide +kernel
theorem dL_stage_78 : decode cL_stage 78 = .ok (.goto 4, 3) := by decide +kernel
theorem dL_stage_81 : decode cL_stage 81 = .ok (.iconst 1, 1) := by decide +kernel
theorem dL_stage_82 : decode cL_stage 82 = .ok (.imul, 1) := by decide +kernel
theorem dL_stage_83 : decode cL_stage 83 = .ok (.iadd, 1) := by decide +kernel
theorem dL_stage_84 : decode cL_stage 84 = .ok (.istore 7, 2) := by decide +kernel
theorem dL_stage_86 : decode cL_stage 86 = .ok (.iload 4, 2) := by decide +kernel
theorem dL_stage_88 : decode cL_stage 88 = .ok (.iconst 3, 1) := by decide +kernel
theorem dL_stage_89 : decode cL_stage 89 = .ok (.if_icmp .le 7, 3) := by decide +kernel
theorem dL_stage_92 : decode cL_stage 92 = .ok (.iconst 2, 1) := by decide +kernel
theorem dL_stage_93 : decode cL_stage 93 = .ok (.goto 14, 3) := by decide +kernel
theorem dL_stage_96 : decode cL_stage 96 = .ok (.iload 4, 2) := by decide +kernel
theorem dL_stage_98 : decode cL_stage 98 = .ok (.iconst 1, 1) := by decide +kernel
theorem dL_stage_99 : decode cL_stage 99 = .ok (.if_icmp .le 7, 3) := by decide +kernel
theorem dL_stage_102 : decode cL_stage 102 = .ok (.iconst 1, 1) := by decide +kernel
theorem dL_stage_103 : decode cL_stage 103 = .ok (.goto 4, 3) := by decide +kernel
theorem dL_stage_106 : decode cL_stage 106 = .ok (.iconst 0, 1) := by decide +kernel
theorem dL_stage_107 : decode cL_stage 107 = .ok (.istore 8, 2) := by decide +kernel
theorem dL_stage_109 : decode cL_stage 109 = .ok (.iconst 0, 1) := by decide +kernel
theorem dL_stage_110 : decode cL_stage 110 = .ok (.istore 9, 2) := by decide +kernel
theorem dL_stage_112 : decode cL_stage 112 = .ok (.iload 9, 2) := by decide +kernel
theorem dL_stage_114 : decode cL_stage 114 = .ok (.aload_n 1, 1) := by decide +kernel
theorem dL_stage_115 : decode cL_stage 115 = .ok (.bipush 11, 2) := by decide +kernel
theorem dL_stage_117 : decode cL_stage 117 = .ok (.iaload, 1) := by decide +kernel
theorem dL_stage_118 : decode cL_stage 118 = .ok (.if_icmp .ge 59, 3) := by decide +kernel
theorem dL_stage_121 : decode cL_stage 121 = .ok (.aload_n 2, 1) := by decide +kernel
theorem dL_stage_122 : decode cL_stage 122 = .ok (.iload 9, 2) := by decide +kernel
theorem dL_stage_124 : decode cL_stage 124 = .ok (.iaload, 1) := by decide +kernel
theorem dL_stage_125 : decode cL_stage 125 = .ok (.ifCond .lt 46, 3) := by decide +kernel
theorem dL_stage_128 : decode cL_stage 128 = .ok (.aload_n 1, 1) := by decide +kernel
theorem dL_stage_129 : decode cL_stage 129 = .ok (.iconst 2, 1) := by decide +kernel
theorem dL_stage_130 : decode cL_stage 130 = .ok (.iload 9, 2) := by decide +kernel
theorem dL_stage_132 : decode cL_stage 132 = .ok (.imul, 1) := by decide +kernel
theorem dL_stage_133 : decode cL_stage 133 = .ok (.iconst 1, 1) := by decide +kernel
theorem dL_stage_134 : decode cL_stage 134 = .ok (.iadd, 1) := by decide +kernel
theorem dL_stage_135 : decode cL_stage 135 = .ok (.iaload, 1) := by decide +kernel
theorem dL_stage_136 : decode cL_stage 136 = .ok (.iload 8, 2) := by decide +kernel
theorem dL_stage_138 : decode cL_stage 138 = .ok (.if_icmp .le 33, 3) := by decide +kernel
theorem dL_stage_141 : decode cL_stage 141 = .ok (.iload 7, 2) := by decide +kernel
theorem dL_stage_143 : decode cL_stage 143 = .ok (.aload_n 1, 1) := by decide +kernel
theorem dL_stage_144 : decode cL_stage 144 = .ok (.iconst 2, 1) := by decide +kernel
theorem dL_stage_145 : decode cL_stage 145 = .ok (.iload 9, 2) := by decide +kernel
theorem dL_stage_147 : decode cL_stage 147 = .ok (.imul, 1) := by decide +kernel
theorem dL_stage_148 : decode cL_stage 148 = .ok (.iaload, 1) := by decide +kernel
theorem dL_stage_149 : decode cL_stage 149 = .ok (.iload 5, 2) := by decide +kernel
theorem dL_stage_151 : decode cL_stage 151 = .ok (.ifCond .eq 15, 3) := by decide +kernel
theorem dL_stage_154 : decode cL_stage 154 = .ok (.aload_n 0, 1) := by decide +kernel
theorem dL_stage_155 : decode cL_stage 155 = .ok (.bipush 8, 2) := by decide +kernel
theorem dL_stage_157 : decode cL_stage 157 = .ok (.aload_n 2, 1) := by decide +kernel
theorem dL_stage_158 : decode cL_stage 158 = .ok (.iload 9, 2) := by decide +kernel
theorem dL_stage_160 : decode cL_stage 160 = .ok (.iaload, 1) := by decide +kernel
theorem dL_stage_161 : decode cL_stage 161 = .ok (.iadd, 1) := by decide +kernel
theorem dL_stage_162 : decode cL_stage 162 = .ok (.iaload, 1) := by decide +kernel
theorem dL_stage_163 : decode cL_stage 163 = .ok (.goto 4, 3) := by decide +kernel
theorem dL_stage_166 : decode cL_stage 166 = .ok (.iconst 1, 1) := by decide +kernel
theorem dL_stage_167 : decode cL_stage 167 = .ok (.imul, 1) := by decide +kernel
theorem dL_stage_168 : decode cL_stage 168 = .ok (.iadd, 1) := by decide +kernel
theorem dL_stage_169 : decode cL_stage 169 = .ok (.istore 7, 2) := by decide +kernel
theorem dL_stage_171 : decode cL_stage 171 = .ok (.iinc 9 1, 3) := by decide +kernel
theorem dL_stage_174 : decode cL_stage 174 = .ok (.goto (-62), 3) := by decide +kernel
theorem dL_stage_177 : decode cL_stage 177 = .ok (.iload 7, 2) := by decide +kernel
theorem dL_stage_179 : decode cL_stage 179 = .ok (.ireturn, 1) := by decide +kernel
theorem dL_broken_0 : decode cL_broken 0 = .ok (.iconst 4, 1) := by decide +kernel
theorem dL_broken_1 : decode cL_broken 1 = .ok (.newarray .int, 2) := by decide +kernel
theorem dL_broken_3 : decode cL_broken 3 = .ok (.dup, 1) := by decide +kernel
theorem dL_broken_4 : decode cL_broken 4 = .ok (.iconst 0, 1) := by decide +kernel
theorem dL_broken_5 : decode cL_broken 5 = .ok (.iconst (-1), 1) := by decide +kernel
theorem dL_broken_6 : decode cL_broken 6 = .ok (.iastore, 1) := by decide +kernel
theorem dL_broken_7 : decode cL_broken 7 = .ok (.dup, 1) := by decide +kernel
theorem dL_broken_8 : decode cL_broken 8 = .ok (.iconst 1, 1) := by decide +kernel
theorem dL_broken_9 : decode cL_broken 9 = .ok (.iconst (-1), 1) := by decide +kernel
theorem dL_broken_10 : decode cL_broken 10 = .ok (.iastore, 1) := by decide +kernel
theorem dL_broken_11 : decode cL_broken 11 = .ok (.dup, 1) := by decide +kernel
theorem dL_broken_12 : decode cL_broken 12 = .ok (.iconst 2, 1) := by decide +kernel
theorem dL_broken_13 : decode cL_broken 13 = .ok (.iconst (-1), 1) := by decide +kernel
theorem dL_broken_14 : decode cL_broken 14 = .ok (.iastore, 1) := by decide +kernel
theorem dL_broken_15 : decode cL_broken 15 = .ok (.dup, 1) := by decide +kernel
theorem dL_broken_16 : decode cL_broken 16 = .ok (.iconst 3, 1) := by decide +kernel
theorem dL_broken_17 : decode cL_broken 17 = .ok (.iconst (-1), 1) := by decide +kernel
theorem dL_broken_18 : decode cL_broken 18 = .ok (.iastore, 1) := by decide +kernel
theorem dL_broken_19 : decode cL_broken 19 = .ok (.astore 4, 2) := by decide +kernel
theorem dL_broken_21 : decode cL_broken 21 = .ok (.iconst 0, 1) := by decide +kernel
theorem dL_broken_22 : decode cL_broken 22 = .ok (.istore 5, 2) := by decide +kernel
theorem dL_broken_24 : decode cL_broken 24 = .ok (.iload 5, 2) := by decide +kernel
theorem dL_broken_26 : decode cL_broken 26 = .ok (.aload_n 1, 1) := by decide +kernel
theorem dL_broken_27 : decode cL_broken 27 = .ok (.bipush 11, 2) := by decide +kernel
theorem dL_broken_29 : decode cL_broken 29 = .ok (.iaload, 1) := by decide +kernel
theorem dL_broken_30 : decode cL_broken 30 = .ok (.if_icmp .ge 31, 3) := by decide +kernel
theorem dL_broken_33 : decode cL_broken 33 = .ok (.aload_n 2, 1) := by decide +kernel
theorem dL_broken_34 : decode cL_broken 34 = .ok (.iload 5, 2) := by decide +kernel
theorem dL_broken_36 : decode cL_broken 36 = .ok (.iaload, 1) := by decide +kernel
theorem dL_broken_37 : decode cL_broken 37 = .ok (.ifCond .ge 9, 3) := by decide +kernel
theorem dL_broken_40 : decode cL_broken 40 = .ok (.bipush 100, 2) := by decide +kernel
theorem dL_broken_42 : decode cL_broken 42 = .ok (.iload 5, 2) := by decide +kernel
theorem dL_broken_44 : decode cL_broken 44 = .ok (.iadd, 1) := by decide +kernel
theorem dL_broken_45 : decode cL_broken 45 = .ok (.ireturn, 1) := by decide +kernel
theorem dL_broken_46 : decode cL_broken 46 = .ok (.aload 4, 2) := by decide +kernel
theorem dL_broken_48 : decode cL_broken 48 = .ok (.aload_n 2, 1) := by decide +kernel
theorem dL_broken_49 : decode cL_broken 49 = .ok (.iload 5, 2) := by decide +kernel
theorem dL_broken_51 : decode cL_broken 51 = .ok (.iaload, 1) := by decide +kernel
theorem dL_broken_52 : decode cL_broken 52 = .ok (.iload 5, 2) := by decide +kernel
theorem dL_broken_54 : decode cL_broken 54 = .ok (.iastore, 1) := by decide +kernel
theorem dL_broken_55 : decode cL_broken 55 = .ok (.iinc 5 1, 3) := by decide +kernel
theorem dL_broken_58 : decode cL_broken 58 = .ok (.goto (-34), 3) := by decide +kernel
theorem dL_broken_61 : decode cL_broken 61 = .ok (.iconst 4, 1) := by decide +kernel
theorem dL_broken_62 : decode cL_broken 62 = .ok (.newarray .int, 2) := by decide +kernel
theorem dL_broken_64 : decode cL_broken 64 = .ok (.astore 5, 2) := by decide +kernel
theorem dL_broken_66 : decode cL_broken 66 = .ok (.iconst 0, 1) := by decide +kernel
theorem dL_broken_67 : decode cL_broken 67 = .ok (.istore 6, 2) := by decide +kernel
theorem dL_broken_69 : decode cL_broken 69 = .ok (.iload 6, 2) := by decide +kernel
theorem dL_broken_71 : decode cL_broken 71 = .ok (.iconst 4, 1) := by decide +kernel
theorem dL_broken_72 : decode cL_broken 72 = .ok (.if_icmp .ge 35, 3) := by decide +kernel
theorem dL_broken_75 : decode cL_broken 75 = .ok (.aload 5, 2) := by decide +kernel
theorem dL_broken_77 : decode cL_broken 77 = .ok (.iload 6, 2) := by decide +kernel
theorem dL_broken_79 : decode cL_broken 79 = .ok (.aload 4, 2) := by decide +kernel
theorem dL_broken_81 : decode cL_broken 81 = .ok (.iload 6, 2) := by decide +kernel
theorem dL_broken_83 : decode cL_broken 83 = .ok (.iaload, 1) := by decide +kernel
theorem dL_broken_84 : decode cL_broken 84 = .ok (.ifCond .ge 7, 3) := by decide +kernel
theorem dL_broken_87 : decode cL_broken 87 = .ok (.iconst 0, 1) := by decide +kernel
theorem dL_broken_88 : decode cL_broken 88 = .ok (.goto 12, 3) := by decide +kernel
theorem dL_broken_91 : decode cL_broken 91 = .ok (.aload_n 1, 1) := by decide +kernel
theorem dL_broken_92 : decode cL_broken 92 = .ok (.iconst 2, 1) := by decide +kernel
theorem dL_broken_93 : decode cL_broken 93 = .ok (.aload 4, 2) := by decide +kernel
theorem dL_broken_95 : decode cL_broken 95 = .ok (.iload 6, 2) := by decide +kernel
theorem dL_broken_97 : decode cL_broken 97 = .ok (.iaload, 1) := by decide +kernel
theorem dL_broken_98 : decode cL_broken 98 = .ok (.imul, 1) := by decide +kernel
theorem dL_broken_99 : decode cL_broken 99 = .ok (.iaload, 1) := by decide +kernel
theorem dL_broken_100 : decode cL_broken 100 = .ok (.iastore, 1) := by decide +kernel
theorem dL_broken_101 : decode cL_broken 101 = .ok (.iinc 6 1, 3) := by decide +kernel
theorem dL_broken_104 : decode cL_broken 104 = .ok (.goto (-35), 3) := by decide +kernel
theorem dL_broken_107 : decode cL_broken 107 = .ok (.iconst 0, 1) := by decide +kernel
theorem dL_broken_108 : decode cL_broken 108 = .ok (.istore 6, 2) := by decide +kernel
theorem dL_broken_110 : decode cL_broken 110 = .ok (.iload 6, 2) := by decide +kernel
theorem dL_broken_112 : decode cL_broken 112 = .ok (.iconst 4, 1) := by decide +kernel
theorem dL_broken_113 : decode cL_broken 113 = .ok (.if_icmp .ge 31, 3) := by decide +kernel
theorem dL_broken_116 : decode cL_broken 116 = .ok (.aload 5, 2) := by decide +kernel
theorem dL_broken_118 : decode cL_broken 118 = .ok (.iload 6, 2) := by decide +kernel
theorem dL_broken_120 : decode cL_broken 120 = .ok (.iaload, 1) := by decide +kernel
theorem dL_broken_121 : decode cL_broken 121 = .ok (.aload_n 0, 1) := by decide +kernel
theorem dL_broken_122 : decode cL_broken 122 = .ok (.bipush 12, 2) := by decide +kernel
theorem dL_broken_124 : decode cL_broken 124 = .ok (.iload 6, 2) := by decide +kernel
theorem dL_broken_126 : decode cL_broken 126 = .ok (.iadd, 1) := by decide +kernel
theorem dL_broken_127 : decode cL_broken 127 = .ok (.iaload, 1) := by decide +kernel
theorem dL_broken_128 : decode cL_broken 128 = .ok (.if_icmp .le 10, 3) := by decide +kernel
theorem dL_broken_131 : decode cL_broken 131 = .ok (.sipush 200, 3) := by decide +kernel
theorem dL_broken_134 : decode cL_broken 134 = .ok (.iload 6, 2) := by decide +kernel
theorem dL_broken_136 : decode cL_broken 136 = .ok (.iadd, 1) := by decide +kernel
theorem dL_broken_137 : decode cL_broken 137 = .ok (.ireturn, 1) := by decide +kernel
theorem dL_broken_138 : decode cL_broken 138 = .ok (.iinc 6 1, 3) := by decide +kernel
theorem dL_broken_141 : decode cL_broken 141 = .ok (.goto (-31), 3) := by decide +kernel
theorem dL_broken_144 : decode cL_broken 144 = .ok (.aload 5, 2) := by decide +kernel
theorem dL_broken_146 : decode cL_broken 146 = .ok (.iconst 0, 1) := by decide +kernel
theorem dL_broken_147 : decode cL_broken 147 = .ok (.iaload, 1) := by decide +kernel
theorem dL_broken_148 : decode cL_broken 148 = .ok (.aload 5, 2) := by decide +kernel
theorem dL_broken_150 : decode cL_broken 150 = .ok (.iconst 1, 1) := by decide +kernel
theorem dL_broken_151 : decode cL_broken 151 = .ok (.iaload, 1) := by decide +kernel
theorem dL_broken_152 : decode cL_broken 152 = .ok (.iadd, 1) := by decide +kernel
theorem dL_broken_153 : decode cL_broken 153 = .ok (.aload_n 0, 1) := by decide +kernel
theorem dL_broken_154 : decode cL_broken 154 = .ok (.bipush 16, 2) := by decide +kernel
theorem dL_broken_156 : decode cL_broken 156 = .ok (.iaload, 1) := by decide +kernel
theorem dL_broken_157 : decode cL_broken 157 = .ok (.if_icmp .le 7, 3) := by decide +kernel
theorem dL_broken_160 : decode cL_broken 160 = .ok (.sipush 300, 3) := by decide +kernel
theorem dL_broken_163 : decode cL_broken 163 = .ok (.ireturn, 1) := by decide +kernel
theorem dL_broken_164 : decode cL_broken 164 = .ok (.iconst 0, 1) := by decide +kernel
theorem dL_broken_165 : decode cL_broken 165 = .ok (.istore 6, 2) := by decide +kernel
theorem dL_broken_167 : decode cL_broken 167 = .ok (.iload 6, 2) := by decide +kernel
theorem dL_broken_169 : decode cL_broken 169 = .ok (.iconst 2, 1) := by decide +kernel
theorem dL_broken_170 : decode cL_broken 170 = .ok (.if_icmp .ge 42, 3) := by decide +kernel
theorem dL_broken_173 : decode cL_broken 173 = .ok (.aload 5, 2) := by decide +kernel
theorem dL_broken_175 : decode cL_broken 175 = .ok (.iconst 2, 1) := by decide +kernel
theorem dL_broken_176 : decode cL_broken 176 = .ok (.iload 6, 2) := by decide +kernel
theorem dL_broken_178 : decode cL_broken 178 = .ok (.imul, 1) := by decide +kernel
theorem dL_broken_179 : decode cL_broken 179 = .ok (.iaload, 1) := by decide +kernel
theorem dL_broken_180 : decode cL_broken 180 = .ok (.aload 5, 2) := by decide +kernel
theorem dL_broken_182 : decode cL_broken 182 = .ok (.iconst 2, 1) := by decide +kernel
theorem dL_broken_183 : decode cL_broken 183 = .ok (.iload 6, 2) := by decide +kernel
theorem dL_broken_185 : decode cL_broken 185 = .ok (.imul, 1) := by decide +kernel
theorem dL_broken_186 : decode cL_broken 186 = .ok (.iconst 1, 1) := by decide +kernel
theorem dL_broken_187 : decode cL_broken 187 = .ok (.iadd, 1) := by decide +kernel
theorem dL_broken_188 : decode cL_broken 188 = .ok (.iaload, 1) := by decide +kernel
theorem dL_broken_189 : decode cL_broken 189 = .ok (.iadd, 1) := by decide +kernel
theorem dL_broken_190 : decode cL_broken 190 = .ok (.aload_n 0, 1) := by decide +kernel
theorem dL_broken_191 : decode cL_broken 191 = .ok (.iconst 4, 1) := by decide +kernel
theorem dL_broken_192 : decode cL_broken 192 = .ok (.iload 6, 2) := by decide +kernel
theorem dL_broken_194 : decode cL_broken 194 = .ok (.iadd, 1) := by decide +kernel
theorem dL_broken_195 : decode cL_broken 195 = .ok (.iaload, 1) := by decide +kernel
theorem dL_broken_196 : decode cL_broken 196 = .ok (.if_icmp .le 10, 3) := by decide +kernel
theorem dL_broken_199 : decode cL_broken 199 = .ok (.sipush 400, 3) := by decide +kernel
theorem dL_broken_202 : decode cL_broken 202 = .ok (.iload 6, 2) := by decide +kernel
theorem dL_broken_204 : decode cL_broken 204 = .ok (.iadd, 1) := by decide +kernel
theorem dL_broken_205 : decode cL_broken 205 = .ok (.ireturn, 1) := by decide +kernel
theorem dL_broken_206 : decode cL_broken 206 = .ok (.iinc 6 1, 3) := by decide +kernel
theorem dL_broken_209 : decode cL_broken 209 = .ok (.goto (-42), 3) := by decide +kernel
theorem dL_broken_212 : decode cL_broken 212 = .ok (.iload_n 3, 1) := by decide +kernel
theorem dL_broken_213 : decode cL_broken 213 = .ok (.aload_n 1, 1) := by decide +kernel
theorem dL_broken_214 : decode cL_broken 214 = .ok (.bipush 10, 2) := by decide +kernel
theorem dL_broken_216 : decode cL_broken 216 = .ok (.iaload, 1) := by decide +kernel
theorem dL_broken_217 : decode cL_broken 217 = .ok (.if_icmp .eq 7, 3) := by decide +kernel
theorem dL_broken_220 : decode cL_broken 220 = .ok (.sipush 500, 3) := by decide +kernel
theorem dL_broken_223 : decode cL_broken 223 = .ok (.ireturn, 1) := by decide +kernel
theorem dL_broken_224 : decode cL_broken 224 = .ok (.iconst 0, 1) := by decide +kernel
theorem dL_broken_225 : decode cL_broken 225 = .ok (.istore 6, 2) := by decide +kernel
theorem dL_broken_227 : decode cL_broken 227 = .ok (.iload 6, 2) := by decide +kernel
theorem dL_broken_229 : decode cL_broken 229 = .ok (.iconst 4, 1) := by decide +kernel
theorem dL_broken_230 : decode cL_broken 230 = .ok (.if_icmp .ge 74, 3) := by decide +kernel
theorem dL_broken_233 : decode cL_broken 233 = .ok (.aload 4, 2) := by decide +kernel
theorem dL_broken_235 : decode cL_broken 235 = .ok (.iload 6, 2) := by decide +kernel
theorem dL_broken_237 : decode cL_broken 237 = .ok (.iaload, 1) := by decide +kernel
theorem dL_broken_238 : decode cL_broken 238 = .ok (.ifCond .lt 60, 3) := by decide +kernel
theorem dL_broken_241 : decode cL_broken 241 = .ok (.aload_n 0, 1) := by decide +kernel
theorem dL_broken_242 : decode cL_broken 242 = .ok (.iload 6, 2) := by decide +kernel
theorem dL_broken_244 : decode cL_broken 244 = .ok (.invokestatic 87, 3) := by decide +kernel
theorem dL_broken_247 : decode cL_broken 247 = .ok (.ifCond .lt 51, 3) := by decide +kernel
theorem dL_broken_250 : decode cL_broken 250 = .ok (.aload 4, 2) := by decide +kernel
theorem dL_broken_252 : decode cL_broken 252 = .ok (.aload_n 0, 1) := by decide +kernel
theorem dL_broken_253 : decode cL_broken 253 = .ok (.iload 6, 2) := by decide +kernel
theorem dL_broken_255 : decode cL_broken 255 = .ok (.invokestatic 87, 3) := by decide +kernel
theorem dL_broken_258 : decode cL_broken 258 = .ok (.iaload, 1) := by decide +kernel
theorem dL_broken_259 : decode cL_broken 259 = .ok (.ifCond .lt 39, 3) := by decide +kernel
theorem dL_broken_262 : decode cL_broken 262 = .ok (.aload_n 1, 1) := by decide +kernel
theorem dL_broken_263 : decode cL_broken 263 = .ok (.iconst 2, 1) := by decide +kernel
theorem dL_broken_264 : decode cL_broken 264 = .ok (.aload 4, 2) := by decide +kernel
theorem dL_broken_266 : decode cL_broken 266 = .ok (.aload_n 0, 1) := by decide +kernel
theorem dL_broken_267 : decode cL_broken 267 = .ok (.iload 6, 2) := by decide +kernel
theorem dL_broken_269 : decode cL_broken 269 = .ok (.invokestatic 87, 3) := by decide +kernel
theorem dL_broken_272 : decode cL_broken 272 = .ok (.iaload, 1) := by decide +kernel
theorem dL_broken_273 : decode cL_broken 273 = .ok (.imul, 1) := by decide +kernel
theorem dL_broken_274 : decode cL_broken 274 = .ok (.iconst 1, 1) := by decide +kernel
theorem dL_broken_275 : decode cL_broken 275 = .ok (.iadd, 1) := by decide +kernel
theorem dL_broken_276 : decode cL_broken 276 = .ok (.iaload, 1) := by decide +kernel
theorem dL_broken_277 : decode cL_broken 277 = .ok (.aload_n 1, 1) := by decide +kernel
theorem dL_broken_278 : decode cL_broken 278 = .ok (.iconst 2, 1) := by decide +kernel
theorem dL_broken_279 : decode cL_broken 279 = .ok (.aload 4, 2) := by decide +kernel
theorem dL_broken_281 : decode cL_broken 281 = .ok (.iload 6, 2) := by decide +kernel
theorem dL_broken_283 : decode cL_broken 283 = .ok (.iaload, 1) := by decide +kernel
theorem dL_broken_284 : decode cL_broken 284 = .ok (.imul, 1) := by decide +kernel
theorem dL_broken_285 : decode cL_broken 285 = .ok (.iconst 1, 1) := by decide +kernel
theorem dL_broken_286 : decode cL_broken 286 = .ok (.iadd, 1) := by decide +kernel
theorem dL_broken_287 : decode cL_broken 287 = .ok (.iaload, 1) := by decide +kernel
theorem dL_broken_288 : decode cL_broken 288 = .ok (.if_icmp .le 10, 3) := by decide +kernel
theorem dL_broken_291 : decode cL_broken 291 = .ok (.sipush 600, 3) := by decide +kernel
theorem dL_broken_294 : decode cL_broken 294 = .ok (.iload 6, 2) := by decide +kernel
theorem dL_broken_296 : decode cL_broken 296 = .ok (.iadd, 1) := by decide +kernel
theorem dL_broken_297 : decode cL_broken 297 = .ok (.ireturn, 1) := by decide +kernel
theorem dL_broken_298 : decode cL_broken 298 = .ok (.iinc 6 1, 3) := by decide +kernel
theorem dL_broken_301 : decode cL_broken 301 = .ok (.goto (-74), 3) := by decide +kernel
theorem dL_broken_304 : decode cL_broken 304 = .ok (.iconst 0, 1) := by decide +kernel
theorem dL_broken_305 : decode cL_broken 305 = .ok (.istore 6, 2) := by decide +kernel
theorem dL_broken_307 : decode cL_broken 307 = .ok (.iload 6, 2) := by decide +kernel
theorem dL_broken_309 : decode cL_broken 309 = .ok (.iconst 5, 1) := by decide +kernel
theorem dL_broken_310 : decode cL_broken 310 = .ok (.if_icmp .ge 62, 3) := by decide +kernel
theorem dL_broken_313 : decode cL_broken 313 = .ok (.aload_n 0, 1) := by decide +kernel
theorem dL_broken_314 : decode cL_broken 314 = .ok (.aload_n 1, 1) := by decide +kernel
theorem dL_broken_315 : decode cL_broken 315 = .ok (.aload_n 2, 1) := by decide +kernel
theorem dL_broken_316 : decode cL_broken 316 = .ok (.iload_n 3, 1) := by decide +kernel
theorem dL_broken_317 : decode cL_broken 317 = .ok (.iload 6, 2) := by decide +kernel
theorem dL_broken_319 : decode cL_broken 319 = .ok (.iconst 0, 1) := by decide +kernel
theorem dL_broken_320 : decode cL_broken 320 = .ok (.invokestatic 90, 3) := by decide +kernel
theorem dL_broken_323 : decode cL_broken 323 = .ok (.istore 7, 2) := by decide +kernel
theorem dL_broken_325 : decode cL_broken 325 = .ok (.aload_n 0, 1) := by decide +kernel
theorem dL_broken_326 : decode cL_broken 326 = .ok (.aload_n 1, 1) := by decide +kernel
theorem dL_broken_327 : decode cL_broken 327 = .ok (.aload_n 2, 1) := by decide +kernel
theorem dL_broken_328 : decode cL_broken 328 = .ok (.iload_n 3, 1) := by decide +kernel
theorem dL_broken_329 : decode cL_broken 329 = .ok (.iload 6, 2) := by decide +kernel
theorem dL_broken_331 : decode cL_broken 331 = .ok (.iconst 1, 1) := by decide +kernel
theorem dL_broken_332 : decode cL_broken 332 = .ok (.invokestatic 90, 3) := by decide +kernel
theorem dL_broken_335 : decode cL_broken 335 = .ok (.istore 8, 2) := by decide +kernel
theorem dL_broken_337 : decode cL_broken 337 = .ok (.iload 8, 2) := by decide +kernel
theorem dL_broken_339 : decode cL_broken 339 = .ok (.iload 7, 2) := by decide +kernel
theorem dL_broken_341 : decode cL_broken 341 = .ok (.aload_n 0, 1) := by decide +kernel
theorem dL_broken_342 : decode cL_broken 342 = .ok (.iconst 2, 1) := by decide +kernel
theorem dL_broken_343 : decode cL_broken 343 = .ok (.iaload, 1) := by decide +kernel
theorem dL_broken_344 : decode cL_broken 344 = .ok (.imul, 1) := by decide +kernel
theorem dL_broken_345 : decode cL_broken 345 = .ok (.if_icmp .lt 14, 3) := by decide +kernel
theorem dL_broken_348 : decode cL_broken 348 = .ok (.iload 8, 2) := by decide +kernel
theorem dL_broken_350 : decode cL_broken 350 = .ok (.iload 7, 2) := by decide +kernel
theorem dL_broken_352 : decode cL_broken 352 = .ok (.aload_n 0, 1) := by decide +kernel
theorem dL_broken_353 : decode cL_broken 353 = .ok (.iconst 3, 1) := by decide +kernel
theorem dL_broken_354 : decode cL_broken 354 = .ok (.iaload, 1) := by decide +kernel
theorem dL_broken_355 : decode cL_broken 355 = .ok (.imul, 1) := by decide +kernel
theorem dL_broken_356 : decode cL_broken 356 = .ok (.if_icmp .le 10, 3) := by decide +kernel
theorem dL_broken_359 : decode cL_broken 359 = .ok (.sipush 700, 3) := by decide +kernel
theorem dL_broken_362 : decode cL_broken 362 = .ok (.iload 6, 2) := by decide +kernel
theorem dL_broken_364 : decode cL_broken 364 = .ok (.iadd, 1) := by decide +kernel
theorem dL_broken_365 : decode cL_broken 365 = .ok (.ireturn, 1) := by decide +kernel
theorem dL_broken_366 : decode cL_broken 366 = .ok (.iinc 6 1, 3) := by decide +kernel
theorem dL_broken_369 : decode cL_broken 369 = .ok (.goto (-62), 3) := by decide +kernel
theorem dL_broken_372 : decode cL_broken 372 = .ok (.iconst 0, 1) := by decide +kernel
theorem dL_broken_373 : decode cL_broken 373 = .ok (.ireturn, 1) := by decide +kernel
theorem dL_law_0 : decode cL_law 0 = .ok (.new 16, 3) := by decide +kernel
theorem dL_law_3 : decode cL_law 3 = .ok (.dup, 1) := by decide +kernel
theorem dL_law_4 : decode cL_law 4 = .ok (.invokespecial 94, 3) := by decide +kernel
theorem dL_law_7 : decode cL_law 7 = .ok (.astore_n 1, 1) := by decide +kernel
theorem dL_law_8 : decode cL_law 8 = .ok (.sipush 160, 3) := by decide +kernel
theorem dL_law_11 : decode cL_law 11 = .ok (.newarray .int, 2) := by decide +kernel
theorem dL_law_13 : decode cL_law 13 = .ok (.astore_n 2, 1) := by decide +kernel
theorem dL_law_14 : decode cL_law 14 = .ok (.aload_n 0, 1) := by decide +kernel
theorem dL_law_15 : decode cL_law 15 = .ok (.invokestatic 95, 3) := by decide +kernel
theorem dL_law_18 : decode cL_law 18 = .ok (.astore_n 3, 1) := by decide +kernel
theorem dL_law_19 : decode cL_law 19 = .ok (.aload_n 0, 1) := by decide +kernel
theorem dL_law_20 : decode cL_law 20 = .ok (.aload_n 3, 1) := by decide +kernel
theorem dL_law_21 : decode cL_law 21 = .ok (.invokestatic 98, 3) := by decide +kernel
theorem dL_law_24 : decode cL_law 24 = .ok (.astore 4, 2) := by decide +kernel
theorem dL_law_26 : decode cL_law 26 = .ok (.aload_n 1, 1) := by decide +kernel
theorem dL_law_27 : decode cL_law 27 = .ok (.aload_n 2, 1) := by decide +kernel
theorem dL_law_28 : decode cL_law 28 = .ok (.aload_n 3, 1) := by decide +kernel
theorem dL_law_29 : decode cL_law 29 = .ok (.invokestatic 101, 3) := by decide +kernel
theorem dL_law_32 : decode cL_law 32 = .ok (.ifCond .eq 13, 3) := by decide +kernel
theorem dL_law_35 : decode cL_law 35 = .ok (.aload_n 1, 1) := by decide +kernel
theorem dL_law_36 : decode cL_law 36 = .ok (.aload_n 2, 1) := by decide +kernel
theorem dL_law_37 : decode cL_law 37 = .ok (.aload 4, 2) := by decide +kernel
theorem dL_law_39 : decode cL_law 39 = .ok (.invokestatic 105, 3) := by decide +kernel
theorem dL_law_42 : decode cL_law 42 = .ok (.ifCond .ne 5, 3) := by decide +kernel
theorem dL_law_45 : decode cL_law 45 = .ok (.iconst 0, 1) := by decide +kernel
theorem dL_law_46 : decode cL_law 46 = .ok (.ireturn, 1) := by decide +kernel
theorem dL_law_47 : decode cL_law 47 = .ok (.iconst 3, 1) := by decide +kernel
theorem dL_law_48 : decode cL_law 48 = .ok (.newarray .int, 2) := by decide +kernel
theorem dL_law_50 : decode cL_law 50 = .ok (.dup, 1) := by decide +kernel
theorem dL_law_51 : decode cL_law 51 = .ok (.iconst 0, 1) := by decide +kernel
theorem dL_law_52 : decode cL_law 52 = .ok (.iconst (-1), 1) := by decide +kernel
theorem dL_law_53 : decode cL_law 53 = .ok (.iastore, 1) := by decide +kernel
theorem dL_law_54 : decode cL_law 54 = .ok (.dup, 1) := by decide +kernel
theorem dL_law_55 : decode cL_law 55 = .ok (.iconst 1, 1) := by decide +kernel
theorem dL_law_56 : decode cL_law 56 = .ok (.iconst (-1), 1) := by decide +kernel
theorem dL_law_57 : decode cL_law 57 = .ok (.iastore, 1) := by decide +kernel
theorem dL_law_58 : decode cL_law 58 = .ok (.dup, 1) := by decide +kernel
theorem dL_law_59 : decode cL_law 59 = .ok (.iconst 2, 1) := by decide +kernel
theorem dL_law_60 : decode cL_law 60 = .ok (.iconst (-1), 1) := by decide +kernel
theorem dL_law_61 : decode cL_law 61 = .ok (.iastore, 1) := by decide +kernel
theorem dL_law_62 : decode cL_law 62 = .ok (.astore 5, 2) := by decide +kernel
theorem dL_law_64 : decode cL_law 64 = .ok (.iconst 0, 1) := by decide +kernel
theorem dL_law_65 : decode cL_law 65 = .ok (.istore 6, 2) := by decide +kernel
theorem dL_law_67 : decode cL_law 67 = .ok (.iconst 0, 1) := by decide +kernel
theorem dL_law_68 : decode cL_law 68 = .ok (.istore 7, 2) := by decide +kernel
theorem dL_law_70 : decode cL_law 70 = .ok (.iconst 4, 1) := by decide +kernel
theorem dL_law_71 : decode cL_law 71 = .ok (.istore 8, 2) := by decide +kernel
theorem dL_law_73 : decode cL_law 73 = .ok (.iload 8, 2) := by decide +kernel
theorem dL_law_75 : decode cL_law 75 = .ok (.bipush 16, 2) := by decide +kernel
theorem dL_law_77 : decode cL_law 77 = .ok (.if_icmp .ge 719, 3) := by decide +kernel
theorem dL_law_80 : decode cL_law 80 = .ok (.aload_n 0, 1) := by decide +kernel
theorem dL_law_81 : decode cL_law 81 = .ok (.iload 8, 2) := by decide +kernel
theorem dL_law_83 : decode cL_law 83 = .ok (.invokestatic 28, 3) := by decide +kernel
theorem dL_law_86 : decode cL_law 86 = .ok (.istore 9, 2) := by decide +kernel
theorem dL_law_88 : decode cL_law 88 = .ok (.iload 9, 2) := by decide +kernel
theorem dL_law_90 : decode cL_law 90 = .ok (.iconst 2, 1) := by decide +kernel
theorem dL_law_91 : decode cL_law 91 = .ok (.ishr, 1) := by decide +kernel
theorem dL_law_92 : decode cL_law 92 = .ok (.iconst 3, 1) := by decide +kernel
theorem dL_law_93 : decode cL_law 93 = .ok (.iand, 1) := by decide +kernel
theorem dL_law_94 : decode cL_law 94 = .ok (.istore 10, 2) := by decide +kernel
theorem dL_law_96 : decode cL_law 96 = .ok (.iload 9, 2) := by decide +kernel
theorem dL_law_98 : decode cL_law 98 = .ok (.iconst 4, 1) := by decide +kernel
theorem dL_law_99 : decode cL_law 99 = .ok (.ishr, 1) := by decide +kernel
theorem dL_law_100 : decode cL_law 100 = .ok (.iconst 3, 1) := by decide +kernel
theorem dL_law_101 : decode cL_law 101 = .ok (.iand, 1) := by decide +kernel
theorem dL_law_102 : decode cL_law 102 = .ok (.istore 11, 2) := by decide +kernel
theorem dL_law_104 : decode cL_law 104 = .ok (.iload 10, 2) := by decide +kernel
theorem dL_law_106 : decode cL_law 106 = .ok (.aload 4, 2) := by decide +kernel
theorem dL_law_108 : decode cL_law 108 = .ok (.bipush 11, 2) := by decide +kernel
theorem dL_law_110 : decode cL_law 110 = .ok (.iaload, 1) := by decide +kernel
theorem dL_law_111 : decode cL_law 111 = .ok (.if_icmp .ge 7, 3) := by decide +kernel
theorem dL_law_114 : decode cL_law 114 = .ok (.iconst 1, 1) := by decide +kernel
theorem dL_law_115 : decode cL_law 115 = .ok (.goto 4, 3) := by decide +kernel
theorem dL_law_118 : decode cL_law 118 = .ok (.iconst 0, 1) := by decide +kernel
theorem dL_law_119 : decode cL_law 119 = .ok (.istore 12, 2) := by decide +kernel
theorem dL_law_121 : decode cL_law 121 = .ok (.iconst (-1), 1) := by decide +kernel
theorem dL_law_122 : decode cL_law 122 = .ok (.istore 13, 2) := by decide +kernel
theorem dL_law_124 : decode cL_law 124 = .ok (.iconst (-1), 1) := by decide +kernel
theorem dL_law_125 : decode cL_law 125 = .ok (.istore 14, 2) := by decide +kernel
theorem dL_law_127 : decode cL_law 127 = .ok (.iconst 0, 1) := by decide +kernel
theorem dL_law_128 : decode cL_law 128 = .ok (.istore 15, 2) := by decide +kernel
theorem dL_law_130 : decode cL_law 130 = .ok (.iload 15, 2) := by decide +kernel
theorem dL_law_132 : decode cL_law 132 = .ok (.aload 4, 2) := by decide +kernel
theorem dL_law_134 : decode cL_law 134 = .ok (.bipush 11, 2) := by decide +kernel
theorem dL_law_136 : decode cL_law 136 = .ok (.iaload, 1) := by decide +kernel
theorem dL_law_137 : decode cL_law 137 = .ok (.if_icmp .ge 23, 3) := by decide +kernel
theorem dL_law_140 : decode cL_law 140 = .ok (.aload 5, 2) := by decide +kernel
theorem dL_law_142 : decode cL_law 142 = .ok (.iload 15, 2) := by decide +kernel
theorem dL_law_144 : decode cL_law 144 = .ok (.iaload, 1) := by decide +kernel
theorem dL_law_145 : decode cL_law 145 = .ok (.iload 11, 2) := by decide +kernel
theorem dL_law_147 : decode cL_law 147 = .ok (.if_icmp .ne 7, 3) := by decide +kernel
theorem dL_law_150 : decode cL_law 150 = .ok (.iload 15, 2) := by decide +kernel
theorem dL_law_152 : decode cL_law 152 = .ok (.istore 14, 2) := by decide +kernel
theorem dL_law_154 : decode cL_law 154 = .ok (.iinc 15 1, 3) := by decide +kernel
theorem dL_law_157 : decode cL_law 157 = .ok (.goto (-27), 3) := by decide +kernel
theorem dL_law_160 : decode cL_law 160 = .ok (.iload 9, 2) := by decide +kernel
theorem dL_law_162 : decode cL_law 162 = .ok (.iconst 3, 1) := by decide +kernel
theorem dL_law_163 : decode cL_law 163 = .ok (.iand, 1) := by decide +kernel
theorem dL_law_164 : decode cL_law 164 = .ok (.iconst 2, 1) := by decide +kernel
theorem dL_law_165 : decode cL_law 165 = .ok (.if_icmp .ge 61, 3) := by decide +kernel
theorem dL_law_168 : decode cL_law 168 = .ok (.iload 12, 2) := by decide +kernel
theorem dL_law_170 : decode cL_law 170 = .ok (.ifCond .eq 26, 3) := by decide +kernel
theorem dL_law_173 : decode cL_law 173 = .ok (.iload 14, 2) := by decide +kernel
theorem dL_law_175 : decode cL_law 175 = .ok (.ifCond .ge 7, 3) := by decide +kernel
theorem dL_law_178 : decode cL_law 178 = .ok (.iconst 0, 1) := by decide +kernel
theorem dL_law_179 : decode cL_law 179 = .ok (.goto 15, 3) := by decide +kernel
theorem dL_law_182 : decode cL_law 182 = .ok (.iload 14, 2) := by decide +kernel
theorem dL_law_184 : decode cL_law 184 = .ok (.iload 10, 2) := by decide +kernel
theorem dL_law_186 : decode cL_law 186 = .ok (.if_icmp .ne 7, 3) := by decide +kernel
theorem dL_law_189 : decode cL_law 189 = .ok (.iconst 2, 1) := by decide +kernel
theorem dL_law_190 : decode cL_law 190 = .ok (.goto 4, 3) := by decide +kernel
theorem dL_law_193 : decode cL_law 193 = .ok (.iconst 1, 1) := by decide +kernel
theorem dL_law_194 : decode cL_law 194 = .ok (.istore 13, 2) := by decide +kernel
theorem dL_law_196 : decode cL_law 196 = .ok (.aload_n 1, 1) := by decide +kernel
theorem dL_law_197 : decode cL_law 197 = .ok (.iload 10, 2) := by decide +kernel
theorem dL_law_199 : decode cL_law 199 = .ok (.iload 11, 2) := by decide +kernel
theorem dL_law_201 : decode cL_law 201 = .ok (.invokevirtual 108, 3) := by decide +kernel
theorem dL_law_204 : decode cL_law 204 = .ok (.iload 13, 2) := by decide +kernel
theorem dL_law_206 : decode cL_law 206 = .ok (.if_icmp .eq 5, 3) := by decide +kernel
theorem dL_law_209 : decode cL_law 209 = .ok (.iconst 0, 1) := by decide +kernel
theorem dL_law_210 : decode cL_law 210 = .ok (.ireturn, 1) := by decide +kernel
theorem dL_law_211 : decode cL_law 211 = .ok (.iload 13, 2) := by decide +kernel
theorem dL_law_213 : decode cL_law 213 = .ok (.ifCond .ne 202, 3) := by decide +kernel
theorem dL_law_216 : decode cL_law 216 = .ok (.aload 5, 2) := by decide +kernel
theorem dL_law_218 : decode cL_law 218 = .ok (.iload 10, 2) := by decide +kernel
theorem dL_law_220 : decode cL_law 220 = .ok (.iload 11, 2) := by decide +kernel
theorem dL_law_222 : decode cL_law 222 = .ok (.iastore, 1) := by decide +kernel
theorem dL_law_223 : decode cL_law 223 = .ok (.goto 192, 3) := by decide +kernel
theorem dL_law_226 : decode cL_law 226 = .ok (.iload 9, 2) := by decide +kernel
theorem dL_law_228 : decode cL_law 228 = .ok (.iconst 3, 1) := by decide +kernel
theorem dL_law_229 : decode cL_law 229 = .ok (.iand, 1) := by decide +kernel
theorem dL_law_230 : decode cL_law 230 = .ok (.iconst 2, 1) := by decide +kernel
theorem dL_law_231 : decode cL_law 231 = .ok (.if_icmp .ne 50, 3) := by decide +kernel
theorem dL_law_234 : decode cL_law 234 = .ok (.iload 12, 2) := by decide +kernel
theorem dL_law_236 : decode cL_law 236 = .ok (.ifCond .eq 10, 3) := by decide +kernel
theorem dL_law_239 : decode cL_law 239 = .ok (.aload 5, 2) := by decide +kernel
theorem dL_law_241 : decode cL_law 241 = .ok (.iload 10, 2) := by decide +kernel
theorem dL_law_243 : decode cL_law 243 = .ok (.iaload, 1) := by decide +kernel
theorem dL_law_244 : decode cL_law 244 = .ok (.istore 13, 2) := by decide +kernel
theorem dL_law_246 : decode cL_law 246 = .ok (.aload_n 1, 1) := by decide +kernel
theorem dL_law_247 : decode cL_law 247 = .ok (.iload 10, 2) := by decide +kernel
theorem dL_law_249 : decode cL_law 249 = .ok (.invokevirtual 112, 3) := by decide +kernel
theorem dL_law_252 : decode cL_law 252 = .ok (.iload 13, 2) := by decide +kernel
theorem dL_law_254 : decode cL_law 254 = .ok (.if_icmp .eq 5, 3) := by decide +kernel
theorem dL_law_257 : decode cL_law 257 = .ok (.iconst 0, 1) := by decide +kernel
theorem dL_law_258 : decode cL_law 258 = .ok (.ireturn, 1) := by decide +kernel
theorem dL_law_259 : decode cL_law 259 = .ok (.iload 13, 2) := by decide +kernel
theorem dL_law_261 : decode cL_law 261 = .ok (.ifCond .lt 9, 3) := by decide +kernel
theorem dL_law_264 : decode cL_law 264 = .ok (.aload 5, 2) := by decide +kernel
theorem dL_law_266 : decode cL_law 266 = .ok (.iload 10, 2) := by decide +kernel
theorem dL_law_268 : decode cL_law 268 = .ok (.iconst (-1), 1) := by decide +kernel
theorem dL_law_269 : decode cL_law 269 = .ok (.iastore, 1) := by decide +kernel
theorem dL_law_270 : decode cL_law 270 = .ok (.iload 13, 2) := by decide +kernel
theorem dL_law_272 : decode cL_law 272 = .ok (.ifCond .lt 143, 3) := by decide +kernel
theorem dL_law_275 : decode cL_law 275 = .ok (.iconst 0, 1) := by decide +kernel
theorem dL_law_276 : decode cL_law 276 = .ok (.istore 13, 2) := by decide +kernel
theorem dL_law_278 : decode cL_law 278 = .ok (.goto 137, 3) := by decide +kernel
theorem dL_law_281 : decode cL_law 281 = .ok (.iload 9, 2) := by decide +kernel
theorem dL_law_283 : decode cL_law 283 = .ok (.bipush 6, 2) := by decide +kernel
theorem dL_law_285 : decode cL_law 285 = .ok (.ishr, 1) := by decide +kernel
theorem dL_law_286 : decode cL_law 286 = .ok (.iconst 1, 1) := by decide +kernel
theorem dL_law_287 : decode cL_law 287 = .ok (.iand, 1) := by decide +kernel
theorem dL_law_288 : decode cL_law 288 = .ok (.ifCond .ne 62, 3) := by decide +kernel
theorem dL_law_291 : decode cL_law 291 = .ok (.iload 9, 2) := by decide +kernel
theorem dL_law_293 : decode cL_law 293 = .ok (.bipush 7, 2) := by decide +kernel
theorem dL_law_295 : decode cL_law 295 = .ok (.ishr, 1) := by decide +kernel
theorem dL_law_296 : decode cL_law 296 = .ok (.bipush 7, 2) := by decide +kernel
theorem dL_law_298 : decode cL_law 298 = .ok (.iand, 1) := by decide +kernel
theorem dL_law_299 : decode cL_law 299 = .ok (.istore 15, 2) := by decide +kernel
theorem dL_law_301 : decode cL_law 301 = .ok (.iload 15, 2) := by decide +kernel
theorem dL_law_303 : decode cL_law 303 = .ok (.aload_n 3, 1) := by decide +kernel
theorem dL_law_304 : decode cL_law 304 = .ok (.bipush 18, 2) := by decide +kernel
theorem dL_law_306 : decode cL_law 306 = .ok (.iaload, 1) := by decide +kernel
theorem dL_law_307 : decode cL_law 307 = .ok (.if_icmp .gt 17, 3) := by decide +kernel
theorem dL_law_310 : decode cL_law 310 = .ok (.iload 15, 2) := by decide +kernel
theorem dL_law_312 : decode cL_law 312 = .ok (.iload 6, 2) := by decide +kernel
theorem dL_law_314 : decode cL_law 314 = .ok (.if_icmp .ne 7, 3) := by decide +kernel
theorem dL_law_317 : decode cL_law 317 = .ok (.iconst 1, 1) := by decide +kernel
theorem dL_law_318 : decode cL_law 318 = .ok (.goto 4, 3) := by decide +kernel
theorem dL_law_321 : decode cL_law 321 = .ok (.iconst 0, 1) := by decide +kernel
theorem dL_law_322 : decode cL_law 322 = .ok (.istore 13, 2) := by decide +kernel
theorem dL_law_324 : decode cL_law 324 = .ok (.aload_n 1, 1) := by decide +kernel
theorem dL_law_325 : decode cL_law 325 = .ok (.iconst 0, 1) := by decide +kernel
theorem dL_law_326 : decode cL_law 326 = .ok (.iload 15, 2) := by decide +kernel
theorem dL_law_328 : decode cL_law 328 = .ok (.invokevirtual 116, 3) := by decide +kernel
theorem dL_law_331 : decode cL_law 331 = .ok (.iload 13, 2) := by decide +kernel
theorem dL_law_333 : decode cL_law 333 = .ok (.if_icmp .eq 5, 3) := by decide +kernel
theorem dL_law_336 : decode cL_law 336 = .ok (.iconst 0, 1) := by decide +kernel
theorem dL_law_337 : decode cL_law 337 = .ok (.ireturn, 1) := by decide +kernel
theorem dL_law_338 : decode cL_law 338 = .ok (.iload 13, 2) := by decide +kernel
theorem dL_law_340 : decode cL_law 340 = .ok (.ifCond .ne 7, 3) := by decide +kernel
theorem dL_law_343 : decode cL_law 343 = .ok (.iload 15, 2) := by decide +kernel
theorem dL_law_345 : decode cL_law 345 = .ok (.istore 6, 2) := by decide +kernel
theorem dL_law_347 : decode cL_law 347 = .ok (.goto 68, 3) := by decide +kernel
theorem dL_law_350 : decode cL_law 350 = .ok (.iconst 1, 1) := by decide +kernel
theorem dL_law_351 : decode cL_law 351 = .ok (.iload 9, 2) := by decide +kernel
theorem dL_law_353 : decode cL_law 353 = .ok (.bipush 7, 2) := by decide +kernel
theorem dL_law_355 : decode cL_law 355 = .ok (.ishr, 1) := by decide +kernel
theorem dL_law_356 : decode cL_law 356 = .ok (.bipush 31, 2) := by decide +kernel
theorem dL_law_358 : decode cL_law 358 = .ok (.iand, 1) := by decide +kernel
theorem dL_law_359 : decode cL_law 359 = .ok (.iadd, 1) := by decide +kernel
theorem dL_law_360 : decode cL_law 360 = .ok (.istore 15, 2) := by decide +kernel
theorem dL_law_362 : decode cL_law 362 = .ok (.iload 12, 2) := by decide +kernel
theorem dL_law_364 : decode cL_law 364 = .ok (.ifCond .eq 22, 3) := by decide +kernel
theorem dL_law_367 : decode cL_law 367 = .ok (.aload 4, 2) := by decide +kernel
theorem dL_law_369 : decode cL_law 369 = .ok (.iconst 2, 1) := by decide +kernel
theorem dL_law_370 : decode cL_law 370 = .ok (.iload 10, 2) := by decide +kernel
theorem dL_law_372 : decode cL_law 372 = .ok (.imul, 1) := by decide +kernel
theorem dL_law_373 : decode cL_law 373 = .ok (.iaload, 1) := by decide +kernel
theorem dL_law_374 : decode cL_law 374 = .ok (.iload 15, 2) := by decide +kernel
theorem dL_law_376 : decode cL_law 376 = .ok (.if_icmp .ne 7, 3) := by decide +kernel
theorem dL_law_379 : decode cL_law 379 = .ok (.iconst 1, 1) := by decide +kernel
theorem dL_law_380 : decode cL_law 380 = .ok (.goto 4, 3) := by decide +kernel
theorem dL_law_383 : decode cL_law 383 = .ok (.iconst 0, 1) := by decide +kernel
theorem dL_law_384 : decode cL_law 384 = .ok (.istore 13, 2) := by decide +kernel
theorem dL_law_386 : decode cL_law 386 = .ok (.aload_n 1, 1) := by decide +kernel
theorem dL_law_387 : decode cL_law 387 = .ok (.iload 10, 2) := by decide +kernel
theorem dL_law_389 : decode cL_law 389 = .ok (.iload 15, 2) := by decide +kernel
theorem dL_law_391 : decode cL_law 391 = .ok (.invokevirtual 119, 3) := by decide +kernel
theorem dL_law_394 : decode cL_law 394 = .ok (.iload 13, 2) := by decide +kernel
theorem dL_law_396 : decode cL_law 396 = .ok (.if_icmp .eq 5, 3) := by decide +kernel
theorem dL_law_399 : decode cL_law 399 = .ok (.iconst 0, 1) := by decide +kernel
theorem dL_law_400 : decode cL_law 400 = .ok (.ireturn, 1) := by decide +kernel
theorem dL_law_401 : decode cL_law 401 = .ok (.iload 13, 2) := by decide +kernel
theorem dL_law_403 : decode cL_law 403 = .ok (.ifCond .ne 12, 3) := by decide +kernel
theorem dL_law_406 : decode cL_law 406 = .ok (.aload 4, 2) := by decide +kernel
theorem dL_law_408 : decode cL_law 408 = .ok (.iconst 2, 1) := by decide +kernel
theorem dL_law_409 : decode cL_law 409 = .ok (.iload 10, 2) := by decide +kernel
theorem dL_law_411 : decode cL_law 411 = .ok (.imul, 1) := by decide +kernel
theorem dL_law_412 : decode cL_law 412 = .ok (.iload 15, 2) := by decide +kernel
theorem dL_law_414 : decode cL_law 414 = .ok (.iastore, 1) := by decide +kernel
theorem dL_law_415 : decode cL_law 415 = .ok (.iload 13, 2) := by decide +kernel
theorem dL_law_417 : decode cL_law 417 = .ok (.ifCond .ne 6, 3) := by decide +kernel
theorem dL_law_420 : decode cL_law 420 = .ok (.iinc 7 1, 3) := by decide +kernel
theorem dL_law_423 : decode cL_law 423 = .ok (.aload_n 3, 1) := by decide +kernel
theorem dL_law_424 : decode cL_law 424 = .ok (.aload 4, 2) := by decide +kernel
theorem dL_law_426 : decode cL_law 426 = .ok (.aload 5, 2) := by decide +kernel
theorem dL_law_428 : decode cL_law 428 = .ok (.iload 6, 2) := by decide +kernel
theorem dL_law_430 : decode cL_law 430 = .ok (.invokestatic 122, 3) := by decide +kernel
theorem dL_law_433 : decode cL_law 433 = .ok (.istore 15, 2) := by decide +kernel
theorem dL_law_435 : decode cL_law 435 = .ok (.aload_n 1, 1) := by decide +kernel
theorem dL_law_436 : decode cL_law 436 = .ok (.invokevirtual 126, 3) := by decide +kernel
theorem dL_law_439 : decode cL_law 439 = .ok (.iload 15, 2) := by decide +kernel
theorem dL_law_441 : decode cL_law 441 = .ok (.bipush 100, 2) := by decide +kernel
theorem dL_law_443 : decode cL_law 443 = .ok (.idiv, 1) := by decide +kernel
theorem dL_law_444 : decode cL_law 444 = .ok (.if_icmp .ne 35, 3) := by decide +kernel
theorem dL_law_447 : decode cL_law 447 = .ok (.aload_n 1, 1) := by decide +kernel
theorem dL_law_448 : decode cL_law 448 = .ok (.invokevirtual 129, 3) := by decide +kernel
theorem dL_law_451 : decode cL_law 451 = .ok (.iload 15, 2) := by decide +kernel
theorem dL_law_453 : decode cL_law 453 = .ok (.ifCond .ne 7, 3) := by decide +kernel
theorem dL_law_456 : decode cL_law 456 = .ok (.iconst (-1), 1) := by decide +kernel
theorem dL_law_457 : decode cL_law 457 = .ok (.goto 8, 3) := by decide +kernel
theorem dL_law_460 : decode cL_law 460 = .ok (.iload 15, 2) := by decide +kernel
theorem dL_law_462 : decode cL_law 462 = .ok (.bipush 100, 2) := by decide +kernel
theorem dL_law_464 : decode cL_law 464 = .ok (.irem, 1) := by decide +kernel
theorem dL_law_465 : decode cL_law 465 = .ok (.if_icmp .ne 14, 3) := by decide +kernel
theorem dL_law_468 : decode cL_law 468 = .ok (.aload_n 1, 1) := by decide +kernel
theorem dL_law_469 : decode cL_law 469 = .ok (.iconst 0, 1) := by decide +kernel
theorem dL_law_470 : decode cL_law 470 = .ok (.iconst 0, 1) := by decide +kernel
theorem dL_law_471 : decode cL_law 471 = .ok (.invokevirtual 132, 3) := by decide +kernel
theorem dL_law_474 : decode cL_law 474 = .ok (.iload 6, 2) := by decide +kernel
theorem dL_law_476 : decode cL_law 476 = .ok (.if_icmp .eq 5, 3) := by decide +kernel
theorem dL_law_479 : decode cL_law 479 = .ok (.iconst 0, 1) := by decide +kernel
theorem dL_law_480 : decode cL_law 480 = .ok (.ireturn, 1) := by decide +kernel
theorem dL_law_481 : decode cL_law 481 = .ok (.iconst 0, 1) := by decide +kernel
theorem dL_law_482 : decode cL_law 482 = .ok (.istore 16, 2) := by decide +kernel
theorem dL_law_484 : decode cL_law 484 = .ok (.iconst 0, 1) := by decide +kernel
theorem dL_law_485 : decode cL_law 485 = .ok (.istore 17, 2) := by decide +kernel
theorem dL_law_487 : decode cL_law 487 = .ok (.iload 17, 2) := by decide +kernel
theorem dL_law_489 : decode cL_law 489 = .ok (.aload 4, 2) := by decide +kernel
theorem dL_law_491 : decode cL_law 491 = .ok (.bipush 11, 2) := by decide +kernel
theorem dL_law_493 : decode cL_law 493 = .ok (.iaload, 1) := by decide +kernel
theorem dL_law_494 : decode cL_law 494 = .ok (.if_icmp .ge 163, 3) := by decide +kernel
theorem dL_law_497 : decode cL_law 497 = .ok (.aload_n 1, 1) := by decide +kernel
theorem dL_law_498 : decode cL_law 498 = .ok (.iload 17, 2) := by decide +kernel
theorem dL_law_500 : decode cL_law 500 = .ok (.iconst 0, 1) := by decide +kernel
theorem dL_law_501 : decode cL_law 501 = .ok (.invokevirtual 135, 3) := by decide +kernel
theorem dL_law_504 : decode cL_law 504 = .ok (.aload 4, 2) := by decide +kernel
theorem dL_law_506 : decode cL_law 506 = .ok (.iconst 2, 1) := by decide +kernel
theorem dL_law_507 : decode cL_law 507 = .ok (.iload 17, 2) := by decide +kernel
theorem dL_law_509 : decode cL_law 509 = .ok (.imul, 1) := by decide +kernel
theorem dL_law_510 : decode cL_law 510 = .ok (.iaload, 1) := by decide +kernel
theorem dL_law_511 : decode cL_law 511 = .ok (.if_icmp .ne 18, 3) := by decide +kernel
theorem dL_law_514 : decode cL_law 514 = .ok (.aload_n 1, 1) := by decide +kernel
theorem dL_law_515 : decode cL_law 515 = .ok (.iload 17, 2) := by decide +kernel
theorem dL_law_517 : decode cL_law 517 = .ok (.iconst 2, 1) := by decide +kernel
theorem dL_law_518 : decode cL_law 518 = .ok (.invokevirtual 135, 3) := by decide +kernel
theorem dL_law_521 : decode cL_law 521 = .ok (.aload 5, 2) := by decide +kernel
theorem dL_law_523 : decode cL_law 523 = .ok (.iload 17, 2) := by decide +kernel
theorem dL_law_525 : decode cL_law 525 = .ok (.iaload, 1) := by decide +kernel
theorem dL_law_526 : decode cL_law 526 = .ok (.if_icmp .eq 5, 3) := by decide +kernel
theorem dL_law_529 : decode cL_law 529 = .ok (.iconst 0, 1) := by decide +kernel
theorem dL_law_530 : decode cL_law 530 = .ok (.ireturn, 1) := by decide +kernel
theorem dL_law_531 : decode cL_law 531 = .ok (.iload 16, 2) := by decide +kernel
theorem dL_law_533 : decode cL_law 533 = .ok (.aload 5, 2) := by decide +kernel
theorem dL_law_535 : decode cL_law 535 = .ok (.iload 17, 2) := by decide +kernel
theorem dL_law_537 : decode cL_law 537 = .ok (.iaload, 1) := by decide +kernel
theorem dL_law_538 : decode cL_law 538 = .ok (.ifCond .ge 7, 3) := by decide +kernel
theorem dL_law_541 : decode cL_law 541 = .ok (.iconst 1, 1) := by decide +kernel
theorem dL_law_542 : decode cL_law 542 = .ok (.goto 4, 3) := by decide +kernel
theorem dL_law_545 : decode cL_law 545 = .ok (.iconst 0, 1) := by decide +kernel
theorem dL_law_546 : decode cL_law 546 = .ok (.iadd, 1) := by decide +kernel
theorem dL_law_547 : decode cL_law 547 = .ok (.istore 16, 2) := by decide +kernel
theorem dL_law_549 : decode cL_law 549 = .ok (.iconst 0, 1) := by decide +kernel
theorem dL_law_550 : decode cL_law 550 = .ok (.istore 18, 2) := by decide +kernel
theorem dL_law_552 : decode cL_law 552 = .ok (.aload 5, 2) := by decide +kernel
theorem dL_law_554 : decode cL_law 554 = .ok (.iload 17, 2) := by decide +kernel
theorem dL_law_556 : decode cL_law 556 = .ok (.iaload, 1) := by decide +kernel
theorem dL_law_557 : decode cL_law 557 = .ok (.ifCond .lt 81, 3) := by decide +kernel
theorem dL_law_560 : decode cL_law 560 = .ok (.aload_n 3, 1) := by decide +kernel
theorem dL_law_561 : decode cL_law 561 = .ok (.aload 5, 2) := by decide +kernel
theorem dL_law_563 : decode cL_law 563 = .ok (.iload 17, 2) := by decide +kernel
theorem dL_law_565 : decode cL_law 565 = .ok (.iaload, 1) := by decide +kernel
theorem dL_law_566 : decode cL_law 566 = .ok (.invokestatic 87, 3) := by decide +kernel
theorem dL_law_569 : decode cL_law 569 = .ok (.ifCond .lt 69, 3) := by decide +kernel
theorem dL_law_572 : decode cL_law 572 = .ok (.iconst 0, 1) := by decide +kernel
theorem dL_law_573 : decode cL_law 573 = .ok (.istore 19, 2) := by decide +kernel
theorem dL_law_575 : decode cL_law 575 = .ok (.iload 19, 2) := by decide +kernel
theorem dL_law_577 : decode cL_law 577 = .ok (.aload 4, 2) := by decide +kernel
theorem dL_law_579 : decode cL_law 579 = .ok (.bipush 11, 2) := by decide +kernel
theorem dL_law_581 : decode cL_law 581 = .ok (.iaload, 1) := by decide +kernel
theorem dL_law_582 : decode cL_law 582 = .ok (.if_icmp .ge 56, 3) := by decide +kernel
theorem dL_law_585 : decode cL_law 585 = .ok (.aload 5, 2) := by decide +kernel
theorem dL_law_587 : decode cL_law 587 = .ok (.iload 19, 2) := by decide +kernel
theorem dL_law_589 : decode cL_law 589 = .ok (.iaload, 1) := by decide +kernel
theorem dL_law_590 : decode cL_law 590 = .ok (.aload_n 3, 1) := by decide +kernel
theorem dL_law_591 : decode cL_law 591 = .ok (.aload 5, 2) := by decide +kernel
theorem dL_law_593 : decode cL_law 593 = .ok (.iload 17, 2) := by decide +kernel
theorem dL_law_595 : decode cL_law 595 = .ok (.iaload, 1) := by decide +kernel
theorem dL_law_596 : decode cL_law 596 = .ok (.invokestatic 87, 3) := by decide +kernel
theorem dL_law_599 : decode cL_law 599 = .ok (.if_icmp .ne 33, 3) := by decide +kernel
theorem dL_law_602 : decode cL_law 602 = .ok (.aload 4, 2) := by decide +kernel
theorem dL_law_604 : decode cL_law 604 = .ok (.iconst 2, 1) := by decide +kernel
theorem dL_law_605 : decode cL_law 605 = .ok (.iload 19, 2) := by decide +kernel
theorem dL_law_607 : decode cL_law 607 = .ok (.imul, 1) := by decide +kernel
theorem dL_law_608 : decode cL_law 608 = .ok (.iconst 1, 1) := by decide +kernel
theorem dL_law_609 : decode cL_law 609 = .ok (.iadd, 1) := by decide +kernel
theorem dL_law_610 : decode cL_law 610 = .ok (.iaload, 1) := by decide +kernel
theorem dL_law_611 : decode cL_law 611 = .ok (.aload 4, 2) := by decide +kernel
theorem dL_law_613 : decode cL_law 613 = .ok (.iconst 2, 1) := by decide +kernel
theorem dL_law_614 : decode cL_law 614 = .ok (.iload 17, 2) := by decide +kernel
theorem dL_law_616 : decode cL_law 616 = .ok (.imul, 1) := by decide +kernel
theorem dL_law_617 : decode cL_law 617 = .ok (.iconst 1, 1) := by decide +kernel
theorem dL_law_618 : decode cL_law 618 = .ok (.iadd, 1) := by decide +kernel
theorem dL_law_619 : decode cL_law 619 = .ok (.iaload, 1) := by decide +kernel
theorem dL_law_620 : decode cL_law 620 = .ok (.if_icmp .le 12, 3) := by decide +kernel
theorem dL_law_623 : decode cL_law 623 = .ok (.iload 18, 2) := by decide +kernel
theorem dL_law_625 : decode cL_law 625 = .ok (.iconst 1, 1) := by decide +kernel
theorem dL_law_626 : decode cL_law 626 = .ok (.iload 19, 2) := by decide +kernel
theorem dL_law_628 : decode cL_law 628 = .ok (.ishl, 1) := by decide +kernel
theorem dL_law_629 : decode cL_law 629 = .ok (.ior, 1) := by decide +kernel
theorem dL_law_630 : decode cL_law 630 = .ok (.istore 18, 2) := by decide +kernel
theorem dL_law_632 : decode cL_law 632 = .ok (.iinc 19 1, 3) := by decide +kernel
theorem dL_law_635 : decode cL_law 635 = .ok (.goto (-60), 3) := by decide +kernel
theorem dL_law_638 : decode cL_law 638 = .ok (.aload_n 1, 1) := by decide +kernel
theorem dL_law_639 : decode cL_law 639 = .ok (.iload 17, 2) := by decide +kernel
theorem dL_law_641 : decode cL_law 641 = .ok (.invokevirtual 138, 3) := by decide +kernel
theorem dL_law_644 : decode cL_law 644 = .ok (.iload 18, 2) := by decide +kernel
theorem dL_law_646 : decode cL_law 646 = .ok (.if_icmp .eq 5, 3) := by decide +kernel
theorem dL_law_649 : decode cL_law 649 = .ok (.iconst 0, 1) := by decide +kernel
theorem dL_law_650 : decode cL_law 650 = .ok (.ireturn, 1) := by decide +kernel
theorem dL_law_651 : decode cL_law 651 = .ok (.iinc 17 1, 3) := by decide +kernel
theorem dL_law_654 : decode cL_law 654 = .ok (.goto (-167), 3) := by decide +kernel
theorem dL_law_657 : decode cL_law 657 = .ok (.iconst 0, 1) := by decide +kernel
theorem dL_law_658 : decode cL_law 658 = .ok (.istore 17, 2) := by decide +kernel
theorem dL_law_660 : decode cL_law 660 = .ok (.iload 17, 2) := by decide +kernel
theorem dL_law_662 : decode cL_law 662 = .ok (.iconst 5, 1) := by decide +kernel
theorem dL_law_663 : decode cL_law 663 = .ok (.if_icmp .ge 103, 3) := by decide +kernel
theorem dL_law_666 : decode cL_law 666 = .ok (.aload_n 3, 1) := by decide +kernel
theorem dL_law_667 : decode cL_law 667 = .ok (.aload 4, 2) := by decide +kernel
theorem dL_law_669 : decode cL_law 669 = .ok (.aload 5, 2) := by decide +kernel
theorem dL_law_671 : decode cL_law 671 = .ok (.iload 6, 2) := by decide +kernel
theorem dL_law_673 : decode cL_law 673 = .ok (.iload 17, 2) := by decide +kernel
theorem dL_law_675 : decode cL_law 675 = .ok (.iconst 0, 1) := by decide +kernel
theorem dL_law_676 : decode cL_law 676 = .ok (.invokestatic 90, 3) := by decide +kernel
theorem dL_law_679 : decode cL_law 679 = .ok (.istore 18, 2) := by decide +kernel
theorem dL_law_681 : decode cL_law 681 = .ok (.aload_n 3, 1) := by decide +kernel
theorem dL_law_682 : decode cL_law 682 = .ok (.aload 4, 2) := by decide +kernel
theorem dL_law_684 : decode cL_law 684 = .ok (.aload 5, 2) := by decide +kernel
theorem dL_law_686 : decode cL_law 686 = .ok (.iload 6, 2) := by decide +kernel
theorem dL_law_688 : decode cL_law 688 = .ok (.iload 17, 2) := by decide +kernel
theorem dL_law_690 : decode cL_law 690 = .ok (.iconst 1, 1) := by decide +kernel
theorem dL_law_691 : decode cL_law 691 = .ok (.invokestatic 90, 3) := by decide +kernel
theorem dL_law_694 : decode cL_law 694 = .ok (.istore 19, 2) := by decide +kernel
theorem dL_law_696 : decode cL_law 696 = .ok (.aload_n 1, 1) := by decide +kernel
theorem dL_law_697 : decode cL_law 697 = .ok (.iload 17, 2) := by decide +kernel
theorem dL_law_699 : decode cL_law 699 = .ok (.iconst 0, 1) := by decide +kernel
theorem dL_law_700 : decode cL_law 700 = .ok (.invokevirtual 141, 3) := by decide +kernel
theorem dL_law_703 : decode cL_law 703 = .ok (.iload 18, 2) := by decide +kernel
theorem dL_law_705 : decode cL_law 705 = .ok (.if_icmp .ne 53, 3) := by decide +kernel
theorem dL_law_708 : decode cL_law 708 = .ok (.aload_n 1, 1) := by decide +kernel
theorem dL_law_709 : decode cL_law 709 = .ok (.iload 17, 2) := by decide +kernel
theorem dL_law_711 : decode cL_law 711 = .ok (.iconst 1, 1) := by decide +kernel
theorem dL_law_712 : decode cL_law 712 = .ok (.invokevirtual 141, 3) := by decide +kernel
theorem dL_law_715 : decode cL_law 715 = .ok (.iload 19, 2) := by decide +kernel
theorem dL_law_717 : decode cL_law 717 = .ok (.if_icmp .ne 41, 3) := by decide +kernel
theorem dL_law_720 : decode cL_law 720 = .ok (.aload_n 1, 1) := by decide +kernel
theorem dL_law_721 : decode cL_law 721 = .ok (.iload 17, 2) := by decide +kernel
theorem dL_law_723 : decode cL_law 723 = .ok (.iconst 2, 1) := by decide +kernel
theorem dL_law_724 : decode cL_law 724 = .ok (.invokevirtual 141, 3) := by decide +kernel
theorem dL_law_727 : decode cL_law 727 = .ok (.iload 19, 2) := by decide +kernel
theorem dL_law_729 : decode cL_law 729 = .ok (.iload 18, 2) := by decide +kernel
theorem dL_law_731 : decode cL_law 731 = .ok (.aload_n 3, 1) := by decide +kernel
theorem dL_law_732 : decode cL_law 732 = .ok (.iconst 2, 1) := by decide +kernel
theorem dL_law_733 : decode cL_law 733 = .ok (.iaload, 1) := by decide +kernel
theorem dL_law_734 : decode cL_law 734 = .ok (.imul, 1) := by decide +kernel
theorem dL_law_735 : decode cL_law 735 = .ok (.isub, 1) := by decide +kernel
theorem dL_law_736 : decode cL_law 736 = .ok (.if_icmp .ne 22, 3) := by decide +kernel
theorem dL_law_739 : decode cL_law 739 = .ok (.aload_n 1, 1) := by decide +kernel
theorem dL_law_740 : decode cL_law 740 = .ok (.iload 17, 2) := by decide +kernel
theorem dL_law_742 : decode cL_law 742 = .ok (.iconst 3, 1) := by decide +kernel
theorem dL_law_743 : decode cL_law 743 = .ok (.invokevirtual 141, 3) := by decide +kernel
theorem dL_law_746 : decode cL_law 746 = .ok (.iload 18, 2) := by decide +kernel
theorem dL_law_748 : decode cL_law 748 = .ok (.aload_n 3, 1) := by decide +kernel
theorem dL_law_749 : decode cL_law 749 = .ok (.iconst 3, 1) := by decide +kernel
theorem dL_law_750 : decode cL_law 750 = .ok (.iaload, 1) := by decide +kernel
theorem dL_law_751 : decode cL_law 751 = .ok (.imul, 1) := by decide +kernel
theorem dL_law_752 : decode cL_law 752 = .ok (.iload 19, 2) := by decide +kernel
theorem dL_law_754 : decode cL_law 754 = .ok (.isub, 1) := by decide +kernel
theorem dL_law_755 : decode cL_law 755 = .ok (.if_icmp .eq 5, 3) := by decide +kernel
theorem dL_law_758 : decode cL_law 758 = .ok (.iconst 0, 1) := by decide +kernel
theorem dL_law_759 : decode cL_law 759 = .ok (.ireturn, 1) := by decide +kernel
theorem dL_law_760 : decode cL_law 760 = .ok (.iinc 17 1, 3) := by decide +kernel
theorem dL_law_763 : decode cL_law 763 = .ok (.goto (-103), 3) := by decide +kernel
theorem dL_law_766 : decode cL_law 766 = .ok (.aload_n 1, 1) := by decide +kernel
theorem dL_law_767 : decode cL_law 767 = .ok (.bipush 9, 2) := by decide +kernel
theorem dL_law_769 : decode cL_law 769 = .ok (.invokevirtual 143, 3) := by decide +kernel
theorem dL_law_772 : decode cL_law 772 = .ok (.iload 16, 2) := by decide +kernel
theorem dL_law_774 : decode cL_law 774 = .ok (.if_icmp .ne 14, 3) := by decide +kernel
theorem dL_law_777 : decode cL_law 777 = .ok (.aload_n 1, 1) := by decide +kernel
theorem dL_law_778 : decode cL_law 778 = .ok (.iconst 5, 1) := by decide +kernel
theorem dL_law_779 : decode cL_law 779 = .ok (.iconst 0, 1) := by decide +kernel
theorem dL_law_780 : decode cL_law 780 = .ok (.invokevirtual 141, 3) := by decide +kernel
theorem dL_law_783 : decode cL_law 783 = .ok (.ldc 146, 2) := by decide +kernel
theorem dL_law_785 : decode cL_law 785 = .ok (.if_icmp .eq 5, 3) := by decide +kernel
theorem dL_law_788 : decode cL_law 788 = .ok (.iconst 0, 1) := by decide +kernel
theorem dL_law_789 : decode cL_law 789 = .ok (.ireturn, 1) := by decide +kernel
theorem dL_law_790 : decode cL_law 790 = .ok (.iinc 8 1, 3) := by decide +kernel
theorem dL_law_793 : decode cL_law 793 = .ok (.goto (-720), 3) := by decide +kernel
theorem dL_law_796 : decode cL_law 796 = .ok (.bipush 8, 2) := by decide +kernel
theorem dL_law_798 : decode cL_law 798 = .ok (.iload 7, 2) := by decide +kernel
theorem dL_law_800 : decode cL_law 800 = .ok (.invokestatic 147, 3) := by decide +kernel
theorem dL_law_803 : decode cL_law 803 = .ok (.istore 8, 2) := by decide +kernel
theorem dL_law_805 : decode cL_law 805 = .ok (.iload 8, 2) := by decide +kernel
theorem dL_law_807 : decode cL_law 807 = .ok (.ifCond .le 22, 3) := by decide +kernel
theorem dL_law_810 : decode cL_law 810 = .ok (.aload_n 1, 1) := by decide +kernel
theorem dL_law_811 : decode cL_law 811 = .ok (.invokevirtual 152, 3) := by decide +kernel
theorem dL_law_814 : decode cL_law 814 = .ok (.iload 8, 2) := by decide +kernel
theorem dL_law_816 : decode cL_law 816 = .ok (.iconst 1, 1) := by decide +kernel
theorem dL_law_817 : decode cL_law 817 = .ok (.isub, 1) := by decide +kernel
theorem dL_law_818 : decode cL_law 818 = .ok (.if_icmp .eq 5, 3) := by decide +kernel
theorem dL_law_821 : decode cL_law 821 = .ok (.iconst 0, 1) := by decide +kernel
theorem dL_law_822 : decode cL_law 822 = .ok (.ireturn, 1) := by decide +kernel
theorem dL_law_823 : decode cL_law 823 = .ok (.iinc 8 (-1), 3) := by decide +kernel
theorem dL_law_826 : decode cL_law 826 = .ok (.goto (-21), 3) := by decide +kernel
theorem dL_law_829 : decode cL_law 829 = .ok (.aload_n 1, 1) := by decide +kernel
theorem dL_law_830 : decode cL_law 830 = .ok (.invokevirtual 152, 3) := by decide +kernel
theorem dL_law_833 : decode cL_law 833 = .ok (.iconst (-1), 1) := by decide +kernel
theorem dL_law_834 : decode cL_law 834 = .ok (.if_icmp .eq 5, 3) := by decide +kernel
theorem dL_law_837 : decode cL_law 837 = .ok (.iconst 0, 1) := by decide +kernel
theorem dL_law_838 : decode cL_law 838 = .ok (.ireturn, 1) := by decide +kernel
theorem dL_law_839 : decode cL_law 839 = .ok (.iload 7, 2) := by decide +kernel
theorem dL_law_841 : decode cL_law 841 = .ok (.bipush 8, 2) := by decide +kernel
theorem dL_law_843 : decode cL_law 843 = .ok (.if_icmp .le 5, 3) := by decide +kernel
theorem dL_law_846 : decode cL_law 846 = .ok (.iconst 1, 1) := by decide +kernel
theorem dL_law_847 : decode cL_law 847 = .ok (.ireturn, 1) := by decide +kernel
theorem dL_law_848 : decode cL_law 848 = .ok (.iconst 0, 1) := by decide +kernel
theorem dL_law_849 : decode cL_law 849 = .ok (.istore 8, 2) := by decide +kernel
theorem dL_law_851 : decode cL_law 851 = .ok (.iload 8, 2) := by decide +kernel
theorem dL_law_853 : decode cL_law 853 = .ok (.aload 4, 2) := by decide +kernel
theorem dL_law_855 : decode cL_law 855 = .ok (.bipush 11, 2) := by decide +kernel
theorem dL_law_857 : decode cL_law 857 = .ok (.iaload, 1) := by decide +kernel
theorem dL_law_858 : decode cL_law 858 = .ok (.if_icmp .ge 22, 3) := by decide +kernel
theorem dL_law_861 : decode cL_law 861 = .ok (.aload_n 1, 1) := by decide +kernel
theorem dL_law_862 : decode cL_law 862 = .ok (.iload 8, 2) := by decide +kernel
theorem dL_law_864 : decode cL_law 864 = .ok (.iconst 2, 1) := by decide +kernel
theorem dL_law_865 : decode cL_law 865 = .ok (.invokevirtual 135, 3) := by decide +kernel
theorem dL_law_868 : decode cL_law 868 = .ok (.iconst (-1), 1) := by decide +kernel
theorem dL_law_869 : decode cL_law 869 = .ok (.if_icmp .eq 5, 3) := by decide +kernel
theorem dL_law_872 : decode cL_law 872 = .ok (.iconst 0, 1) := by decide +kernel
theorem dL_law_873 : decode cL_law 873 = .ok (.ireturn, 1) := by decide +kernel
theorem dL_law_874 : decode cL_law 874 = .ok (.iinc 8 1, 3) := by decide +kernel
theorem dL_law_877 : decode cL_law 877 = .ok (.goto (-26), 3) := by decide +kernel
theorem dL_law_880 : decode cL_law 880 = .ok (.aload_n 1, 1) := by decide +kernel
theorem dL_law_881 : decode cL_law 881 = .ok (.iconst 0, 1) := by decide +kernel
theorem dL_law_882 : decode cL_law 882 = .ok (.iconst 0, 1) := by decide +kernel
theorem dL_law_883 : decode cL_law 883 = .ok (.invokevirtual 132, 3) := by decide +kernel
theorem dL_law_886 : decode cL_law 886 = .ok (.ifCond .ne 7, 3) := by decide +kernel
theorem dL_law_889 : decode cL_law 889 = .ok (.iconst 1, 1) := by decide +kernel
theorem dL_law_890 : decode cL_law 890 = .ok (.goto 4, 3) := by decide +kernel
theorem dL_law_893 : decode cL_law 893 = .ok (.iconst 0, 1) := by decide +kernel
theorem dL_law_894 : decode cL_law 894 = .ok (.ireturn, 1) := by decide +kernel
