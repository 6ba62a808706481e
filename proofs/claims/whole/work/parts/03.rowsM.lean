theorem dX10_init_0 : decode cX10_init 0 = .ok (.aload_n 0, 1) := by decide +kernel
theorem dX10_init_1 : decode cX10_init 1 = .ok (.invokespecial 1, 3) := by decide +kernel
theorem dX10_init_4 : decode cX10_init 4 = .ok (.aload_n 0, 1) := by decide +kernel
theorem dX10_init_5 : decode cX10_init 5 = .ok (.bipush 10, 2) := by decide +kernel
theorem dX10_init_7 : decode cX10_init 7 = .ok (.newarray .int, 2) := by decide +kernel
theorem dX10_init_9 : decode cX10_init 9 = .ok (.putfield 7, 3) := by decide +kernel
theorem dX10_init_12 : decode cX10_init 12 = .ok (.aload_n 0, 1) := by decide +kernel
theorem dX10_init_13 : decode cX10_init 13 = .ok (.bipush 12, 2) := by decide +kernel
theorem dX10_init_15 : decode cX10_init 15 = .ok (.newarray .int, 2) := by decide +kernel
theorem dX10_init_17 : decode cX10_init 17 = .ok (.putfield 13, 3) := by decide +kernel
theorem dX10_init_20 : decode cX10_init 20 = .ok (.aload_n 0, 1) := by decide +kernel
theorem dX10_init_21 : decode cX10_init 21 = .ok (.bipush 24, 2) := by decide +kernel
theorem dX10_init_23 : decode cX10_init 23 = .ok (.newarray .int, 2) := by decide +kernel
theorem dX10_init_25 : decode cX10_init 25 = .ok (.putfield 16, 3) := by decide +kernel
theorem dX10_init_28 : decode cX10_init 28 = .ok (.aload_n 0, 1) := by decide +kernel
theorem dX10_init_29 : decode cX10_init 29 = .ok (.bipush 24, 2) := by decide +kernel
theorem dX10_init_31 : decode cX10_init 31 = .ok (.newarray .int, 2) := by decide +kernel
theorem dX10_init_33 : decode cX10_init 33 = .ok (.putfield 19, 3) := by decide +kernel
theorem dX10_init_36 : decode cX10_init 36 = .ok (.aload_n 0, 1) := by decide +kernel
theorem dX10_init_37 : decode cX10_init 37 = .ok (.sipush 960, 3) := by decide +kernel
theorem dX10_init_40 : decode cX10_init 40 = .ok (.newarray .long, 2) := by decide +kernel
theorem dX10_init_42 : decode cX10_init 42 = .ok (.putfield 22, 3) := by decide +kernel
theorem dX10_init_45 : decode cX10_init 45 = .ok (.aload_n 0, 1) := by decide +kernel
theorem dX10_init_46 : decode cX10_init 46 = .ok (.bipush 12, 2) := by decide +kernel
theorem dX10_init_48 : decode cX10_init 48 = .ok (.newarray .int, 2) := by decide +kernel
theorem dX10_init_50 : decode cX10_init 50 = .ok (.putfield 26, 3) := by decide +kernel
theorem dX10_init_53 : decode cX10_init 53 = .ok (.aload_n 0, 1) := by decide +kernel
theorem dX10_init_54 : decode cX10_init 54 = .ok (.bipush 48, 2) := by decide +kernel
theorem dX10_init_56 : decode cX10_init 56 = .ok (.newarray .int, 2) := by decide +kernel
theorem dX10_init_58 : decode cX10_init 58 = .ok (.putfield 29, 3) := by decide +kernel
theorem dX10_init_61 : decode cX10_init 61 = .ok (.aload_n 0, 1) := by decide +kernel
theorem dX10_init_62 : decode cX10_init 62 = .ok (.bipush 12, 2) := by decide +kernel
theorem dX10_init_64 : decode cX10_init 64 = .ok (.newarray .int, 2) := by decide +kernel
theorem dX10_init_66 : decode cX10_init 66 = .ok (.putfield 32, 3) := by decide +kernel
theorem dX10_init_69 : decode cX10_init 69 = .ok (.aload_n 0, 1) := by decide +kernel
theorem dX10_init_70 : decode cX10_init 70 = .ok (.bipush 12, 2) := by decide +kernel
theorem dX10_init_72 : decode cX10_init 72 = .ok (.newarray .boolean, 2) := by decide +kernel
theorem dX10_init_74 : decode cX10_init 74 = .ok (.putfield 35, 3) := by decide +kernel
theorem dX10_init_77 : decode cX10_init 77 = .ok (.aload_n 0, 1) := by decide +kernel
theorem dX10_init_78 : decode cX10_init 78 = .ok (.bipush 12, 2) := by decide +kernel
theorem dX10_init_80 : decode cX10_init 80 = .ok (.newarray .int, 2) := by decide +kernel
theorem dX10_init_82 : decode cX10_init 82 = .ok (.putfield 39, 3) := by decide +kernel
theorem dX10_init_85 : decode cX10_init 85 = .ok (.aload_n 0, 1) := by decide +kernel
theorem dX10_init_86 : decode cX10_init 86 = .ok (.bipush 12, 2) := by decide +kernel
theorem dX10_init_88 : decode cX10_init 88 = .ok (.newarray .double, 2) := by decide +kernel
theorem dX10_init_90 : decode cX10_init 90 = .ok (.putfield 42, 3) := by decide +kernel
theorem dX10_init_93 : decode cX10_init 93 = .ok (.aload_n 0, 1) := by decide +kernel
theorem dX10_init_94 : decode cX10_init 94 = .ok (.bipush 8, 2) := by decide +kernel
theorem dX10_init_96 : decode cX10_init 96 = .ok (.newarray .int, 2) := by decide +kernel
theorem dX10_init_98 : decode cX10_init 98 = .ok (.putfield 46, 3) := by decide +kernel
theorem dX10_init_101 : decode cX10_init 101 = .ok (.aload_n 0, 1) := by decide +kernel
theorem dX10_init_102 : decode cX10_init 102 = .ok (.bipush 8, 2) := by decide +kernel
theorem dX10_init_104 : decode cX10_init 104 = .ok (.newarray .int, 2) := by decide +kernel
theorem dX10_init_106 : decode cX10_init 106 = .ok (.putfield 49, 3) := by decide +kernel
theorem dX10_init_109 : decode cX10_init 109 = .ok (.aload_n 0, 1) := by decide +kernel
theorem dX10_init_110 : decode cX10_init 110 = .ok (.iconst 3, 1) := by decide +kernel
theorem dX10_init_111 : decode cX10_init 111 = .ok (.newarray .int, 2) := by decide +kernel
theorem dX10_init_113 : decode cX10_init 113 = .ok (.putfield 52, 3) := by decide +kernel
theorem dX10_init_116 : decode cX10_init 116 = .ok (.aload_n 0, 1) := by decide +kernel
theorem dX10_init_117 : decode cX10_init 117 = .ok (.bipush 40, 2) := by decide +kernel
theorem dX10_init_119 : decode cX10_init 119 = .ok (.newarray .double, 2) := by decide +kernel
theorem dX10_init_121 : decode cX10_init 121 = .ok (.putfield 55, 3) := by decide +kernel
theorem dX10_init_124 : decode cX10_init 124 = .ok (.aload_n 0, 1) := by decide +kernel
theorem dX10_init_125 : decode cX10_init 125 = .ok (.bipush 40, 2) := by decide +kernel
theorem dX10_init_127 : decode cX10_init 127 = .ok (.newarray .long, 2) := by decide +kernel
theorem dX10_init_129 : decode cX10_init 129 = .ok (.putfield 58, 3) := by decide +kernel
theorem dX10_init_132 : decode cX10_init 132 = .ok (.aload_n 0, 1) := by decide +kernel
theorem dX10_init_133 : decode cX10_init 133 = .ok (.iconst (-1), 1) := by decide +kernel
theorem dX10_init_134 : decode cX10_init 134 = .ok (.putfield 61, 3) := by decide +kernel
theorem dX10_init_137 : decode cX10_init 137 = .ok (.iconst 0, 1) := by decide +kernel
theorem dX10_init_138 : decode cX10_init 138 = .ok (.istore_n 1, 1) := by decide +kernel
theorem dX10_init_139 : decode cX10_init 139 = .ok (.iload_n 1, 1) := by decide +kernel
theorem dX10_init_140 : decode cX10_init 140 = .ok (.bipush 10, 2) := by decide +kernel
theorem dX10_init_142 : decode cX10_init 142 = .ok (.if_icmp .ge 16, 3) := by decide +kernel
theorem dX10_init_145 : decode cX10_init 145 = .ok (.aload_n 0, 1) := by decide +kernel
theorem dX10_init_146 : decode cX10_init 146 = .ok (.getfield 7, 3) := by decide +kernel
theorem dX10_init_149 : decode cX10_init 149 = .ok (.iload_n 1, 1) := by decide +kernel
theorem dX10_init_150 : decode cX10_init 150 = .ok (.iconst (-1), 1) := by decide +kernel
theorem dX10_init_151 : decode cX10_init 151 = .ok (.iastore, 1) := by decide +kernel
theorem dX10_init_152 : decode cX10_init 152 = .ok (.iinc 1 1, 3) := by decide +kernel
theorem dX10_init_155 : decode cX10_init 155 = .ok (.goto (-16), 3) := by decide +kernel
theorem dX10_init_158 : decode cX10_init 158 = .ok (.iconst 0, 1) := by decide +kernel
theorem dX10_init_159 : decode cX10_init 159 = .ok (.istore_n 1, 1) := by decide +kernel
theorem dX10_init_160 : decode cX10_init 160 = .ok (.iload_n 1, 1) := by decide +kernel
theorem dX10_init_161 : decode cX10_init 161 = .ok (.bipush 12, 2) := by decide +kernel
theorem dX10_init_163 : decode cX10_init 163 = .ok (.if_icmp .ge 16, 3) := by decide +kernel
theorem dX10_init_166 : decode cX10_init 166 = .ok (.aload_n 0, 1) := by decide +kernel
theorem dX10_init_167 : decode cX10_init 167 = .ok (.getfield 13, 3) := by decide +kernel
theorem dX10_init_170 : decode cX10_init 170 = .ok (.iload_n 1, 1) := by decide +kernel
theorem dX10_init_171 : decode cX10_init 171 = .ok (.iconst (-1), 1) := by decide +kernel
theorem dX10_init_172 : decode cX10_init 172 = .ok (.iastore, 1) := by decide +kernel
theorem dX10_init_173 : decode cX10_init 173 = .ok (.iinc 1 1, 3) := by decide +kernel
theorem dX10_init_176 : decode cX10_init 176 = .ok (.goto (-16), 3) := by decide +kernel
theorem dX10_init_179 : decode cX10_init 179 = .ok (.return_, 1) := by decide +kernel
theorem dX10_in_0 : decode cX10_in 0 = .ok (.iload_n 0, 1) := by decide +kernel
theorem dX10_in_1 : decode cX10_in 1 = .ok (.iload_n 1, 1) := by decide +kernel
theorem dX10_in_2 : decode cX10_in 2 = .ok (.if_icmp .lt 12, 3) := by decide +kernel
theorem dX10_in_5 : decode cX10_in 5 = .ok (.iload_n 0, 1) := by decide +kernel
theorem dX10_in_6 : decode cX10_in 6 = .ok (.iload_n 2, 1) := by decide +kernel
theorem dX10_in_7 : decode cX10_in 7 = .ok (.if_icmp .gt 7, 3) := by decide +kernel
theorem dX10_in_10 : decode cX10_in 10 = .ok (.iconst 1, 1) := by decide +kernel
theorem dX10_in_11 : decode cX10_in 11 = .ok (.goto 4, 3) := by decide +kernel
theorem dX10_in_14 : decode cX10_in 14 = .ok (.iconst 0, 1) := by decide +kernel
theorem dX10_in_15 : decode cX10_in 15 = .ok (.ireturn, 1) := by decide +kernel
set_option maxRecDepth 20000 in
theorem ggX10_isInstrument_X10_in : GoodIn wsX10_isInstrument wsX10_in := goodIn_r _ [5] (by decide +kernel) (by decide +kernel)
set_option maxRecDepth 20000 in
theorem gX10_isInstrument_X10_in : GoodIn wsX10_isInstrument (va_wsS RX10 68 yX10_in wsX10_in) := goodIn_app (goodIn_of _ (by decide +kernel)) ggX10_isInstrument_X10_in
theorem dX10_isInstrument_0 : decode cX10_isInstrument 0 = .ok (.iload_n 1, 1) := by decide +kernel
theorem dX10_isInstrument_1 : decode cX10_isInstrument 1 = .ok (.iconst 0, 1) := by decide +kernel
theorem dX10_isInstrument_2 : decode cX10_isInstrument 2 = .ok (.aload_n 0, 1) := by decide +kernel
theorem dX10_isInstrument_3 : decode cX10_isInstrument 3 = .ok (.getfield 65, 3) := by decide +kernel
theorem dX10_isInstrument_6 : decode cX10_isInstrument 6 = .ok (.iconst 1, 1) := by decide +kernel
theorem dX10_isInstrument_7 : decode cX10_isInstrument 7 = .ok (.isub, 1) := by decide +kernel
theorem dX10_isInstrument_8 : decode cX10_isInstrument 8 = .ok (.invokestatic 68, 3) := by decide +kernel
theorem dX10_isInstrument_11 : decode cX10_isInstrument 11 = .ok (.ireturn, 1) := by decide +kernel
theorem dX10_says_0 : decode cX10_says 0 = .ok (.aload_n 0, 1) := by decide +kernel
theorem dX10_says_1 : decode cX10_says 1 = .ok (.iload_n 1, 1) := by decide +kernel
theorem dX10_says_2 : decode cX10_says 2 = .ok (.ifCond .ge 7, 3) := by decide +kernel
theorem dX10_says_5 : decode cX10_says 5 = .ok (.iload_n 1, 1) := by decide +kernel
theorem dX10_says_6 : decode cX10_says 6 = .ok (.goto 4, 3) := by decide +kernel
theorem dX10_says_9 : decode cX10_says 9 = .ok (.iconst 0, 1) := by decide +kernel
theorem dX10_says_10 : decode cX10_says 10 = .ok (.putfield 72, 3) := by decide +kernel
theorem dX10_says_13 : decode cX10_says 13 = .ok (.iload_n 1, 1) := by decide +kernel
theorem dX10_says_14 : decode cX10_says 14 = .ok (.ireturn, 1) := by decide +kernel
theorem dX10_freshRow_0 : decode cX10_freshRow 0 = .ok (.iconst 0, 1) := by decide +kernel
theorem dX10_freshRow_1 : decode cX10_freshRow 1 = .ok (.istore_n 3, 1) := by decide +kernel
theorem dX10_freshRow_2 : decode cX10_freshRow 2 = .ok (.iconst 1, 1) := by decide +kernel
theorem dX10_freshRow_3 : decode cX10_freshRow 3 = .ok (.istore 4, 2) := by decide +kernel
theorem dX10_freshRow_5 : decode cX10_freshRow 5 = .ok (.iload 4, 2) := by decide +kernel
theorem dX10_freshRow_7 : decode cX10_freshRow 7 = .ok (.ifCond .eq 100, 3) := by decide +kernel
theorem dX10_freshRow_10 : decode cX10_freshRow 10 = .ok (.iconst 0, 1) := by decide +kernel
theorem dX10_freshRow_11 : decode cX10_freshRow 11 = .ok (.istore 4, 2) := by decide +kernel
theorem dX10_freshRow_13 : decode cX10_freshRow 13 = .ok (.iconst 0, 1) := by decide +kernel
theorem dX10_freshRow_14 : decode cX10_freshRow 14 = .ok (.istore 5, 2) := by decide +kernel
theorem dX10_freshRow_16 : decode cX10_freshRow 16 = .ok (.iload 5, 2) := by decide +kernel
theorem dX10_freshRow_18 : decode cX10_freshRow 18 = .ok (.bipush 10, 2) := by decide +kernel
theorem dX10_freshRow_20 : decode cX10_freshRow 20 = .ok (.if_icmp .ge 32, 3) := by decide +kernel
theorem dX10_freshRow_23 : decode cX10_freshRow 23 = .ok (.iload 4, 2) := by decide +kernel
theorem dX10_freshRow_25 : decode cX10_freshRow 25 = .ok (.ifCond .ne 14, 3) := by decide +kernel
theorem dX10_freshRow_28 : decode cX10_freshRow 28 = .ok (.aload_n 0, 1) := by decide +kernel
theorem dX10_freshRow_29 : decode cX10_freshRow 29 = .ok (.getfield 7, 3) := by decide +kernel
theorem dX10_freshRow_32 : decode cX10_freshRow 32 = .ok (.iload 5, 2) := by decide +kernel
theorem dX10_freshRow_34 : decode cX10_freshRow 34 = .ok (.iaload, 1) := by decide +kernel
theorem dX10_freshRow_35 : decode cX10_freshRow 35 = .ok (.iload_n 3, 1) := by decide +kernel
theorem dX10_freshRow_36 : decode cX10_freshRow 36 = .ok (.if_icmp .ne 7, 3) := by decide +kernel
theorem dX10_freshRow_39 : decode cX10_freshRow 39 = .ok (.iconst 1, 1) := by decide +kernel
theorem dX10_freshRow_40 : decode cX10_freshRow 40 = .ok (.goto 4, 3) := by decide +kernel
theorem dX10_freshRow_43 : decode cX10_freshRow 43 = .ok (.iconst 0, 1) := by decide +kernel
theorem dX10_freshRow_44 : decode cX10_freshRow 44 = .ok (.istore 4, 2) := by decide +kernel
theorem dX10_freshRow_46 : decode cX10_freshRow 46 = .ok (.iinc 5 1, 3) := by decide +kernel
theorem dX10_freshRow_49 : decode cX10_freshRow 49 = .ok (.goto (-33), 3) := by decide +kernel
theorem dX10_freshRow_52 : decode cX10_freshRow 52 = .ok (.iconst 0, 1) := by decide +kernel
theorem dX10_freshRow_53 : decode cX10_freshRow 53 = .ok (.istore 5, 2) := by decide +kernel
theorem dX10_freshRow_55 : decode cX10_freshRow 55 = .ok (.iload 5, 2) := by decide +kernel
theorem dX10_freshRow_57 : decode cX10_freshRow 57 = .ok (.bipush 12, 2) := by decide +kernel
theorem dX10_freshRow_59 : decode cX10_freshRow 59 = .ok (.if_icmp .ge 32, 3) := by decide +kernel
theorem dX10_freshRow_62 : decode cX10_freshRow 62 = .ok (.iload 4, 2) := by decide +kernel
theorem dX10_freshRow_64 : decode cX10_freshRow 64 = .ok (.ifCond .ne 14, 3) := by decide +kernel
theorem dX10_freshRow_67 : decode cX10_freshRow 67 = .ok (.aload_n 0, 1) := by decide +kernel
theorem dX10_freshRow_68 : decode cX10_freshRow 68 = .ok (.getfield 13, 3) := by decide +kernel
theorem dX10_freshRow_71 : decode cX10_freshRow 71 = .ok (.iload 5, 2) := by decide +kernel
theorem dX10_freshRow_73 : decode cX10_freshRow 73 = .ok (.iaload, 1) := by decide +kernel
theorem dX10_freshRow_74 : decode cX10_freshRow 74 = .ok (.iload_n 3, 1) := by decide +kernel
theorem dX10_freshRow_75 : decode cX10_freshRow 75 = .ok (.if_icmp .ne 7, 3) := by decide +kernel
theorem dX10_freshRow_78 : decode cX10_freshRow 78 = .ok (.iconst 1, 1) := by decide +kernel
theorem dX10_freshRow_79 : decode cX10_freshRow 79 = .ok (.goto 4, 3) := by decide +kernel
theorem dX10_freshRow_82 : decode cX10_freshRow 82 = .ok (.iconst 0, 1) := by decide +kernel
theorem dX10_freshRow_83 : decode cX10_freshRow 83 = .ok (.istore 4, 2) := by decide +kernel
theorem dX10_freshRow_85 : decode cX10_freshRow 85 = .ok (.iinc 5 1, 3) := by decide +kernel
theorem dX10_freshRow_88 : decode cX10_freshRow 88 = .ok (.goto (-33), 3) := by decide +kernel
theorem dX10_freshRow_91 : decode cX10_freshRow 91 = .ok (.iload_n 3, 1) := by decide +kernel
theorem dX10_freshRow_92 : decode cX10_freshRow 92 = .ok (.iload 4, 2) := by decide +kernel
theorem dX10_freshRow_94 : decode cX10_freshRow 94 = .ok (.ifCond .eq 7, 3) := by decide +kernel
theorem dX10_freshRow_97 : decode cX10_freshRow 97 = .ok (.iconst 1, 1) := by decide +kernel
theorem dX10_freshRow_98 : decode cX10_freshRow 98 = .ok (.goto 4, 3) := by decide +kernel
theorem dX10_freshRow_101 : decode cX10_freshRow 101 = .ok (.iconst 0, 1) := by decide +kernel
theorem dX10_freshRow_102 : decode cX10_freshRow 102 = .ok (.iadd, 1) := by decide +kernel
theorem dX10_freshRow_103 : decode cX10_freshRow 103 = .ok (.istore_n 3, 1) := by decide +kernel
theorem dX10_freshRow_104 : decode cX10_freshRow 104 = .ok (.goto (-99), 3) := by decide +kernel
theorem dX10_freshRow_107 : decode cX10_freshRow 107 = .ok (.aload_n 0, 1) := by decide +kernel
theorem dX10_freshRow_108 : decode cX10_freshRow 108 = .ok (.getfield 16, 3) := by decide +kernel
theorem dX10_freshRow_111 : decode cX10_freshRow 111 = .ok (.iload_n 3, 1) := by decide +kernel
theorem dX10_freshRow_112 : decode cX10_freshRow 112 = .ok (.iload_n 1, 1) := by decide +kernel
theorem dX10_freshRow_113 : decode cX10_freshRow 113 = .ok (.iastore, 1) := by decide +kernel
theorem dX10_freshRow_114 : decode cX10_freshRow 114 = .ok (.aload_n 0, 1) := by decide +kernel
theorem dX10_freshRow_115 : decode cX10_freshRow 115 = .ok (.getfield 19, 3) := by decide +kernel
theorem dX10_freshRow_118 : decode cX10_freshRow 118 = .ok (.iload_n 3, 1) := by decide +kernel
theorem dX10_freshRow_119 : decode cX10_freshRow 119 = .ok (.iload_n 2, 1) := by decide +kernel
theorem dX10_freshRow_120 : decode cX10_freshRow 120 = .ok (.iastore, 1) := by decide +kernel
theorem dX10_freshRow_121 : decode cX10_freshRow 121 = .ok (.iconst 0, 1) := by decide +kernel
theorem dX10_freshRow_122 : decode cX10_freshRow 122 = .ok (.istore 5, 2) := by decide +kernel
theorem dX10_freshRow_124 : decode cX10_freshRow 124 = .ok (.iload 5, 2) := by decide +kernel
theorem dX10_freshRow_126 : decode cX10_freshRow 126 = .ok (.bipush 40, 2) := by decide +kernel
theorem dX10_freshRow_128 : decode cX10_freshRow 128 = .ok (.if_icmp .ge 22, 3) := by decide +kernel
theorem dX10_freshRow_131 : decode cX10_freshRow 131 = .ok (.aload_n 0, 1) := by decide +kernel
theorem dX10_freshRow_132 : decode cX10_freshRow 132 = .ok (.getfield 22, 3) := by decide +kernel
theorem dX10_freshRow_135 : decode cX10_freshRow 135 = .ok (.bipush 40, 2) := by decide +kernel
theorem dX10_freshRow_137 : decode cX10_freshRow 137 = .ok (.iload_n 3, 1) := by decide +kernel
theorem dX10_freshRow_138 : decode cX10_freshRow 138 = .ok (.imul, 1) := by decide +kernel
theorem dX10_freshRow_139 : decode cX10_freshRow 139 = .ok (.iload 5, 2) := by decide +kernel
theorem dX10_freshRow_141 : decode cX10_freshRow 141 = .ok (.iadd, 1) := by decide +kernel
theorem dX10_freshRow_142 : decode cX10_freshRow 142 = .ok (.lconst 0, 1) := by decide +kernel
theorem dX10_freshRow_143 : decode cX10_freshRow 143 = .ok (.lastore, 1) := by decide +kernel
theorem dX10_freshRow_144 : decode cX10_freshRow 144 = .ok (.iinc 5 1, 3) := by decide +kernel
theorem dX10_freshRow_147 : decode cX10_freshRow 147 = .ok (.goto (-23), 3) := by decide +kernel
theorem dX10_freshRow_150 : decode cX10_freshRow 150 = .ok (.iload_n 3, 1) := by decide +kernel
theorem dX10_freshRow_151 : decode cX10_freshRow 151 = .ok (.ireturn, 1) := by decide +kernel
set_option maxRecDepth 20000 in
theorem ggX10_copyOf_X10_freshRow : GoodIn wsX10_copyOf wsX10_freshRow := goodIn_r _ [8, 9, 10, 1, 2, 3, 11, 12, 13, 14, 15, 16, 17, 18, 19, 20, 21, 22, 23, 24, 25, 26, 27, 28, 29, 30, 31] (by decide +kernel) (by decide +kernel)
set_option maxRecDepth 20000 in
theorem gX10_copyOf_X10_freshRow : GoodIn wsX10_copyOf (wsV RX10 75 RX10 yX10_freshRow wsX10_freshRow) := goodIn_app (goodIn_of _ (by decide +kernel)) ggX10_copyOf_X10_freshRow
theorem dX10_copyOf_0 : decode cX10_copyOf 0 = .ok (.aload_n 0, 1) := by decide +kernel
theorem dX10_copyOf_1 : decode cX10_copyOf 1 = .ok (.aload_n 0, 1) := by decide +kernel
theorem dX10_copyOf_2 : decode cX10_copyOf 2 = .ok (.getfield 16, 3) := by decide +kernel
theorem dX10_copyOf_5 : decode cX10_copyOf 5 = .ok (.iload_n 1, 1) := by decide +kernel
theorem dX10_copyOf_6 : decode cX10_copyOf 6 = .ok (.iaload, 1) := by decide +kernel
theorem dX10_copyOf_7 : decode cX10_copyOf 7 = .ok (.aload_n 0, 1) := by decide +kernel
theorem dX10_copyOf_8 : decode cX10_copyOf 8 = .ok (.getfield 19, 3) := by decide +kernel
theorem dX10_copyOf_11 : decode cX10_copyOf 11 = .ok (.iload_n 1, 1) := by decide +kernel
theorem dX10_copyOf_12 : decode cX10_copyOf 12 = .ok (.iaload, 1) := by decide +kernel
theorem dX10_copyOf_13 : decode cX10_copyOf 13 = .ok (.invokevirtual 75, 3) := by decide +kernel
theorem dX10_copyOf_16 : decode cX10_copyOf 16 = .ok (.istore_n 2, 1) := by decide +kernel
theorem dX10_copyOf_17 : decode cX10_copyOf 17 = .ok (.iconst 0, 1) := by decide +kernel
theorem dX10_copyOf_18 : decode cX10_copyOf 18 = .ok (.istore_n 3, 1) := by decide +kernel
theorem dX10_copyOf_19 : decode cX10_copyOf 19 = .ok (.iload_n 3, 1) := by decide +kernel
theorem dX10_copyOf_20 : decode cX10_copyOf 20 = .ok (.bipush 40, 2) := by decide +kernel
theorem dX10_copyOf_22 : decode cX10_copyOf 22 = .ok (.if_icmp .ge 31, 3) := by decide +kernel
theorem dX10_copyOf_25 : decode cX10_copyOf 25 = .ok (.aload_n 0, 1) := by decide +kernel
theorem dX10_copyOf_26 : decode cX10_copyOf 26 = .ok (.getfield 22, 3) := by decide +kernel
theorem dX10_copyOf_29 : decode cX10_copyOf 29 = .ok (.bipush 40, 2) := by decide +kernel
theorem dX10_copyOf_31 : decode cX10_copyOf 31 = .ok (.iload_n 2, 1) := by decide +kernel
theorem dX10_copyOf_32 : decode cX10_copyOf 32 = .ok (.imul, 1) := by decide +kernel
theorem dX10_copyOf_33 : decode cX10_copyOf 33 = .ok (.iload_n 3, 1) := by decide +kernel
theorem dX10_copyOf_34 : decode cX10_copyOf 34 = .ok (.iadd, 1) := by decide +kernel
theorem dX10_copyOf_35 : decode cX10_copyOf 35 = .ok (.aload_n 0, 1) := by decide +kernel
theorem dX10_copyOf_36 : decode cX10_copyOf 36 = .ok (.getfield 22, 3) := by decide +kernel
theorem dX10_copyOf_39 : decode cX10_copyOf 39 = .ok (.bipush 40, 2) := by decide +kernel
theorem dX10_copyOf_41 : decode cX10_copyOf 41 = .ok (.iload_n 1, 1) := by decide +kernel
theorem dX10_copyOf_42 : decode cX10_copyOf 42 = .ok (.imul, 1) := by decide +kernel
theorem dX10_copyOf_43 : decode cX10_copyOf 43 = .ok (.iload_n 3, 1) := by decide +kernel
theorem dX10_copyOf_44 : decode cX10_copyOf 44 = .ok (.iadd, 1) := by decide +kernel
theorem dX10_copyOf_45 : decode cX10_copyOf 45 = .ok (.laload, 1) := by decide +kernel
theorem dX10_copyOf_46 : decode cX10_copyOf 46 = .ok (.lastore, 1) := by decide +kernel
theorem dX10_copyOf_47 : decode cX10_copyOf 47 = .ok (.iinc 3 1, 3) := by decide +kernel
theorem dX10_copyOf_50 : decode cX10_copyOf 50 = .ok (.goto (-31), 3) := by decide +kernel
theorem dX10_copyOf_53 : decode cX10_copyOf 53 = .ok (.iload_n 2, 1) := by decide +kernel
theorem dX10_copyOf_54 : decode cX10_copyOf 54 = .ok (.ireturn, 1) := by decide +kernel
set_option maxRecDepth 20000 in
theorem ggX10_cast_Jxf58ca_floatToIntBits_5c35a : GoodIn wsX10_cast wsJxf58ca_floatToIntBits_5c35a := goodIn_r _ [4, 5, 6, 7, 8, 9, 10, 11, 3, 12] (by decide +kernel) (by decide +kernel)
set_option maxRecDepth 20000 in
theorem gX10_cast_Jxf58ca_floatToIntBits_5c35a : GoodIn wsX10_cast (va_wsS RX10 79 yJxf58ca_floatToIntBits_5c35a wsJxf58ca_floatToIntBits_5c35a) := goodIn_app (goodIn_of _ (by decide +kernel)) ggX10_cast_Jxf58ca_floatToIntBits_5c35a
set_option maxRecDepth 20000 in
theorem ggX10_cast_Jxe99ae_doubleToLongBits_ccdee : GoodIn wsX10_cast wsJxe99ae_doubleToLongBits_ccdee := goodIn_r _ [16, 17, 18, 19, 20, 21, 22, 23, 15, 24] (by decide +kernel) (by decide +kernel)
set_option maxRecDepth 20000 in
theorem gX10_cast_Jxe99ae_doubleToLongBits_ccdee : GoodIn wsX10_cast (va_wsS RX10 85 yJxe99ae_doubleToLongBits_ccdee wsJxe99ae_doubleToLongBits_ccdee) := goodIn_app (goodIn_of _ (by decide +kernel)) ggX10_cast_Jxe99ae_doubleToLongBits_ccdee
theorem dX10_cast_0 : decode cX10_cast 0 = .ok (.iload_n 0, 1) := by decide +kernel
theorem dX10_cast_1 : decode cX10_cast 1 = .ok (.ifCond .ne 10, 3) := by decide +kernel
theorem dX10_cast_4 : decode cX10_cast 4 = .ok (.dload_n 1, 1) := by decide +kernel
theorem dX10_cast_5 : decode cX10_cast 5 = .ok (.d2i, 1) := by decide +kernel
theorem dX10_cast_6 : decode cX10_cast 6 = .ok (.i2s, 1) := by decide +kernel
theorem dX10_cast_7 : decode cX10_cast 7 = .ok (.i2l, 1) := by decide +kernel
theorem dX10_cast_8 : decode cX10_cast 8 = .ok (.goto 32, 3) := by decide +kernel
theorem dX10_cast_11 : decode cX10_cast 11 = .ok (.iload_n 0, 1) := by decide +kernel
theorem dX10_cast_12 : decode cX10_cast 12 = .ok (.iconst 1, 1) := by decide +kernel
theorem dX10_cast_13 : decode cX10_cast 13 = .ok (.if_icmp .ne 9, 3) := by decide +kernel
theorem dX10_cast_16 : decode cX10_cast 16 = .ok (.dload_n 1, 1) := by decide +kernel
theorem dX10_cast_17 : decode cX10_cast 17 = .ok (.d2i, 1) := by decide +kernel
theorem dX10_cast_18 : decode cX10_cast 18 = .ok (.i2l, 1) := by decide +kernel
theorem dX10_cast_19 : decode cX10_cast 19 = .ok (.goto 21, 3) := by decide +kernel
theorem dX10_cast_22 : decode cX10_cast 22 = .ok (.iload_n 0, 1) := by decide +kernel
theorem dX10_cast_23 : decode cX10_cast 23 = .ok (.iconst 2, 1) := by decide +kernel
theorem dX10_cast_24 : decode cX10_cast 24 = .ok (.if_icmp .ne 12, 3) := by decide +kernel
theorem dX10_cast_27 : decode cX10_cast 27 = .ok (.dload_n 1, 1) := by decide +kernel
theorem dX10_cast_28 : decode cX10_cast 28 = .ok (.d2f, 1) := by decide +kernel
theorem dX10_cast_29 : decode cX10_cast 29 = .ok (.invokestatic 79, 3) := by decide +kernel
theorem dX10_cast_32 : decode cX10_cast 32 = .ok (.i2l, 1) := by decide +kernel
theorem dX10_cast_33 : decode cX10_cast 33 = .ok (.goto 7, 3) := by decide +kernel
theorem dX10_cast_36 : decode cX10_cast 36 = .ok (.dload_n 1, 1) := by decide +kernel
theorem dX10_cast_37 : decode cX10_cast 37 = .ok (.invokestatic 85, 3) := by decide +kernel
theorem dX10_cast_40 : decode cX10_cast 40 = .ok (.lreturn, 1) := by decide +kernel
set_option maxRecDepth 20000 in
theorem ggX10_instrument_X10_in : GoodIn wsX10_instrument wsX10_in := goodIn_r _ [6] (by decide +kernel) (by decide +kernel)
set_option maxRecDepth 20000 in
theorem gX10_instrument_X10_in : GoodIn wsX10_instrument (va_wsS RX10 68 yX10_in wsX10_in) := goodIn_app (goodIn_of _ (by decide +kernel)) ggX10_instrument_X10_in
theorem dX10_instrument_0 : decode cX10_instrument 0 = .ok (.iload_n 1, 1) := by decide +kernel
theorem dX10_instrument_1 : decode cX10_instrument 1 = .ok (.iconst 0, 1) := by decide +kernel
theorem dX10_instrument_2 : decode cX10_instrument 2 = .ok (.iconst 4, 1) := by decide +kernel
theorem dX10_instrument_3 : decode cX10_instrument 3 = .ok (.invokestatic 68, 3) := by decide +kernel
theorem dX10_instrument_6 : decode cX10_instrument 6 = .ok (.ifCond .ne 5, 3) := by decide +kernel
theorem dX10_instrument_9 : decode cX10_instrument 9 = .ok (.iconst (-1), 1) := by decide +kernel
theorem dX10_instrument_10 : decode cX10_instrument 10 = .ok (.ireturn, 1) := by decide +kernel
theorem dX10_instrument_11 : decode cX10_instrument 11 = .ok (.aload_n 0, 1) := by decide +kernel
theorem dX10_instrument_12 : decode cX10_instrument 12 = .ok (.getfield 65, 3) := by decide +kernel
theorem dX10_instrument_15 : decode cX10_instrument 15 = .ok (.bipush 12, 2) := by decide +kernel
theorem dX10_instrument_17 : decode cX10_instrument 17 = .ok (.if_icmp .ne 6, 3) := by decide +kernel
theorem dX10_instrument_20 : decode cX10_instrument 20 = .ok (.bipush (-2), 2) := by decide +kernel
theorem dX10_instrument_22 : decode cX10_instrument 22 = .ok (.ireturn, 1) := by decide +kernel
theorem dX10_instrument_23 : decode cX10_instrument 23 = .ok (.aload_n 0, 1) := by decide +kernel
theorem dX10_instrument_24 : decode cX10_instrument 24 = .ok (.getfield 26, 3) := by decide +kernel
theorem dX10_instrument_27 : decode cX10_instrument 27 = .ok (.aload_n 0, 1) := by decide +kernel
theorem dX10_instrument_28 : decode cX10_instrument 28 = .ok (.getfield 65, 3) := by decide +kernel
theorem dX10_instrument_31 : decode cX10_instrument 31 = .ok (.iload_n 1, 1) := by decide +kernel
theorem dX10_instrument_32 : decode cX10_instrument 32 = .ok (.iastore, 1) := by decide +kernel
theorem dX10_instrument_33 : decode cX10_instrument 33 = .ok (.aload_n 0, 1) := by decide +kernel
theorem dX10_instrument_34 : decode cX10_instrument 34 = .ok (.dup, 1) := by decide +kernel
theorem dX10_instrument_35 : decode cX10_instrument 35 = .ok (.getfield 65, 3) := by decide +kernel
theorem dX10_instrument_38 : decode cX10_instrument 38 = .ok (.iconst 1, 1) := by decide +kernel
theorem dX10_instrument_39 : decode cX10_instrument 39 = .ok (.iadd, 1) := by decide +kernel
theorem dX10_instrument_40 : decode cX10_instrument 40 = .ok (.putfield 65, 3) := by decide +kernel
theorem dX10_instrument_43 : decode cX10_instrument 43 = .ok (.aload_n 0, 1) := by decide +kernel
theorem dX10_instrument_44 : decode cX10_instrument 44 = .ok (.getfield 65, 3) := by decide +kernel
theorem dX10_instrument_47 : decode cX10_instrument 47 = .ok (.iconst 1, 1) := by decide +kernel
theorem dX10_instrument_48 : decode cX10_instrument 48 = .ok (.isub, 1) := by decide +kernel
theorem dX10_instrument_49 : decode cX10_instrument 49 = .ok (.ireturn, 1) := by decide +kernel
set_option maxRecDepth 20000 in
theorem ggX10_note_X10_isInstrument : GoodIn wsX10_note wsX10_isInstrument := goodIn_r _ [8, 9, 10, 11, 7, 12, 13, 14, 15, 16, 17, 18, 19, 20, 21, 22, 23, 24, 25, 26, 27, 28, 29, 30, 31, 32, 33] (by decide +kernel) (by decide +kernel)
set_option maxRecDepth 20000 in
theorem gX10_note_X10_isInstrument : GoodIn wsX10_note (wsV RX10 91 RX10 yX10_isInstrument wsX10_isInstrument) := goodIn_app (goodIn_of _ (by decide +kernel)) ggX10_note_X10_isInstrument
set_option maxRecDepth 20000 in
theorem ggX10_note_X10_in : GoodIn wsX10_note wsX10_in := goodIn_r _ [12] (by decide +kernel) (by decide +kernel)
set_option maxRecDepth 20000 in
theorem gX10_note_X10_in : GoodIn wsX10_note (va_wsS RX10 68 yX10_in wsX10_in) := goodIn_app (goodIn_of _ (by decide +kernel)) ggX10_note_X10_in
theorem dX10_note_0 : decode cX10_note 0 = .ok (.aload_n 0, 1) := by decide +kernel
theorem dX10_note_1 : decode cX10_note 1 = .ok (.iload_n 1, 1) := by decide +kernel
theorem dX10_note_2 : decode cX10_note 2 = .ok (.invokevirtual 91, 3) := by decide +kernel
theorem dX10_note_5 : decode cX10_note 5 = .ok (.ifCond .eq 13, 3) := by decide +kernel
theorem dX10_note_8 : decode cX10_note 8 = .ok (.iload_n 2, 1) := by decide +kernel
theorem dX10_note_9 : decode cX10_note 9 = .ok (.iconst 0, 1) := by decide +kernel
theorem dX10_note_10 : decode cX10_note 10 = .ok (.bipush 127, 2) := by decide +kernel
theorem dX10_note_12 : decode cX10_note 12 = .ok (.invokestatic 68, 3) := by decide +kernel
theorem dX10_note_15 : decode cX10_note 15 = .ok (.ifCond .ne 5, 3) := by decide +kernel
theorem dX10_note_18 : decode cX10_note 18 = .ok (.iconst (-1), 1) := by decide +kernel
theorem dX10_note_19 : decode cX10_note 19 = .ok (.ireturn, 1) := by decide +kernel
theorem dX10_note_20 : decode cX10_note 20 = .ok (.aload_n 0, 1) := by decide +kernel
theorem dX10_note_21 : decode cX10_note 21 = .ok (.getfield 35, 3) := by decide +kernel
theorem dX10_note_24 : decode cX10_note 24 = .ok (.iload_n 1, 1) := by decide +kernel
theorem dX10_note_25 : decode cX10_note 25 = .ok (.baload, 1) := by decide +kernel
theorem dX10_note_26 : decode cX10_note 26 = .ok (.ifCond .eq 7, 3) := by decide +kernel
theorem dX10_note_29 : decode cX10_note 29 = .ok (.iconst 1, 1) := by decide +kernel
theorem dX10_note_30 : decode cX10_note 30 = .ok (.goto 4, 3) := by decide +kernel
theorem dX10_note_33 : decode cX10_note 33 = .ok (.iconst 0, 1) := by decide +kernel
theorem dX10_note_34 : decode cX10_note 34 = .ok (.istore 4, 2) := by decide +kernel
theorem dX10_note_36 : decode cX10_note 36 = .ok (.aload_n 0, 1) := by decide +kernel
theorem dX10_note_37 : decode cX10_note 37 = .ok (.getfield 32, 3) := by decide +kernel
theorem dX10_note_40 : decode cX10_note 40 = .ok (.iload_n 1, 1) := by decide +kernel
theorem dX10_note_41 : decode cX10_note 41 = .ok (.iload_n 2, 1) := by decide +kernel
theorem dX10_note_42 : decode cX10_note 42 = .ok (.iastore, 1) := by decide +kernel
theorem dX10_note_43 : decode cX10_note 43 = .ok (.aload_n 0, 1) := by decide +kernel
theorem dX10_note_44 : decode cX10_note 44 = .ok (.getfield 35, 3) := by decide +kernel
theorem dX10_note_47 : decode cX10_note 47 = .ok (.iload_n 1, 1) := by decide +kernel
theorem dX10_note_48 : decode cX10_note 48 = .ok (.iload_n 3, 1) := by decide +kernel
theorem dX10_note_49 : decode cX10_note 49 = .ok (.bastore, 1) := by decide +kernel
theorem dX10_note_50 : decode cX10_note 50 = .ok (.iload_n 3, 1) := by decide +kernel
theorem dX10_note_51 : decode cX10_note 51 = .ok (.ifCond .eq 11, 3) := by decide +kernel
theorem dX10_note_54 : decode cX10_note 54 = .ok (.aload_n 0, 1) := by decide +kernel
theorem dX10_note_55 : decode cX10_note 55 = .ok (.getfield 42, 3) := by decide +kernel
theorem dX10_note_58 : decode cX10_note 58 = .ok (.iload_n 1, 1) := by decide +kernel
theorem dX10_note_59 : decode cX10_note 59 = .ok (.iload_n 2, 1) := by decide +kernel
theorem dX10_note_60 : decode cX10_note 60 = .ok (.i2d, 1) := by decide +kernel
theorem dX10_note_61 : decode cX10_note 61 = .ok (.dastore, 1) := by decide +kernel
theorem dX10_note_62 : decode cX10_note 62 = .ok (.iload 4, 2) := by decide +kernel
theorem dX10_note_64 : decode cX10_note 64 = .ok (.ireturn, 1) := by decide +kernel
set_option maxRecDepth 20000 in
theorem ggX10_knob_X10_isInstrument : GoodIn wsX10_knob wsX10_isInstrument := goodIn_r _ [7, 8, 9, 10, 6, 11, 12, 13, 14, 15, 16, 17, 18, 19, 20, 21, 22, 23, 24, 25, 26, 27, 28, 29, 30, 31, 32] (by decide +kernel) (by decide +kernel)
set_option maxRecDepth 20000 in
theorem gX10_knob_X10_isInstrument : GoodIn wsX10_knob (wsV RX10 91 RX10 yX10_isInstrument wsX10_isInstrument) := goodIn_app (goodIn_of _ (by decide +kernel)) ggX10_knob_X10_isInstrument
set_option maxRecDepth 20000 in
theorem ggX10_knob_X10_in : GoodIn wsX10_knob wsX10_in := goodIn_r _ [11] (by decide +kernel) (by decide +kernel)
set_option maxRecDepth 20000 in
theorem gX10_knob_X10_in : GoodIn wsX10_knob (va_wsS RX10 68 yX10_in wsX10_in) := goodIn_app (goodIn_of _ (by decide +kernel)) ggX10_knob_X10_in
theorem dX10_knob_0 : decode cX10_knob 0 = .ok (.aload_n 0, 1) := by decide +kernel
theorem dX10_knob_1 : decode cX10_knob 1 = .ok (.iload_n 1, 1) := by decide +kernel
theorem dX10_knob_2 : decode cX10_knob 2 = .ok (.invokevirtual 91, 3) := by decide +kernel
theorem dX10_knob_5 : decode cX10_knob 5 = .ok (.ifCond .eq 12, 3) := by decide +kernel
theorem dX10_knob_8 : decode cX10_knob 8 = .ok (.iload_n 2, 1) := by decide +kernel
theorem dX10_knob_9 : decode cX10_knob 9 = .ok (.iconst 0, 1) := by decide +kernel
theorem dX10_knob_10 : decode cX10_knob 10 = .ok (.iconst 3, 1) := by decide +kernel
theorem dX10_knob_11 : decode cX10_knob 11 = .ok (.invokestatic 68, 3) := by decide +kernel
theorem dX10_knob_14 : decode cX10_knob 14 = .ok (.ifCond .ne 10, 3) := by decide +kernel
theorem dX10_knob_17 : decode cX10_knob 17 = .ok (.aload_n 0, 1) := by decide +kernel
theorem dX10_knob_18 : decode cX10_knob 18 = .ok (.iconst (-1), 1) := by decide +kernel
theorem dX10_knob_19 : decode cX10_knob 19 = .ok (.putfield 72, 3) := by decide +kernel
theorem dX10_knob_22 : decode cX10_knob 22 = .ok (.iconst 0, 1) := by decide +kernel
theorem dX10_knob_23 : decode cX10_knob 23 = .ok (.ireturn, 1) := by decide +kernel
theorem dX10_knob_24 : decode cX10_knob 24 = .ok (.aload_n 0, 1) := by decide +kernel
theorem dX10_knob_25 : decode cX10_knob 25 = .ok (.iconst 0, 1) := by decide +kernel
theorem dX10_knob_26 : decode cX10_knob 26 = .ok (.putfield 72, 3) := by decide +kernel
theorem dX10_knob_29 : decode cX10_knob 29 = .ok (.aload_n 0, 1) := by decide +kernel
theorem dX10_knob_30 : decode cX10_knob 30 = .ok (.getfield 29, 3) := by decide +kernel
theorem dX10_knob_33 : decode cX10_knob 33 = .ok (.iconst 4, 1) := by decide +kernel
theorem dX10_knob_34 : decode cX10_knob 34 = .ok (.iload_n 1, 1) := by decide +kernel
theorem dX10_knob_35 : decode cX10_knob 35 = .ok (.imul, 1) := by decide +kernel
theorem dX10_knob_36 : decode cX10_knob 36 = .ok (.iload_n 2, 1) := by decide +kernel
theorem dX10_knob_37 : decode cX10_knob 37 = .ok (.iadd, 1) := by decide +kernel
theorem dX10_knob_38 : decode cX10_knob 38 = .ok (.iaload, 1) := by decide +kernel
theorem dX10_knob_39 : decode cX10_knob 39 = .ok (.istore 4, 2) := by decide +kernel
theorem dX10_knob_41 : decode cX10_knob 41 = .ok (.aload_n 0, 1) := by decide +kernel
theorem dX10_knob_42 : decode cX10_knob 42 = .ok (.getfield 29, 3) := by decide +kernel
theorem dX10_knob_45 : decode cX10_knob 45 = .ok (.iconst 4, 1) := by decide +kernel
theorem dX10_knob_46 : decode cX10_knob 46 = .ok (.iload_n 1, 1) := by decide +kernel
theorem dX10_knob_47 : decode cX10_knob 47 = .ok (.imul, 1) := by decide +kernel
theorem dX10_knob_48 : decode cX10_knob 48 = .ok (.iload_n 2, 1) := by decide +kernel
theorem dX10_knob_49 : decode cX10_knob 49 = .ok (.iadd, 1) := by decide +kernel
theorem dX10_knob_50 : decode cX10_knob 50 = .ok (.iload_n 3, 1) := by decide +kernel
theorem dX10_knob_51 : decode cX10_knob 51 = .ok (.iastore, 1) := by decide +kernel
theorem dX10_knob_52 : decode cX10_knob 52 = .ok (.iload 4, 2) := by decide +kernel
theorem dX10_knob_54 : decode cX10_knob 54 = .ok (.ireturn, 1) := by decide +kernel
set_option maxRecDepth 20000 in
theorem ggX10_phase_X10_isInstrument : GoodIn wsX10_phase wsX10_isInstrument := goodIn_r _ [7, 8, 9, 10, 6, 11, 12, 13, 14, 15, 16, 17, 18, 19, 20, 21, 22, 23, 24, 25, 26, 27, 28, 29, 30, 31, 32] (by decide +kernel) (by decide +kernel)
set_option maxRecDepth 20000 in
theorem gX10_phase_X10_isInstrument : GoodIn wsX10_phase (wsV RX10 91 RX10 yX10_isInstrument wsX10_isInstrument) := goodIn_app (goodIn_of _ (by decide +kernel)) ggX10_phase_X10_isInstrument
theorem dX10_phase_0 : decode cX10_phase 0 = .ok (.aload_n 0, 1) := by decide +kernel
theorem dX10_phase_1 : decode cX10_phase 1 = .ok (.iload_n 1, 1) := by decide +kernel
theorem dX10_phase_2 : decode cX10_phase 2 = .ok (.invokevirtual 91, 3) := by decide +kernel
theorem dX10_phase_5 : decode cX10_phase 5 = .ok (.ifCond .ne 10, 3) := by decide +kernel
theorem dX10_phase_8 : decode cX10_phase 8 = .ok (.aload_n 0, 1) := by decide +kernel
theorem dX10_phase_9 : decode cX10_phase 9 = .ok (.iconst (-1), 1) := by decide +kernel
theorem dX10_phase_10 : decode cX10_phase 10 = .ok (.putfield 72, 3) := by decide +kernel
theorem dX10_phase_13 : decode cX10_phase 13 = .ok (.iconst 0, 1) := by decide +kernel
theorem dX10_phase_14 : decode cX10_phase 14 = .ok (.ireturn, 1) := by decide +kernel
theorem dX10_phase_15 : decode cX10_phase 15 = .ok (.aload_n 0, 1) := by decide +kernel
theorem dX10_phase_16 : decode cX10_phase 16 = .ok (.iconst 0, 1) := by decide +kernel
theorem dX10_phase_17 : decode cX10_phase 17 = .ok (.putfield 72, 3) := by decide +kernel
theorem dX10_phase_20 : decode cX10_phase 20 = .ok (.aload_n 0, 1) := by decide +kernel
theorem dX10_phase_21 : decode cX10_phase 21 = .ok (.getfield 39, 3) := by decide +kernel
theorem dX10_phase_24 : decode cX10_phase 24 = .ok (.iload_n 1, 1) := by decide +kernel
theorem dX10_phase_25 : decode cX10_phase 25 = .ok (.iaload, 1) := by decide +kernel
theorem dX10_phase_26 : decode cX10_phase 26 = .ok (.istore_n 3, 1) := by decide +kernel
theorem dX10_phase_27 : decode cX10_phase 27 = .ok (.aload_n 0, 1) := by decide +kernel
theorem dX10_phase_28 : decode cX10_phase 28 = .ok (.getfield 39, 3) := by decide +kernel
theorem dX10_phase_31 : decode cX10_phase 31 = .ok (.iload_n 1, 1) := by decide +kernel
theorem dX10_phase_32 : decode cX10_phase 32 = .ok (.iload_n 2, 1) := by decide +kernel
theorem dX10_phase_33 : decode cX10_phase 33 = .ok (.iastore, 1) := by decide +kernel
theorem dX10_phase_34 : decode cX10_phase 34 = .ok (.iload_n 3, 1) := by decide +kernel
theorem dX10_phase_35 : decode cX10_phase 35 = .ok (.ireturn, 1) := by decide +kernel
set_option maxRecDepth 20000 in
theorem ggX10_table_X10_isInstrument : GoodIn wsX10_table wsX10_isInstrument := goodIn_r _ [7, 8, 9, 10, 6, 11, 23, 24, 25, 26, 27, 28, 29, 30, 31, 32, 33, 34, 35, 36, 37, 38, 39, 40, 41, 42, 43] (by decide +kernel) (by decide +kernel)
set_option maxRecDepth 20000 in
theorem gX10_table_X10_isInstrument : GoodIn wsX10_table (wsV RX10 91 RX10 yX10_isInstrument wsX10_isInstrument) := goodIn_app (goodIn_of _ (by decide +kernel)) ggX10_table_X10_isInstrument
set_option maxRecDepth 20000 in
theorem ggX10_table_X10_in : GoodIn wsX10_table wsX10_in := goodIn_r _ [11] (by decide +kernel) (by decide +kernel)
set_option maxRecDepth 20000 in
theorem gX10_table_X10_in : GoodIn wsX10_table (va_wsS RX10 68 yX10_in wsX10_in) := goodIn_app (goodIn_of _ (by decide +kernel)) ggX10_table_X10_in
set_option maxRecDepth 20000 in
theorem ggX10_table_X10_copyOf : GoodIn wsX10_table wsX10_copyOf := goodIn_r _ [15, 16, 17, 18, 19, 20, 21, 6, 22, 1, 2, 23, 24, 25, 26, 27, 28, 29, 30, 31, 32, 33, 34, 35, 36, 37, 38, 39, 40, 41, 42, 43] (by decide +kernel) (by decide +kernel)
set_option maxRecDepth 20000 in
theorem gX10_table_X10_copyOf : GoodIn wsX10_table (wsV RX10 95 RX10 yX10_copyOf wsX10_copyOf) := goodIn_app (goodIn_of _ (by decide +kernel)) ggX10_table_X10_copyOf
theorem dX10_table_0 : decode cX10_table 0 = .ok (.aload_n 0, 1) := by decide +kernel
theorem dX10_table_1 : decode cX10_table 1 = .ok (.iload_n 1, 1) := by decide +kernel
theorem dX10_table_2 : decode cX10_table 2 = .ok (.invokevirtual 91, 3) := by decide +kernel
theorem dX10_table_5 : decode cX10_table 5 = .ok (.ifCond .eq 13, 3) := by decide +kernel
theorem dX10_table_8 : decode cX10_table 8 = .ok (.iload_n 2, 1) := by decide +kernel
theorem dX10_table_9 : decode cX10_table 9 = .ok (.iconst (-1), 1) := by decide +kernel
theorem dX10_table_10 : decode cX10_table 10 = .ok (.bipush 9, 2) := by decide +kernel
theorem dX10_table_12 : decode cX10_table 12 = .ok (.invokestatic 68, 3) := by decide +kernel
theorem dX10_table_15 : decode cX10_table 15 = .ok (.ifCond .ne 5, 3) := by decide +kernel
theorem dX10_table_18 : decode cX10_table 18 = .ok (.iconst (-1), 1) := by decide +kernel
theorem dX10_table_19 : decode cX10_table 19 = .ok (.ireturn, 1) := by decide +kernel
theorem dX10_table_20 : decode cX10_table 20 = .ok (.iload_n 2, 1) := by decide +kernel
theorem dX10_table_21 : decode cX10_table 21 = .ok (.ifCond .ge 7, 3) := by decide +kernel
theorem dX10_table_24 : decode cX10_table 24 = .ok (.iconst (-1), 1) := by decide +kernel
theorem dX10_table_25 : decode cX10_table 25 = .ok (.goto 9, 3) := by decide +kernel
theorem dX10_table_28 : decode cX10_table 28 = .ok (.aload_n 0, 1) := by decide +kernel
theorem dX10_table_29 : decode cX10_table 29 = .ok (.getfield 7, 3) := by decide +kernel
theorem dX10_table_32 : decode cX10_table 32 = .ok (.iload_n 2, 1) := by decide +kernel
theorem dX10_table_33 : decode cX10_table 33 = .ok (.iaload, 1) := by decide +kernel
theorem dX10_table_34 : decode cX10_table 34 = .ok (.istore 4, 2) := by decide +kernel
theorem dX10_table_36 : decode cX10_table 36 = .ok (.aload_n 0, 1) := by decide +kernel
theorem dX10_table_37 : decode cX10_table 37 = .ok (.getfield 13, 3) := by decide +kernel
theorem dX10_table_40 : decode cX10_table 40 = .ok (.iload_n 1, 1) := by decide +kernel
theorem dX10_table_41 : decode cX10_table 41 = .ok (.iconst (-1), 1) := by decide +kernel
theorem dX10_table_42 : decode cX10_table 42 = .ok (.iastore, 1) := by decide +kernel
theorem dX10_table_43 : decode cX10_table 43 = .ok (.aload_n 0, 1) := by decide +kernel
theorem dX10_table_44 : decode cX10_table 44 = .ok (.getfield 13, 3) := by decide +kernel
theorem dX10_table_47 : decode cX10_table 47 = .ok (.iload_n 1, 1) := by decide +kernel
theorem dX10_table_48 : decode cX10_table 48 = .ok (.iload 4, 2) := by decide +kernel
theorem dX10_table_50 : decode cX10_table 50 = .ok (.ifCond .lt 7, 3) := by decide +kernel
theorem dX10_table_53 : decode cX10_table 53 = .ok (.iload_n 3, 1) := by decide +kernel
theorem dX10_table_54 : decode cX10_table 54 = .ok (.ifCond .eq 8, 3) := by decide +kernel
theorem dX10_table_57 : decode cX10_table 57 = .ok (.iload 4, 2) := by decide +kernel
theorem dX10_table_59 : decode cX10_table 59 = .ok (.goto 9, 3) := by decide +kernel
theorem dX10_table_62 : decode cX10_table 62 = .ok (.aload_n 0, 1) := by decide +kernel
theorem dX10_table_63 : decode cX10_table 63 = .ok (.iload 4, 2) := by decide +kernel
theorem dX10_table_65 : decode cX10_table 65 = .ok (.invokevirtual 95, 3) := by decide +kernel
theorem dX10_table_68 : decode cX10_table 68 = .ok (.iastore, 1) := by decide +kernel
theorem dX10_table_69 : decode cX10_table 69 = .ok (.iconst 1, 1) := by decide +kernel
theorem dX10_table_70 : decode cX10_table 70 = .ok (.ireturn, 1) := by decide +kernel
set_option maxRecDepth 20000 in
theorem ggX10_block_X10_in : GoodIn wsX10_block wsX10_in := goodIn_r _ [5] (by decide +kernel) (by decide +kernel)
set_option maxRecDepth 20000 in
theorem gX10_block_X10_in : GoodIn wsX10_block (va_wsS RX10 68 yX10_in wsX10_in) := goodIn_app (goodIn_of _ (by decide +kernel)) ggX10_block_X10_in
set_option maxRecDepth 20000 in
theorem ggX10_block_X10_freshRow : GoodIn wsX10_block wsX10_freshRow := goodIn_r _ [9, 1, 10, 11, 12, 13, 14, 15, 16, 17, 18, 19, 20, 21, 22, 23, 24, 25, 26, 27, 28, 29, 30, 31, 32, 33, 34] (by decide +kernel) (by decide +kernel)
set_option maxRecDepth 20000 in
theorem gX10_block_X10_freshRow : GoodIn wsX10_block (wsV RX10 75 RX10 yX10_freshRow wsX10_freshRow) := goodIn_app (goodIn_of _ (by decide +kernel)) ggX10_block_X10_freshRow
theorem dX10_block_0 : decode cX10_block 0 = .ok (.iload_n 1, 1) := by decide +kernel
theorem dX10_block_1 : decode cX10_block 1 = .ok (.iconst 0, 1) := by decide +kernel
theorem dX10_block_2 : decode cX10_block 2 = .ok (.bipush 9, 2) := by decide +kernel
theorem dX10_block_4 : decode cX10_block 4 = .ok (.invokestatic 68, 3) := by decide +kernel
theorem dX10_block_7 : decode cX10_block 7 = .ok (.ifCond .eq 18, 3) := by decide +kernel
theorem dX10_block_10 : decode cX10_block 10 = .ok (.iload_n 2, 1) := by decide +kernel
theorem dX10_block_11 : decode cX10_block 11 = .ok (.iconst 0, 1) := by decide +kernel
theorem dX10_block_12 : decode cX10_block 12 = .ok (.iconst 3, 1) := by decide +kernel
theorem dX10_block_13 : decode cX10_block 13 = .ok (.invokestatic 68, 3) := by decide +kernel
theorem dX10_block_16 : decode cX10_block 16 = .ok (.ifCond .eq 9, 3) := by decide +kernel
theorem dX10_block_19 : decode cX10_block 19 = .ok (.iload_n 3, 1) := by decide +kernel
theorem dX10_block_20 : decode cX10_block 20 = .ok (.bipush 40, 2) := by decide +kernel
theorem dX10_block_22 : decode cX10_block 22 = .ok (.if_icmp .le 5, 3) := by decide +kernel
theorem dX10_block_25 : decode cX10_block 25 = .ok (.iconst (-1), 1) := by decide +kernel
theorem dX10_block_26 : decode cX10_block 26 = .ok (.ireturn, 1) := by decide +kernel
theorem dX10_block_27 : decode cX10_block 27 = .ok (.iload_n 3, 1) := by decide +kernel
theorem dX10_block_28 : decode cX10_block 28 = .ok (.ifCond .ge 6, 3) := by decide +kernel
theorem dX10_block_31 : decode cX10_block 31 = .ok (.bipush (-8), 2) := by decide +kernel
theorem dX10_block_33 : decode cX10_block 33 = .ok (.ireturn, 1) := by decide +kernel
theorem dX10_block_34 : decode cX10_block 34 = .ok (.aload_n 0, 1) := by decide +kernel
theorem dX10_block_35 : decode cX10_block 35 = .ok (.getfield 7, 3) := by decide +kernel
theorem dX10_block_38 : decode cX10_block 38 = .ok (.iload_n 1, 1) := by decide +kernel
theorem dX10_block_39 : decode cX10_block 39 = .ok (.iconst (-1), 1) := by decide +kernel
theorem dX10_block_40 : decode cX10_block 40 = .ok (.iastore, 1) := by decide +kernel
theorem dX10_block_41 : decode cX10_block 41 = .ok (.aload_n 0, 1) := by decide +kernel
theorem dX10_block_42 : decode cX10_block 42 = .ok (.getfield 7, 3) := by decide +kernel
theorem dX10_block_45 : decode cX10_block 45 = .ok (.iload_n 1, 1) := by decide +kernel
theorem dX10_block_46 : decode cX10_block 46 = .ok (.aload_n 0, 1) := by decide +kernel
theorem dX10_block_47 : decode cX10_block 47 = .ok (.iload_n 2, 1) := by decide +kernel
theorem dX10_block_48 : decode cX10_block 48 = .ok (.iload_n 3, 1) := by decide +kernel
theorem dX10_block_49 : decode cX10_block 49 = .ok (.invokevirtual 75, 3) := by decide +kernel
theorem dX10_block_52 : decode cX10_block 52 = .ok (.iastore, 1) := by decide +kernel
theorem dX10_block_53 : decode cX10_block 53 = .ok (.iconst 1, 1) := by decide +kernel
theorem dX10_block_54 : decode cX10_block 54 = .ok (.ireturn, 1) := by decide +kernel
set_option maxRecDepth 20000 in
theorem ggX10_lend_X10_in : GoodIn wsX10_lend wsX10_in := goodIn_r _ [5] (by decide +kernel) (by decide +kernel)
set_option maxRecDepth 20000 in
theorem gX10_lend_X10_in : GoodIn wsX10_lend (va_wsS RX10 68 yX10_in wsX10_in) := goodIn_app (goodIn_of _ (by decide +kernel)) ggX10_lend_X10_in
set_option maxRecDepth 20000 in
theorem ggX10_lend_X10_copyOf : GoodIn wsX10_lend wsX10_copyOf := goodIn_r _ [9, 10, 11, 12, 13, 14, 15, 4, 16, 1, 17, 18, 19, 20, 21, 22, 23, 24, 25, 26, 27, 28, 29, 30, 31, 32, 33, 34, 35, 36, 37, 38] (by decide +kernel) (by decide +kernel)
set_option maxRecDepth 20000 in
theorem gX10_lend_X10_copyOf : GoodIn wsX10_lend (wsV RX10 95 RX10 yX10_copyOf wsX10_copyOf) := goodIn_app (goodIn_of _ (by decide +kernel)) ggX10_lend_X10_copyOf
theorem dX10_lend_0 : decode cX10_lend 0 = .ok (.iload_n 1, 1) := by decide +kernel
theorem dX10_lend_1 : decode cX10_lend 1 = .ok (.iconst 0, 1) := by decide +kernel
theorem dX10_lend_2 : decode cX10_lend 2 = .ok (.bipush 9, 2) := by decide +kernel
theorem dX10_lend_4 : decode cX10_lend 4 = .ok (.invokestatic 68, 3) := by decide +kernel
theorem dX10_lend_7 : decode cX10_lend 7 = .ok (.ifCond .eq 13, 3) := by decide +kernel
theorem dX10_lend_10 : decode cX10_lend 10 = .ok (.iload_n 2, 1) := by decide +kernel
theorem dX10_lend_11 : decode cX10_lend 11 = .ok (.iconst 0, 1) := by decide +kernel
theorem dX10_lend_12 : decode cX10_lend 12 = .ok (.bipush 9, 2) := by decide +kernel
theorem dX10_lend_14 : decode cX10_lend 14 = .ok (.invokestatic 68, 3) := by decide +kernel
theorem dX10_lend_17 : decode cX10_lend 17 = .ok (.ifCond .ne 5, 3) := by decide +kernel
theorem dX10_lend_20 : decode cX10_lend 20 = .ok (.iconst (-1), 1) := by decide +kernel
theorem dX10_lend_21 : decode cX10_lend 21 = .ok (.ireturn, 1) := by decide +kernel
theorem dX10_lend_22 : decode cX10_lend 22 = .ok (.aload_n 0, 1) := by decide +kernel
theorem dX10_lend_23 : decode cX10_lend 23 = .ok (.getfield 7, 3) := by decide +kernel
theorem dX10_lend_26 : decode cX10_lend 26 = .ok (.iload_n 2, 1) := by decide +kernel
theorem dX10_lend_27 : decode cX10_lend 27 = .ok (.iaload, 1) := by decide +kernel
theorem dX10_lend_28 : decode cX10_lend 28 = .ok (.istore 4, 2) := by decide +kernel
theorem dX10_lend_30 : decode cX10_lend 30 = .ok (.iload 4, 2) := by decide +kernel
theorem dX10_lend_32 : decode cX10_lend 32 = .ok (.ifCond .ge 10, 3) := by decide +kernel
theorem dX10_lend_35 : decode cX10_lend 35 = .ok (.iload_n 3, 1) := by decide +kernel
theorem dX10_lend_36 : decode cX10_lend 36 = .ok (.ifCond .ne 6, 3) := by decide +kernel
theorem dX10_lend_39 : decode cX10_lend 39 = .ok (.bipush (-5), 2) := by decide +kernel
theorem dX10_lend_41 : decode cX10_lend 41 = .ok (.ireturn, 1) := by decide +kernel
theorem dX10_lend_42 : decode cX10_lend 42 = .ok (.aload_n 0, 1) := by decide +kernel
theorem dX10_lend_43 : decode cX10_lend 43 = .ok (.getfield 7, 3) := by decide +kernel
theorem dX10_lend_46 : decode cX10_lend 46 = .ok (.iload_n 1, 1) := by decide +kernel
theorem dX10_lend_47 : decode cX10_lend 47 = .ok (.iload_n 3, 1) := by decide +kernel
theorem dX10_lend_48 : decode cX10_lend 48 = .ok (.ifCond .eq 8, 3) := by decide +kernel
theorem dX10_lend_51 : decode cX10_lend 51 = .ok (.iload 4, 2) := by decide +kernel
theorem dX10_lend_53 : decode cX10_lend 53 = .ok (.goto 9, 3) := by decide +kernel
theorem dX10_lend_56 : decode cX10_lend 56 = .ok (.aload_n 0, 1) := by decide +kernel
theorem dX10_lend_57 : decode cX10_lend 57 = .ok (.iload 4, 2) := by decide +kernel
theorem dX10_lend_59 : decode cX10_lend 59 = .ok (.invokevirtual 95, 3) := by decide +kernel
theorem dX10_lend_62 : decode cX10_lend 62 = .ok (.iastore, 1) := by decide +kernel
theorem dX10_lend_63 : decode cX10_lend 63 = .ok (.iconst 1, 1) := by decide +kernel
theorem dX10_lend_64 : decode cX10_lend 64 = .ok (.ireturn, 1) := by decide +kernel
set_option maxRecDepth 20000 in
theorem ggX10_isLent_X10_in : GoodIn wsX10_isLent wsX10_in := goodIn_r _ [5] (by decide +kernel) (by decide +kernel)
set_option maxRecDepth 20000 in
theorem gX10_isLent_X10_in : GoodIn wsX10_isLent (va_wsS RX10 68 yX10_in wsX10_in) := goodIn_app (goodIn_of _ (by decide +kernel)) ggX10_isLent_X10_in
theorem dX10_isLent_0 : decode cX10_isLent 0 = .ok (.iload_n 1, 1) := by decide +kernel
theorem dX10_isLent_1 : decode cX10_isLent 1 = .ok (.iconst 0, 1) := by decide +kernel
theorem dX10_isLent_2 : decode cX10_isLent 2 = .ok (.bipush 9, 2) := by decide +kernel
theorem dX10_isLent_4 : decode cX10_isLent 4 = .ok (.invokestatic 68, 3) := by decide +kernel
theorem dX10_isLent_7 : decode cX10_isLent 7 = .ok (.ifCond .eq 32, 3) := by decide +kernel
theorem dX10_isLent_10 : decode cX10_isLent 10 = .ok (.iload_n 2, 1) := by decide +kernel
theorem dX10_isLent_11 : decode cX10_isLent 11 = .ok (.iconst 0, 1) := by decide +kernel
theorem dX10_isLent_12 : decode cX10_isLent 12 = .ok (.bipush 9, 2) := by decide +kernel
theorem dX10_isLent_14 : decode cX10_isLent 14 = .ok (.invokestatic 68, 3) := by decide +kernel
theorem dX10_isLent_17 : decode cX10_isLent 17 = .ok (.ifCond .eq 22, 3) := by decide +kernel
theorem dX10_isLent_20 : decode cX10_isLent 20 = .ok (.aload_n 0, 1) := by decide +kernel
theorem dX10_isLent_21 : decode cX10_isLent 21 = .ok (.getfield 7, 3) := by decide +kernel
theorem dX10_isLent_24 : decode cX10_isLent 24 = .ok (.iload_n 1, 1) := by decide +kernel
theorem dX10_isLent_25 : decode cX10_isLent 25 = .ok (.iaload, 1) := by decide +kernel
theorem dX10_isLent_26 : decode cX10_isLent 26 = .ok (.aload_n 0, 1) := by decide +kernel
theorem dX10_isLent_27 : decode cX10_isLent 27 = .ok (.getfield 7, 3) := by decide +kernel
theorem dX10_isLent_30 : decode cX10_isLent 30 = .ok (.iload_n 2, 1) := by decide +kernel
theorem dX10_isLent_31 : decode cX10_isLent 31 = .ok (.iaload, 1) := by decide +kernel
theorem dX10_isLent_32 : decode cX10_isLent 32 = .ok (.if_icmp .ne 7, 3) := by decide +kernel
theorem dX10_isLent_35 : decode cX10_isLent 35 = .ok (.iconst 1, 1) := by decide +kernel
theorem dX10_isLent_36 : decode cX10_isLent 36 = .ok (.goto 4, 3) := by decide +kernel
theorem dX10_isLent_39 : decode cX10_isLent 39 = .ok (.iconst 0, 1) := by decide +kernel
theorem dX10_isLent_40 : decode cX10_isLent 40 = .ok (.ireturn, 1) := by decide +kernel
set_option maxRecDepth 20000 in
theorem ggX10_of_X10_in : GoodIn wsX10_of wsX10_in := goodIn_r _ [7] (by decide +kernel) (by decide +kernel)
set_option maxRecDepth 20000 in
theorem gX10_of_X10_in : GoodIn wsX10_of (va_wsS RX10 68 yX10_in wsX10_in) := goodIn_app (goodIn_of _ (by decide +kernel)) ggX10_of_X10_in
theorem dX10_of_0 : decode cX10_of 0 = .ok (.iload_n 1, 1) := by decide +kernel
theorem dX10_of_1 : decode cX10_of 1 = .ok (.iconst 0, 1) := by decide +kernel
theorem dX10_of_2 : decode cX10_of 2 = .ok (.bipush 9, 2) := by decide +kernel
theorem dX10_of_4 : decode cX10_of 4 = .ok (.invokestatic 68, 3) := by decide +kernel
theorem dX10_of_7 : decode cX10_of 7 = .ok (.ifCond .eq 12, 3) := by decide +kernel
theorem dX10_of_10 : decode cX10_of 10 = .ok (.iload_n 2, 1) := by decide +kernel
theorem dX10_of_11 : decode cX10_of 11 = .ok (.iconst 0, 1) := by decide +kernel
theorem dX10_of_12 : decode cX10_of 12 = .ok (.iconst 1, 1) := by decide +kernel
theorem dX10_of_13 : decode cX10_of 13 = .ok (.invokestatic 68, 3) := by decide +kernel
theorem dX10_of_16 : decode cX10_of 16 = .ok (.ifCond .ne 5, 3) := by decide +kernel
theorem dX10_of_19 : decode cX10_of 19 = .ok (.iconst (-1), 1) := by decide +kernel
theorem dX10_of_20 : decode cX10_of 20 = .ok (.ireturn, 1) := by decide +kernel
theorem dX10_of_21 : decode cX10_of 21 = .ok (.aload_n 0, 1) := by decide +kernel
theorem dX10_of_22 : decode cX10_of 22 = .ok (.getfield 7, 3) := by decide +kernel
theorem dX10_of_25 : decode cX10_of 25 = .ok (.iload_n 1, 1) := by decide +kernel
theorem dX10_of_26 : decode cX10_of 26 = .ok (.iaload, 1) := by decide +kernel
theorem dX10_of_27 : decode cX10_of 27 = .ok (.istore_n 3, 1) := by decide +kernel
theorem dX10_of_28 : decode cX10_of 28 = .ok (.iload_n 3, 1) := by decide +kernel
theorem dX10_of_29 : decode cX10_of 29 = .ok (.ifCond .ge 8, 3) := by decide +kernel
theorem dX10_of_32 : decode cX10_of 32 = .ok (.bipush (-5), 2) := by decide +kernel
theorem dX10_of_34 : decode cX10_of 34 = .ok (.goto 22, 3) := by decide +kernel
theorem dX10_of_37 : decode cX10_of 37 = .ok (.iload_n 2, 1) := by decide +kernel
theorem dX10_of_38 : decode cX10_of 38 = .ok (.ifCond .ne 12, 3) := by decide +kernel
theorem dX10_of_41 : decode cX10_of 41 = .ok (.aload_n 0, 1) := by decide +kernel
theorem dX10_of_42 : decode cX10_of 42 = .ok (.getfield 16, 3) := by decide +kernel
theorem dX10_of_45 : decode cX10_of 45 = .ok (.iload_n 3, 1) := by decide +kernel
theorem dX10_of_46 : decode cX10_of 46 = .ok (.iaload, 1) := by decide +kernel
theorem dX10_of_47 : decode cX10_of 47 = .ok (.goto 9, 3) := by decide +kernel
theorem dX10_of_50 : decode cX10_of 50 = .ok (.aload_n 0, 1) := by decide +kernel
theorem dX10_of_51 : decode cX10_of 51 = .ok (.getfield 19, 3) := by decide +kernel
theorem dX10_of_54 : decode cX10_of 54 = .ok (.iload_n 3, 1) := by decide +kernel
theorem dX10_of_55 : decode cX10_of 55 = .ok (.iaload, 1) := by decide +kernel
theorem dX10_of_56 : decode cX10_of 56 = .ok (.ireturn, 1) := by decide +kernel
set_option maxRecDepth 20000 in
theorem ggX10_reach_X10_in : GoodIn wsX10_reach wsX10_in := goodIn_r _ [6] (by decide +kernel) (by decide +kernel)
set_option maxRecDepth 20000 in
theorem gX10_reach_X10_in : GoodIn wsX10_reach (va_wsS RX10 68 yX10_in wsX10_in) := goodIn_app (goodIn_of _ (by decide +kernel)) ggX10_reach_X10_in
theorem dX10_reach_0 : decode cX10_reach 0 = .ok (.iload_n 1, 1) := by decide +kernel
theorem dX10_reach_1 : decode cX10_reach 1 = .ok (.iconst 0, 1) := by decide +kernel
theorem dX10_reach_2 : decode cX10_reach 2 = .ok (.bipush 9, 2) := by decide +kernel
theorem dX10_reach_4 : decode cX10_reach 4 = .ok (.invokestatic 68, 3) := by decide +kernel
theorem dX10_reach_7 : decode cX10_reach 7 = .ok (.ifCond .ne 5, 3) := by decide +kernel
theorem dX10_reach_10 : decode cX10_reach 10 = .ok (.iconst (-1), 1) := by decide +kernel
theorem dX10_reach_11 : decode cX10_reach 11 = .ok (.ireturn, 1) := by decide +kernel
theorem dX10_reach_12 : decode cX10_reach 12 = .ok (.aload_n 0, 1) := by decide +kernel
theorem dX10_reach_13 : decode cX10_reach 13 = .ok (.getfield 7, 3) := by decide +kernel
theorem dX10_reach_16 : decode cX10_reach 16 = .ok (.iload_n 1, 1) := by decide +kernel
theorem dX10_reach_17 : decode cX10_reach 17 = .ok (.iaload, 1) := by decide +kernel
theorem dX10_reach_18 : decode cX10_reach 18 = .ok (.istore_n 3, 1) := by decide +kernel
theorem dX10_reach_19 : decode cX10_reach 19 = .ok (.iload_n 3, 1) := by decide +kernel
theorem dX10_reach_20 : decode cX10_reach 20 = .ok (.ifCond .ge 8, 3) := by decide +kernel
theorem dX10_reach_23 : decode cX10_reach 23 = .ok (.bipush (-5), 2) := by decide +kernel
theorem dX10_reach_25 : decode cX10_reach 25 = .ok (.goto 25, 3) := by decide +kernel
theorem dX10_reach_28 : decode cX10_reach 28 = .ok (.iload_n 2, 1) := by decide +kernel
theorem dX10_reach_29 : decode cX10_reach 29 = .ok (.iconst 0, 1) := by decide +kernel
theorem dX10_reach_30 : decode cX10_reach 30 = .ok (.aload_n 0, 1) := by decide +kernel
theorem dX10_reach_31 : decode cX10_reach 31 = .ok (.getfield 19, 3) := by decide +kernel
theorem dX10_reach_34 : decode cX10_reach 34 = .ok (.iload_n 3, 1) := by decide +kernel
theorem dX10_reach_35 : decode cX10_reach 35 = .ok (.iaload, 1) := by decide +kernel
theorem dX10_reach_36 : decode cX10_reach 36 = .ok (.iconst 1, 1) := by decide +kernel
theorem dX10_reach_37 : decode cX10_reach 37 = .ok (.isub, 1) := by decide +kernel
theorem dX10_reach_38 : decode cX10_reach 38 = .ok (.invokestatic 68, 3) := by decide +kernel
theorem dX10_reach_41 : decode cX10_reach 41 = .ok (.ifCond .eq 7, 3) := by decide +kernel
theorem dX10_reach_44 : decode cX10_reach 44 = .ok (.iconst 1, 1) := by decide +kernel
theorem dX10_reach_45 : decode cX10_reach 45 = .ok (.goto 5, 3) := by decide +kernel
theorem dX10_reach_48 : decode cX10_reach 48 = .ok (.bipush (-7), 2) := by decide +kernel
theorem dX10_reach_50 : decode cX10_reach 50 = .ok (.ireturn, 1) := by decide +kernel
set_option maxRecDepth 20000 in
theorem ggX10_at_X10_reach : GoodIn wsX10_at wsX10_reach := goodIn_r _ [7, 2, 8, 9, 10, 6, 11, 17, 18, 19, 20, 21, 22, 23, 24, 25, 26, 27, 28, 29, 30, 31, 32, 33, 34, 35, 36, 37] (by decide +kernel) (by decide +kernel)
set_option maxRecDepth 20000 in
theorem gX10_at_X10_reach : GoodIn wsX10_at (wsV RX10 99 RX10 yX10_reach wsX10_reach) := goodIn_app (goodIn_of _ (by decide +kernel)) ggX10_at_X10_reach
set_option maxRecDepth 20000 in
theorem ggX10_at_X10_says : GoodIn wsX10_at wsX10_says := goodIn_r _ [15, 16, 17, 18, 19, 20, 21, 22, 23, 24, 25, 26, 27, 28, 29, 30, 31, 32, 33, 34, 35, 36, 37] (by decide +kernel) (by decide +kernel)
set_option maxRecDepth 20000 in
theorem gX10_at_X10_says : GoodIn wsX10_at (wsV RX10 102 RX10 yX10_says wsX10_says) := goodIn_app (goodIn_of _ (by decide +kernel)) ggX10_at_X10_says
theorem dX10_at_0 : decode cX10_at 0 = .ok (.aload_n 0, 1) := by decide +kernel
theorem dX10_at_1 : decode cX10_at 1 = .ok (.aload_n 0, 1) := by decide +kernel
theorem dX10_at_2 : decode cX10_at 2 = .ok (.iload_n 1, 1) := by decide +kernel
theorem dX10_at_3 : decode cX10_at 3 = .ok (.iload_n 2, 1) := by decide +kernel
theorem dX10_at_4 : decode cX10_at 4 = .ok (.invokevirtual 99, 3) := by decide +kernel
theorem dX10_at_7 : decode cX10_at 7 = .ok (.invokevirtual 102, 3) := by decide +kernel
theorem dX10_at_10 : decode cX10_at 10 = .ok (.iconst 1, 1) := by decide +kernel
theorem dX10_at_11 : decode cX10_at 11 = .ok (.if_icmp .ne 22, 3) := by decide +kernel
theorem dX10_at_14 : decode cX10_at 14 = .ok (.aload_n 0, 1) := by decide +kernel
theorem dX10_at_15 : decode cX10_at 15 = .ok (.getfield 22, 3) := by decide +kernel
theorem dX10_at_18 : decode cX10_at 18 = .ok (.bipush 40, 2) := by decide +kernel
theorem dX10_at_20 : decode cX10_at 20 = .ok (.aload_n 0, 1) := by decide +kernel
theorem dX10_at_21 : decode cX10_at 21 = .ok (.getfield 7, 3) := by decide +kernel
theorem dX10_at_24 : decode cX10_at 24 = .ok (.iload_n 1, 1) := by decide +kernel
theorem dX10_at_25 : decode cX10_at 25 = .ok (.iaload, 1) := by decide +kernel
theorem dX10_at_26 : decode cX10_at 26 = .ok (.imul, 1) := by decide +kernel
theorem dX10_at_27 : decode cX10_at 27 = .ok (.iload_n 2, 1) := by decide +kernel
theorem dX10_at_28 : decode cX10_at 28 = .ok (.iadd, 1) := by decide +kernel
theorem dX10_at_29 : decode cX10_at 29 = .ok (.laload, 1) := by decide +kernel
theorem dX10_at_30 : decode cX10_at 30 = .ok (.goto 4, 3) := by decide +kernel
theorem dX10_at_33 : decode cX10_at 33 = .ok (.lconst 0, 1) := by decide +kernel
theorem dX10_at_34 : decode cX10_at 34 = .ok (.lreturn, 1) := by decide +kernel
set_option maxRecDepth 20000 in
theorem ggX10_put_X10_reach : GoodIn wsX10_put wsX10_reach := goodIn_r _ [9, 3, 10, 11, 12, 8, 13, 45, 46, 47, 48, 49, 50, 51, 52, 53, 54, 55, 56, 57, 58, 59, 60, 61, 62, 63, 64, 65] (by decide +kernel) (by decide +kernel)
set_option maxRecDepth 20000 in
theorem gX10_put_X10_reach : GoodIn wsX10_put (wsV RX10 99 RX10 yX10_reach wsX10_reach) := goodIn_app (goodIn_of _ (by decide +kernel)) ggX10_put_X10_reach
set_option maxRecDepth 20000 in
theorem ggX10_put_X10_says : GoodIn wsX10_put wsX10_says := goodIn_r _ [17, 1, 45, 46, 47, 48, 49, 50, 51, 52, 53, 54, 55, 56, 57, 58, 59, 60, 61, 62, 63, 64, 65] (by decide +kernel) (by decide +kernel)
set_option maxRecDepth 20000 in
theorem gX10_put_X10_says : GoodIn wsX10_put (wsV RX10 102 RX10 yX10_says wsX10_says) := goodIn_app (goodIn_of _ (by decide +kernel)) ggX10_put_X10_says
set_option maxRecDepth 20000 in
theorem ggX10_put_X10_cast : GoodIn wsX10_put wsX10_cast := goodIn_r _ [20, 21, 22, 23, 24, 25, 26, 27, 28, 29, 30, 31, 32, 33, 34, 35, 36, 37, 38, 39, 40, 41, 42, 43, 44] (by decide +kernel) (by decide +kernel)
set_option maxRecDepth 20000 in
theorem gX10_put_X10_cast : GoodIn wsX10_put (va_wsS RX10 105 yX10_cast wsX10_cast) := goodIn_app (goodIn_of _ (by decide +kernel)) ggX10_put_X10_cast
theorem dX10_put_0 : decode cX10_put 0 = .ok (.aload_n 0, 1) := by decide +kernel
theorem dX10_put_1 : decode cX10_put 1 = .ok (.aload_n 0, 1) := by decide +kernel
theorem dX10_put_2 : decode cX10_put 2 = .ok (.iload_n 1, 1) := by decide +kernel
theorem dX10_put_3 : decode cX10_put 3 = .ok (.iload_n 2, 1) := by decide +kernel
theorem dX10_put_4 : decode cX10_put 4 = .ok (.invokevirtual 99, 3) := by decide +kernel
theorem dX10_put_7 : decode cX10_put 7 = .ok (.invokevirtual 102, 3) := by decide +kernel
theorem dX10_put_10 : decode cX10_put 10 = .ok (.iconst 1, 1) := by decide +kernel
theorem dX10_put_11 : decode cX10_put 11 = .ok (.if_icmp .eq 8, 3) := by decide +kernel
theorem dX10_put_14 : decode cX10_put 14 = .ok (.aload_n 0, 1) := by decide +kernel
theorem dX10_put_15 : decode cX10_put 15 = .ok (.getfield 72, 3) := by decide +kernel
theorem dX10_put_18 : decode cX10_put 18 = .ok (.ireturn, 1) := by decide +kernel
theorem dX10_put_19 : decode cX10_put 19 = .ok (.aload_n 0, 1) := by decide +kernel
theorem dX10_put_20 : decode cX10_put 20 = .ok (.getfield 22, 3) := by decide +kernel
theorem dX10_put_23 : decode cX10_put 23 = .ok (.bipush 40, 2) := by decide +kernel
theorem dX10_put_25 : decode cX10_put 25 = .ok (.aload_n 0, 1) := by decide +kernel
theorem dX10_put_26 : decode cX10_put 26 = .ok (.getfield 7, 3) := by decide +kernel
theorem dX10_put_29 : decode cX10_put 29 = .ok (.iload_n 1, 1) := by decide +kernel
theorem dX10_put_30 : decode cX10_put 30 = .ok (.iaload, 1) := by decide +kernel
theorem dX10_put_31 : decode cX10_put 31 = .ok (.imul, 1) := by decide +kernel
theorem dX10_put_32 : decode cX10_put 32 = .ok (.iload_n 2, 1) := by decide +kernel
theorem dX10_put_33 : decode cX10_put 33 = .ok (.iadd, 1) := by decide +kernel
theorem dX10_put_34 : decode cX10_put 34 = .ok (.aload_n 0, 1) := by decide +kernel
theorem dX10_put_35 : decode cX10_put 35 = .ok (.getfield 16, 3) := by decide +kernel
theorem dX10_put_38 : decode cX10_put 38 = .ok (.aload_n 0, 1) := by decide +kernel
theorem dX10_put_39 : decode cX10_put 39 = .ok (.getfield 7, 3) := by decide +kernel
theorem dX10_put_42 : decode cX10_put 42 = .ok (.iload_n 1, 1) := by decide +kernel
theorem dX10_put_43 : decode cX10_put 43 = .ok (.iaload, 1) := by decide +kernel
theorem dX10_put_44 : decode cX10_put 44 = .ok (.iaload, 1) := by decide +kernel
theorem dX10_put_45 : decode cX10_put 45 = .ok (.iload_n 3, 1) := by decide +kernel
theorem dX10_put_46 : decode cX10_put 46 = .ok (.i2d, 1) := by decide +kernel
theorem dX10_put_47 : decode cX10_put 47 = .ok (.invokestatic 105, 3) := by decide +kernel
theorem dX10_put_50 : decode cX10_put 50 = .ok (.lastore, 1) := by decide +kernel
theorem dX10_put_51 : decode cX10_put 51 = .ok (.iconst 1, 1) := by decide +kernel
theorem dX10_put_52 : decode cX10_put 52 = .ok (.ireturn, 1) := by decide +kernel
set_option maxRecDepth 20000 in
theorem ggX10_copy_X10_in : GoodIn wsX10_copy wsX10_in := goodIn_r _ [9] (by decide +kernel) (by decide +kernel)
set_option maxRecDepth 20000 in
theorem gX10_copy_X10_in : GoodIn wsX10_copy (va_wsS RX10 68 yX10_in wsX10_in) := goodIn_app (goodIn_of _ (by decide +kernel)) ggX10_copy_X10_in
set_option maxRecDepth 20000 in
theorem ggX10_copy_X10_says : GoodIn wsX10_copy wsX10_says := goodIn_r _ [13, 14, 15, 16, 17, 18, 19, 20, 21, 22, 23, 24, 25, 26, 27, 28, 29, 30, 31, 32, 33, 34, 35] (by decide +kernel) (by decide +kernel)
set_option maxRecDepth 20000 in
theorem gX10_copy_X10_says : GoodIn wsX10_copy (wsV RX10 102 RX10 yX10_says wsX10_says) := goodIn_app (goodIn_of _ (by decide +kernel)) ggX10_copy_X10_says
theorem dX10_copy_0 : decode cX10_copy 0 = .ok (.iload_n 1, 1) := by decide +kernel
theorem dX10_copy_1 : decode cX10_copy 1 = .ok (.iconst 0, 1) := by decide +kernel
theorem dX10_copy_2 : decode cX10_copy 2 = .ok (.bipush 9, 2) := by decide +kernel
theorem dX10_copy_4 : decode cX10_copy 4 = .ok (.invokestatic 68, 3) := by decide +kernel
theorem dX10_copy_7 : decode cX10_copy 7 = .ok (.ifCond .eq 13, 3) := by decide +kernel
theorem dX10_copy_10 : decode cX10_copy 10 = .ok (.iload_n 3, 1) := by decide +kernel
theorem dX10_copy_11 : decode cX10_copy 11 = .ok (.iconst 0, 1) := by decide +kernel
theorem dX10_copy_12 : decode cX10_copy 12 = .ok (.bipush 9, 2) := by decide +kernel
theorem dX10_copy_14 : decode cX10_copy 14 = .ok (.invokestatic 68, 3) := by decide +kernel
theorem dX10_copy_17 : decode cX10_copy 17 = .ok (.ifCond .ne 9, 3) := by decide +kernel
theorem dX10_copy_20 : decode cX10_copy 20 = .ok (.aload_n 0, 1) := by decide +kernel
theorem dX10_copy_21 : decode cX10_copy 21 = .ok (.iconst (-1), 1) := by decide +kernel
theorem dX10_copy_22 : decode cX10_copy 22 = .ok (.invokevirtual 102, 3) := by decide +kernel
theorem dX10_copy_25 : decode cX10_copy 25 = .ok (.ireturn, 1) := by decide +kernel
theorem dX10_copy_26 : decode cX10_copy 26 = .ok (.aload_n 0, 1) := by decide +kernel
theorem dX10_copy_27 : decode cX10_copy 27 = .ok (.getfield 7, 3) := by decide +kernel
theorem dX10_copy_30 : decode cX10_copy 30 = .ok (.iload_n 1, 1) := by decide +kernel
theorem dX10_copy_31 : decode cX10_copy 31 = .ok (.iaload, 1) := by decide +kernel
theorem dX10_copy_32 : decode cX10_copy 32 = .ok (.istore 6, 2) := by decide +kernel
theorem dX10_copy_34 : decode cX10_copy 34 = .ok (.aload_n 0, 1) := by decide +kernel
theorem dX10_copy_35 : decode cX10_copy 35 = .ok (.getfield 7, 3) := by decide +kernel
theorem dX10_copy_38 : decode cX10_copy 38 = .ok (.iload_n 3, 1) := by decide +kernel
theorem dX10_copy_39 : decode cX10_copy 39 = .ok (.iaload, 1) := by decide +kernel
theorem dX10_copy_40 : decode cX10_copy 40 = .ok (.istore 7, 2) := by decide +kernel
theorem dX10_copy_42 : decode cX10_copy 42 = .ok (.iload 6, 2) := by decide +kernel
theorem dX10_copy_44 : decode cX10_copy 44 = .ok (.ifCond .lt 8, 3) := by decide +kernel
theorem dX10_copy_47 : decode cX10_copy 47 = .ok (.iload 7, 2) := by decide +kernel
theorem dX10_copy_49 : decode cX10_copy 49 = .ok (.ifCond .ge 10, 3) := by decide +kernel
theorem dX10_copy_52 : decode cX10_copy 52 = .ok (.aload_n 0, 1) := by decide +kernel
theorem dX10_copy_53 : decode cX10_copy 53 = .ok (.bipush (-5), 2) := by decide +kernel
theorem dX10_copy_55 : decode cX10_copy 55 = .ok (.invokevirtual 102, 3) := by decide +kernel
theorem dX10_copy_58 : decode cX10_copy 58 = .ok (.ireturn, 1) := by decide +kernel
theorem dX10_copy_59 : decode cX10_copy 59 = .ok (.aload_n 0, 1) := by decide +kernel
theorem dX10_copy_60 : decode cX10_copy 60 = .ok (.getfield 16, 3) := by decide +kernel
theorem dX10_copy_63 : decode cX10_copy 63 = .ok (.iload 6, 2) := by decide +kernel
theorem dX10_copy_65 : decode cX10_copy 65 = .ok (.iaload, 1) := by decide +kernel
theorem dX10_copy_66 : decode cX10_copy 66 = .ok (.aload_n 0, 1) := by decide +kernel
theorem dX10_copy_67 : decode cX10_copy 67 = .ok (.getfield 16, 3) := by decide +kernel
theorem dX10_copy_70 : decode cX10_copy 70 = .ok (.iload 7, 2) := by decide +kernel
theorem dX10_copy_72 : decode cX10_copy 72 = .ok (.iaload, 1) := by decide +kernel
theorem dX10_copy_73 : decode cX10_copy 73 = .ok (.if_icmp .eq 10, 3) := by decide +kernel
theorem dX10_copy_76 : decode cX10_copy 76 = .ok (.aload_n 0, 1) := by decide +kernel
theorem dX10_copy_77 : decode cX10_copy 77 = .ok (.bipush (-9), 2) := by decide +kernel
theorem dX10_copy_79 : decode cX10_copy 79 = .ok (.invokevirtual 102, 3) := by decide +kernel
theorem dX10_copy_82 : decode cX10_copy 82 = .ok (.ireturn, 1) := by decide +kernel
theorem dX10_copy_83 : decode cX10_copy 83 = .ok (.iload_n 2, 1) := by decide +kernel
theorem dX10_copy_84 : decode cX10_copy 84 = .ok (.ifCond .lt 50, 3) := by decide +kernel
theorem dX10_copy_87 : decode cX10_copy 87 = .ok (.iload 4, 2) := by decide +kernel
theorem dX10_copy_89 : decode cX10_copy 89 = .ok (.ifCond .lt 45, 3) := by decide +kernel
theorem dX10_copy_92 : decode cX10_copy 92 = .ok (.iload 5, 2) := by decide +kernel
theorem dX10_copy_94 : decode cX10_copy 94 = .ok (.ifCond .lt 40, 3) := by decide +kernel
theorem dX10_copy_97 : decode cX10_copy 97 = .ok (.iload_n 2, 1) := by decide +kernel
theorem dX10_copy_98 : decode cX10_copy 98 = .ok (.i2l, 1) := by decide +kernel
theorem dX10_copy_99 : decode cX10_copy 99 = .ok (.iload 5, 2) := by decide +kernel
theorem dX10_copy_101 : decode cX10_copy 101 = .ok (.i2l, 1) := by decide +kernel
theorem dX10_copy_102 : decode cX10_copy 102 = .ok (.ladd, 1) := by decide +kernel
theorem dX10_copy_103 : decode cX10_copy 103 = .ok (.aload_n 0, 1) := by decide +kernel
theorem dX10_copy_104 : decode cX10_copy 104 = .ok (.getfield 19, 3) := by decide +kernel
theorem dX10_copy_107 : decode cX10_copy 107 = .ok (.iload 6, 2) := by decide +kernel
theorem dX10_copy_109 : decode cX10_copy 109 = .ok (.iaload, 1) := by decide +kernel
theorem dX10_copy_110 : decode cX10_copy 110 = .ok (.i2l, 1) := by decide +kernel
theorem dX10_copy_111 : decode cX10_copy 111 = .ok (.lcmp, 1) := by decide +kernel
theorem dX10_copy_112 : decode cX10_copy 112 = .ok (.ifCond .gt 22, 3) := by decide +kernel
theorem dX10_copy_115 : decode cX10_copy 115 = .ok (.iload 4, 2) := by decide +kernel
theorem dX10_copy_117 : decode cX10_copy 117 = .ok (.i2l, 1) := by decide +kernel
theorem dX10_copy_118 : decode cX10_copy 118 = .ok (.iload 5, 2) := by decide +kernel
theorem dX10_copy_120 : decode cX10_copy 120 = .ok (.i2l, 1) := by decide +kernel
theorem dX10_copy_121 : decode cX10_copy 121 = .ok (.ladd, 1) := by decide +kernel
theorem dX10_copy_122 : decode cX10_copy 122 = .ok (.aload_n 0, 1) := by decide +kernel
theorem dX10_copy_123 : decode cX10_copy 123 = .ok (.getfield 19, 3) := by decide +kernel
theorem dX10_copy_126 : decode cX10_copy 126 = .ok (.iload 7, 2) := by decide +kernel
theorem dX10_copy_128 : decode cX10_copy 128 = .ok (.iaload, 1) := by decide +kernel
theorem dX10_copy_129 : decode cX10_copy 129 = .ok (.i2l, 1) := by decide +kernel
theorem dX10_copy_130 : decode cX10_copy 130 = .ok (.lcmp, 1) := by decide +kernel
theorem dX10_copy_131 : decode cX10_copy 131 = .ok (.ifCond .le 10, 3) := by decide +kernel
theorem dX10_copy_134 : decode cX10_copy 134 = .ok (.aload_n 0, 1) := by decide +kernel
theorem dX10_copy_135 : decode cX10_copy 135 = .ok (.bipush (-7), 2) := by decide +kernel
theorem dX10_copy_137 : decode cX10_copy 137 = .ok (.invokevirtual 102, 3) := by decide +kernel
theorem dX10_copy_140 : decode cX10_copy 140 = .ok (.ireturn, 1) := by decide +kernel
theorem dX10_copy_141 : decode cX10_copy 141 = .ok (.iconst 0, 1) := by decide +kernel
theorem dX10_copy_142 : decode cX10_copy 142 = .ok (.istore 8, 2) := by decide +kernel
theorem dX10_copy_144 : decode cX10_copy 144 = .ok (.iload 8, 2) := by decide +kernel
theorem dX10_copy_146 : decode cX10_copy 146 = .ok (.iload 5, 2) := by decide +kernel
theorem dX10_copy_148 : decode cX10_copy 148 = .ok (.if_icmp .ge 31, 3) := by decide +kernel
theorem dX10_copy_151 : decode cX10_copy 151 = .ok (.aload_n 0, 1) := by decide +kernel
theorem dX10_copy_152 : decode cX10_copy 152 = .ok (.getfield 58, 3) := by decide +kernel
theorem dX10_copy_155 : decode cX10_copy 155 = .ok (.iload 8, 2) := by decide +kernel
theorem dX10_copy_157 : decode cX10_copy 157 = .ok (.aload_n 0, 1) := by decide +kernel
theorem dX10_copy_158 : decode cX10_copy 158 = .ok (.getfield 22, 3) := by decide +kernel
theorem dX10_copy_161 : decode cX10_copy 161 = .ok (.bipush 40, 2) := by decide +kernel
theorem dX10_copy_163 : decode cX10_copy 163 = .ok (.iload 6, 2) := by decide +kernel
theorem dX10_copy_165 : decode cX10_copy 165 = .ok (.imul, 1) := by decide +kernel
theorem dX10_copy_166 : decode cX10_copy 166 = .ok (.iload_n 2, 1) := by decide +kernel
theorem dX10_copy_167 : decode cX10_copy 167 = .ok (.iadd, 1) := by decide +kernel
theorem dX10_copy_168 : decode cX10_copy 168 = .ok (.iload 8, 2) := by decide +kernel
theorem dX10_copy_170 : decode cX10_copy 170 = .ok (.iadd, 1) := by decide +kernel
theorem dX10_copy_171 : decode cX10_copy 171 = .ok (.laload, 1) := by decide +kernel
theorem dX10_copy_172 : decode cX10_copy 172 = .ok (.lastore, 1) := by decide +kernel
theorem dX10_copy_173 : decode cX10_copy 173 = .ok (.iinc 8 1, 3) := by decide +kernel
theorem dX10_copy_176 : decode cX10_copy 176 = .ok (.goto (-32), 3) := by decide +kernel
theorem dX10_copy_179 : decode cX10_copy 179 = .ok (.iconst 0, 1) := by decide +kernel
theorem dX10_copy_180 : decode cX10_copy 180 = .ok (.istore 8, 2) := by decide +kernel
theorem dX10_copy_182 : decode cX10_copy 182 = .ok (.iload 8, 2) := by decide +kernel
theorem dX10_copy_184 : decode cX10_copy 184 = .ok (.iload 5, 2) := by decide +kernel
theorem dX10_copy_186 : decode cX10_copy 186 = .ok (.if_icmp .ge 32, 3) := by decide +kernel
theorem dX10_copy_189 : decode cX10_copy 189 = .ok (.aload_n 0, 1) := by decide +kernel
theorem dX10_copy_190 : decode cX10_copy 190 = .ok (.getfield 22, 3) := by decide +kernel
theorem dX10_copy_193 : decode cX10_copy 193 = .ok (.bipush 40, 2) := by decide +kernel
theorem dX10_copy_195 : decode cX10_copy 195 = .ok (.iload 7, 2) := by decide +kernel
theorem dX10_copy_197 : decode cX10_copy 197 = .ok (.imul, 1) := by decide +kernel
theorem dX10_copy_198 : decode cX10_copy 198 = .ok (.iload 4, 2) := by decide +kernel
theorem dX10_copy_200 : decode cX10_copy 200 = .ok (.iadd, 1) := by decide +kernel
theorem dX10_copy_201 : decode cX10_copy 201 = .ok (.iload 8, 2) := by decide +kernel
theorem dX10_copy_203 : decode cX10_copy 203 = .ok (.iadd, 1) := by decide +kernel
theorem dX10_copy_204 : decode cX10_copy 204 = .ok (.aload_n 0, 1) := by decide +kernel
theorem dX10_copy_205 : decode cX10_copy 205 = .ok (.getfield 58, 3) := by decide +kernel
theorem dX10_copy_208 : decode cX10_copy 208 = .ok (.iload 8, 2) := by decide +kernel
theorem dX10_copy_210 : decode cX10_copy 210 = .ok (.laload, 1) := by decide +kernel
theorem dX10_copy_211 : decode cX10_copy 211 = .ok (.lastore, 1) := by decide +kernel
theorem dX10_copy_212 : decode cX10_copy 212 = .ok (.iinc 8 1, 3) := by decide +kernel
theorem dX10_copy_215 : decode cX10_copy 215 = .ok (.goto (-33), 3) := by decide +kernel
theorem dX10_copy_218 : decode cX10_copy 218 = .ok (.aload_n 0, 1) := by decide +kernel
theorem dX10_copy_219 : decode cX10_copy 219 = .ok (.iconst 1, 1) := by decide +kernel
theorem dX10_copy_220 : decode cX10_copy 220 = .ok (.invokevirtual 102, 3) := by decide +kernel
theorem dX10_copy_223 : decode cX10_copy 223 = .ok (.ireturn, 1) := by decide +kernel
set_option maxRecDepth 20000 in
theorem ggX10_bind_X10_in : GoodIn wsX10_bind wsX10_in := goodIn_r _ [5] (by decide +kernel) (by decide +kernel)
set_option maxRecDepth 20000 in
theorem gX10_bind_X10_in : GoodIn wsX10_bind (va_wsS RX10 68 yX10_in wsX10_in) := goodIn_app (goodIn_of _ (by decide +kernel)) ggX10_bind_X10_in
theorem dX10_bind_0 : decode cX10_bind 0 = .ok (.iload_n 1, 1) := by decide +kernel
theorem dX10_bind_1 : decode cX10_bind 1 = .ok (.iconst 0, 1) := by decide +kernel
theorem dX10_bind_2 : decode cX10_bind 2 = .ok (.iconst 3, 1) := by decide +kernel
theorem dX10_bind_3 : decode cX10_bind 3 = .ok (.invokestatic 68, 3) := by decide +kernel
theorem dX10_bind_6 : decode cX10_bind 6 = .ok (.ifCond .ne 6, 3) := by decide +kernel
theorem dX10_bind_9 : decode cX10_bind 9 = .ok (.bipush (-2), 2) := by decide +kernel
theorem dX10_bind_11 : decode cX10_bind 11 = .ok (.ireturn, 1) := by decide +kernel
theorem dX10_bind_12 : decode cX10_bind 12 = .ok (.aload_n 0, 1) := by decide +kernel
theorem dX10_bind_13 : decode cX10_bind 13 = .ok (.getfield 61, 3) := by decide +kernel
theorem dX10_bind_16 : decode cX10_bind 16 = .ok (.istore_n 2, 1) := by decide +kernel
theorem dX10_bind_17 : decode cX10_bind 17 = .ok (.aload_n 0, 1) := by decide +kernel
theorem dX10_bind_18 : decode cX10_bind 18 = .ok (.iload_n 1, 1) := by decide +kernel
theorem dX10_bind_19 : decode cX10_bind 19 = .ok (.putfield 61, 3) := by decide +kernel
theorem dX10_bind_22 : decode cX10_bind 22 = .ok (.iload_n 2, 1) := by decide +kernel
theorem dX10_bind_23 : decode cX10_bind 23 = .ok (.ireturn, 1) := by decide +kernel
set_option maxRecDepth 20000 in
theorem ggX10_function_X10_in : GoodIn wsX10_function wsX10_in := goodIn_r _ [7] (by decide +kernel) (by decide +kernel)
set_option maxRecDepth 20000 in
theorem gX10_function_X10_in : GoodIn wsX10_function (va_wsS RX10 68 yX10_in wsX10_in) := goodIn_app (goodIn_of _ (by decide +kernel)) ggX10_function_X10_in
theorem dX10_function_0 : decode cX10_function 0 = .ok (.iload_n 1, 1) := by decide +kernel
theorem dX10_function_1 : decode cX10_function 1 = .ok (.iconst 0, 1) := by decide +kernel
theorem dX10_function_2 : decode cX10_function 2 = .ok (.iconst 5, 1) := by decide +kernel
theorem dX10_function_3 : decode cX10_function 3 = .ok (.invokestatic 68, 3) := by decide +kernel
theorem dX10_function_6 : decode cX10_function 6 = .ok (.ifCond .ne 5, 3) := by decide +kernel
theorem dX10_function_9 : decode cX10_function 9 = .ok (.iconst (-1), 1) := by decide +kernel
theorem dX10_function_10 : decode cX10_function 10 = .ok (.ireturn, 1) := by decide +kernel
theorem dX10_function_11 : decode cX10_function 11 = .ok (.aload_n 0, 1) := by decide +kernel
theorem dX10_function_12 : decode cX10_function 12 = .ok (.getfield 109, 3) := by decide +kernel
theorem dX10_function_15 : decode cX10_function 15 = .ok (.bipush 8, 2) := by decide +kernel
theorem dX10_function_17 : decode cX10_function 17 = .ok (.if_icmp .ne 6, 3) := by decide +kernel
theorem dX10_function_20 : decode cX10_function 20 = .ok (.bipush (-2), 2) := by decide +kernel
theorem dX10_function_22 : decode cX10_function 22 = .ok (.ireturn, 1) := by decide +kernel
theorem dX10_function_23 : decode cX10_function 23 = .ok (.aload_n 0, 1) := by decide +kernel
theorem dX10_function_24 : decode cX10_function 24 = .ok (.getfield 46, 3) := by decide +kernel
theorem dX10_function_27 : decode cX10_function 27 = .ok (.aload_n 0, 1) := by decide +kernel
theorem dX10_function_28 : decode cX10_function 28 = .ok (.getfield 109, 3) := by decide +kernel
theorem dX10_function_31 : decode cX10_function 31 = .ok (.iload_n 1, 1) := by decide +kernel
theorem dX10_function_32 : decode cX10_function 32 = .ok (.iastore, 1) := by decide +kernel
theorem dX10_function_33 : decode cX10_function 33 = .ok (.aload_n 0, 1) := by decide +kernel
theorem dX10_function_34 : decode cX10_function 34 = .ok (.getfield 49, 3) := by decide +kernel
theorem dX10_function_37 : decode cX10_function 37 = .ok (.aload_n 0, 1) := by decide +kernel
theorem dX10_function_38 : decode cX10_function 38 = .ok (.getfield 109, 3) := by decide +kernel
theorem dX10_function_41 : decode cX10_function 41 = .ok (.iload_n 2, 1) := by decide +kernel
theorem dX10_function_42 : decode cX10_function 42 = .ok (.iastore, 1) := by decide +kernel
theorem dX10_function_43 : decode cX10_function 43 = .ok (.aload_n 0, 1) := by decide +kernel
theorem dX10_function_44 : decode cX10_function 44 = .ok (.dup, 1) := by decide +kernel
theorem dX10_function_45 : decode cX10_function 45 = .ok (.getfield 109, 3) := by decide +kernel
theorem dX10_function_48 : decode cX10_function 48 = .ok (.iconst 1, 1) := by decide +kernel
theorem dX10_function_49 : decode cX10_function 49 = .ok (.iadd, 1) := by decide +kernel
theorem dX10_function_50 : decode cX10_function 50 = .ok (.putfield 109, 3) := by decide +kernel
theorem dX10_function_53 : decode cX10_function 53 = .ok (.aload_n 0, 1) := by decide +kernel
theorem dX10_function_54 : decode cX10_function 54 = .ok (.getfield 109, 3) := by decide +kernel
theorem dX10_function_57 : decode cX10_function 57 = .ok (.iconst 1, 1) := by decide +kernel
theorem dX10_function_58 : decode cX10_function 58 = .ok (.isub, 1) := by decide +kernel
theorem dX10_function_59 : decode cX10_function 59 = .ok (.ireturn, 1) := by decide +kernel
theorem dX10_failed_0 : decode cX10_failed 0 = .ok (.aload_n 0, 1) := by decide +kernel
theorem dX10_failed_1 : decode cX10_failed 1 = .ok (.iload_n 1, 1) := by decide +kernel
theorem dX10_failed_2 : decode cX10_failed 2 = .ok (.putfield 112, 3) := by decide +kernel
theorem dX10_failed_5 : decode cX10_failed 5 = .ok (.dconst 0, 1) := by decide +kernel
theorem dX10_failed_6 : decode cX10_failed 6 = .ok (.dreturn, 1) := by decide +kernel
theorem dX10_tone_0 : decode cX10_tone 0 = .ok (.aload_n 0, 1) := by decide +kernel
theorem dX10_tone_1 : decode cX10_tone 1 = .ok (.getfield 35, 3) := by decide +kernel
theorem dX10_tone_4 : decode cX10_tone 4 = .ok (.iload_n 1, 1) := by decide +kernel
theorem dX10_tone_5 : decode cX10_tone 5 = .ok (.baload, 1) := by decide +kernel
theorem dX10_tone_6 : decode cX10_tone 6 = .ok (.ifCond .eq 23, 3) := by decide +kernel
theorem dX10_tone_9 : decode cX10_tone 9 = .ok (.iload_n 2, 1) := by decide +kernel
theorem dX10_tone_10 : decode cX10_tone 10 = .ok (.aload_n 0, 1) := by decide +kernel
theorem dX10_tone_11 : decode cX10_tone 11 = .ok (.getfield 32, 3) := by decide +kernel
theorem dX10_tone_14 : decode cX10_tone 14 = .ok (.iload_n 1, 1) := by decide +kernel
theorem dX10_tone_15 : decode cX10_tone 15 = .ok (.iaload, 1) := by decide +kernel
theorem dX10_tone_16 : decode cX10_tone 16 = .ok (.imul, 1) := by decide +kernel
theorem dX10_tone_17 : decode cX10_tone 17 = .ok (.sipush 256, 3) := by decide +kernel
theorem dX10_tone_20 : decode cX10_tone 20 = .ok (.irem, 1) := by decide +kernel
theorem dX10_tone_21 : decode cX10_tone 21 = .ok (.sipush 128, 3) := by decide +kernel
theorem dX10_tone_24 : decode cX10_tone 24 = .ok (.isub, 1) := by decide +kernel
theorem dX10_tone_25 : decode cX10_tone 25 = .ok (.i2d, 1) := by decide +kernel
theorem dX10_tone_26 : decode cX10_tone 26 = .ok (.goto 4, 3) := by decide +kernel
theorem dX10_tone_29 : decode cX10_tone 29 = .ok (.dconst 0, 1) := by decide +kernel
theorem dX10_tone_30 : decode cX10_tone 30 = .ok (.dreturn, 1) := by decide +kernel
set_option maxRecDepth 20000 in
theorem ggX10_drum_X10_failed : GoodIn wsX10_drum wsX10_failed := goodIn_r _ [8, 9, 10, 11, 12, 13, 14, 15, 16, 17, 18, 19, 20, 21, 22, 23, 24, 25, 26, 27, 28, 29, 30] (by decide +kernel) (by decide +kernel)
set_option maxRecDepth 20000 in
theorem gX10_drum_X10_failed : GoodIn wsX10_drum (wsV RX10 115 RX10 yX10_failed wsX10_failed) := goodIn_app (goodIn_of _ (by decide +kernel)) ggX10_drum_X10_failed
theorem dX10_drum_0 : decode cX10_drum 0 = .ok (.aload_n 0, 1) := by decide +kernel
theorem dX10_drum_1 : decode cX10_drum 1 = .ok (.getfield 29, 3) := by decide +kernel
theorem dX10_drum_4 : decode cX10_drum 4 = .ok (.iconst 4, 1) := by decide +kernel
theorem dX10_drum_5 : decode cX10_drum 5 = .ok (.iload_n 1, 1) := by decide +kernel
theorem dX10_drum_6 : decode cX10_drum 6 = .ok (.imul, 1) := by decide +kernel
theorem dX10_drum_7 : decode cX10_drum 7 = .ok (.iconst 1, 1) := by decide +kernel
theorem dX10_drum_8 : decode cX10_drum 8 = .ok (.iadd, 1) := by decide +kernel
theorem dX10_drum_9 : decode cX10_drum 9 = .ok (.iaload, 1) := by decide +kernel
theorem dX10_drum_10 : decode cX10_drum 10 = .ok (.istore_n 2, 1) := by decide +kernel
theorem dX10_drum_11 : decode cX10_drum 11 = .ok (.iload_n 2, 1) := by decide +kernel
theorem dX10_drum_12 : decode cX10_drum 12 = .ok (.ifCond .ne 10, 3) := by decide +kernel
theorem dX10_drum_15 : decode cX10_drum 15 = .ok (.aload_n 0, 1) := by decide +kernel
theorem dX10_drum_16 : decode cX10_drum 16 = .ok (.bipush (-4), 2) := by decide +kernel
theorem dX10_drum_18 : decode cX10_drum 18 = .ok (.invokevirtual 115, 3) := by decide +kernel
theorem dX10_drum_21 : decode cX10_drum 21 = .ok (.dreturn, 1) := by decide +kernel
theorem dX10_drum_22 : decode cX10_drum 22 = .ok (.aload_n 0, 1) := by decide +kernel
theorem dX10_drum_23 : decode cX10_drum 23 = .ok (.getfield 42, 3) := by decide +kernel
theorem dX10_drum_26 : decode cX10_drum 26 = .ok (.iload_n 1, 1) := by decide +kernel
theorem dX10_drum_27 : decode cX10_drum 27 = .ok (.daload, 1) := by decide +kernel
theorem dX10_drum_28 : decode cX10_drum 28 = .ok (.dstore_n 3, 1) := by decide +kernel
theorem dX10_drum_29 : decode cX10_drum 29 = .ok (.aload_n 0, 1) := by decide +kernel
theorem dX10_drum_30 : decode cX10_drum 30 = .ok (.getfield 42, 3) := by decide +kernel
theorem dX10_drum_33 : decode cX10_drum 33 = .ok (.iload_n 1, 1) := by decide +kernel
theorem dX10_drum_34 : decode cX10_drum 34 = .ok (.dload_n 3, 1) := by decide +kernel
theorem dX10_drum_35 : decode cX10_drum 35 = .ok (.sipush 1000, 3) := by decide +kernel
theorem dX10_drum_38 : decode cX10_drum 38 = .ok (.iload_n 2, 1) := by decide +kernel
theorem dX10_drum_39 : decode cX10_drum 39 = .ok (.idiv, 1) := by decide +kernel
theorem dX10_drum_40 : decode cX10_drum 40 = .ok (.i2d, 1) := by decide +kernel
theorem dX10_drum_41 : decode cX10_drum 41 = .ok (.dmul, 1) := by decide +kernel
theorem dX10_drum_42 : decode cX10_drum 42 = .ok (.ldc2_w 119, 3) := by decide +kernel
theorem dX10_drum_45 : decode cX10_drum 45 = .ok (.ddiv, 1) := by decide +kernel
theorem dX10_drum_46 : decode cX10_drum 46 = .ok (.dastore, 1) := by decide +kernel
theorem dX10_drum_47 : decode cX10_drum 47 = .ok (.dload_n 3, 1) := by decide +kernel
theorem dX10_drum_48 : decode cX10_drum 48 = .ok (.dreturn, 1) := by decide +kernel
set_option maxRecDepth 20000 in
theorem ggX10_reader_X10_failed : GoodIn wsX10_reader wsX10_failed := goodIn_r _ [11, 12, 16, 17, 18, 19, 20, 21, 22, 23, 24, 25, 26, 27, 28, 29, 30, 31, 32, 33, 34, 35, 36] (by decide +kernel) (by decide +kernel)
set_option maxRecDepth 20000 in
theorem gX10_reader_X10_failed : GoodIn wsX10_reader (wsV RX10 115 RX10 yX10_failed wsX10_failed) := goodIn_app (goodIn_of _ (by decide +kernel)) ggX10_reader_X10_failed
set_option maxRecDepth 20000 in
theorem ggX10_reader_X10_in : GoodIn wsX10_reader wsX10_in := goodIn_r _ [15] (by decide +kernel) (by decide +kernel)
set_option maxRecDepth 20000 in
theorem gX10_reader_X10_in : GoodIn wsX10_reader (va_wsS RX10 68 yX10_in wsX10_in) := goodIn_app (goodIn_of _ (by decide +kernel)) ggX10_reader_X10_in
theorem dX10_reader_0 : decode cX10_reader 0 = .ok (.aload_n 0, 1) := by decide +kernel
theorem dX10_reader_1 : decode cX10_reader 1 = .ok (.getfield 35, 3) := by decide +kernel
theorem dX10_reader_4 : decode cX10_reader 4 = .ok (.iload_n 1, 1) := by decide +kernel
theorem dX10_reader_5 : decode cX10_reader 5 = .ok (.baload, 1) := by decide +kernel
theorem dX10_reader_6 : decode cX10_reader 6 = .ok (.ifCond .ne 17, 3) := by decide +kernel
theorem dX10_reader_9 : decode cX10_reader 9 = .ok (.iload_n 2, 1) := by decide +kernel
theorem dX10_reader_10 : decode cX10_reader 10 = .ok (.bipush 8, 2) := by decide +kernel
theorem dX10_reader_12 : decode cX10_reader 12 = .ok (.irem, 1) := by decide +kernel
theorem dX10_reader_13 : decode cX10_reader 13 = .ok (.ifCond .ge 10, 3) := by decide +kernel
theorem dX10_reader_16 : decode cX10_reader 16 = .ok (.aload_n 0, 1) := by decide +kernel
theorem dX10_reader_17 : decode cX10_reader 17 = .ok (.bipush (-8), 2) := by decide +kernel
theorem dX10_reader_19 : decode cX10_reader 19 = .ok (.invokevirtual 115, 3) := by decide +kernel
theorem dX10_reader_22 : decode cX10_reader 22 = .ok (.dreturn, 1) := by decide +kernel
theorem dX10_reader_23 : decode cX10_reader 23 = .ok (.aload_n 0, 1) := by decide +kernel
theorem dX10_reader_24 : decode cX10_reader 24 = .ok (.getfield 13, 3) := by decide +kernel
theorem dX10_reader_27 : decode cX10_reader 27 = .ok (.iload_n 1, 1) := by decide +kernel
theorem dX10_reader_28 : decode cX10_reader 28 = .ok (.iaload, 1) := by decide +kernel
theorem dX10_reader_29 : decode cX10_reader 29 = .ok (.istore_n 3, 1) := by decide +kernel
theorem dX10_reader_30 : decode cX10_reader 30 = .ok (.iload_n 2, 1) := by decide +kernel
theorem dX10_reader_31 : decode cX10_reader 31 = .ok (.aload_n 0, 1) := by decide +kernel
theorem dX10_reader_32 : decode cX10_reader 32 = .ok (.getfield 29, 3) := by decide +kernel
theorem dX10_reader_35 : decode cX10_reader 35 = .ok (.iconst 4, 1) := by decide +kernel
theorem dX10_reader_36 : decode cX10_reader 36 = .ok (.iload_n 1, 1) := by decide +kernel
theorem dX10_reader_37 : decode cX10_reader 37 = .ok (.imul, 1) := by decide +kernel
theorem dX10_reader_38 : decode cX10_reader 38 = .ok (.iaload, 1) := by decide +kernel
theorem dX10_reader_39 : decode cX10_reader 39 = .ok (.iadd, 1) := by decide +kernel
theorem dX10_reader_40 : decode cX10_reader 40 = .ok (.istore 4, 2) := by decide +kernel
theorem dX10_reader_42 : decode cX10_reader 42 = .ok (.iload_n 3, 1) := by decide +kernel
theorem dX10_reader_43 : decode cX10_reader 43 = .ok (.ifCond .ge 10, 3) := by decide +kernel
theorem dX10_reader_46 : decode cX10_reader 46 = .ok (.aload_n 0, 1) := by decide +kernel
theorem dX10_reader_47 : decode cX10_reader 47 = .ok (.bipush (-5), 2) := by decide +kernel
theorem dX10_reader_49 : decode cX10_reader 49 = .ok (.invokevirtual 115, 3) := by decide +kernel
theorem dX10_reader_52 : decode cX10_reader 52 = .ok (.dreturn, 1) := by decide +kernel
theorem dX10_reader_53 : decode cX10_reader 53 = .ok (.aload_n 0, 1) := by decide +kernel
theorem dX10_reader_54 : decode cX10_reader 54 = .ok (.getfield 16, 3) := by decide +kernel
theorem dX10_reader_57 : decode cX10_reader 57 = .ok (.iload_n 3, 1) := by decide +kernel
theorem dX10_reader_58 : decode cX10_reader 58 = .ok (.iaload, 1) := by decide +kernel
theorem dX10_reader_59 : decode cX10_reader 59 = .ok (.iconst 1, 1) := by decide +kernel
theorem dX10_reader_60 : decode cX10_reader 60 = .ok (.if_icmp .eq 10, 3) := by decide +kernel
theorem dX10_reader_63 : decode cX10_reader 63 = .ok (.aload_n 0, 1) := by decide +kernel
theorem dX10_reader_64 : decode cX10_reader 64 = .ok (.bipush (-6), 2) := by decide +kernel
theorem dX10_reader_66 : decode cX10_reader 66 = .ok (.invokevirtual 115, 3) := by decide +kernel
theorem dX10_reader_69 : decode cX10_reader 69 = .ok (.dreturn, 1) := by decide +kernel
theorem dX10_reader_70 : decode cX10_reader 70 = .ok (.iload 4, 2) := by decide +kernel
theorem dX10_reader_72 : decode cX10_reader 72 = .ok (.iconst 0, 1) := by decide +kernel
theorem dX10_reader_73 : decode cX10_reader 73 = .ok (.aload_n 0, 1) := by decide +kernel
theorem dX10_reader_74 : decode cX10_reader 74 = .ok (.getfield 19, 3) := by decide +kernel
theorem dX10_reader_77 : decode cX10_reader 77 = .ok (.iload_n 3, 1) := by decide +kernel
theorem dX10_reader_78 : decode cX10_reader 78 = .ok (.iaload, 1) := by decide +kernel
theorem dX10_reader_79 : decode cX10_reader 79 = .ok (.iconst 1, 1) := by decide +kernel
theorem dX10_reader_80 : decode cX10_reader 80 = .ok (.isub, 1) := by decide +kernel
theorem dX10_reader_81 : decode cX10_reader 81 = .ok (.invokestatic 68, 3) := by decide +kernel
theorem dX10_reader_84 : decode cX10_reader 84 = .ok (.ifCond .ne 10, 3) := by decide +kernel
theorem dX10_reader_87 : decode cX10_reader 87 = .ok (.aload_n 0, 1) := by decide +kernel
theorem dX10_reader_88 : decode cX10_reader 88 = .ok (.bipush (-7), 2) := by decide +kernel
theorem dX10_reader_90 : decode cX10_reader 90 = .ok (.invokevirtual 115, 3) := by decide +kernel
theorem dX10_reader_93 : decode cX10_reader 93 = .ok (.dreturn, 1) := by decide +kernel
theorem dX10_reader_94 : decode cX10_reader 94 = .ok (.aload_n 0, 1) := by decide +kernel
theorem dX10_reader_95 : decode cX10_reader 95 = .ok (.getfield 22, 3) := by decide +kernel
theorem dX10_reader_98 : decode cX10_reader 98 = .ok (.bipush 40, 2) := by decide +kernel
theorem dX10_reader_100 : decode cX10_reader 100 = .ok (.iload_n 3, 1) := by decide +kernel
theorem dX10_reader_101 : decode cX10_reader 101 = .ok (.imul, 1) := by decide +kernel
theorem dX10_reader_102 : decode cX10_reader 102 = .ok (.iload 4, 2) := by decide +kernel
theorem dX10_reader_104 : decode cX10_reader 104 = .ok (.iadd, 1) := by decide +kernel
theorem dX10_reader_105 : decode cX10_reader 105 = .ok (.laload, 1) := by decide +kernel
theorem dX10_reader_106 : decode cX10_reader 106 = .ok (.l2d, 1) := by decide +kernel
theorem dX10_reader_107 : decode cX10_reader 107 = .ok (.dreturn, 1) := by decide +kernel
set_option maxRecDepth 20000 in
theorem ggX10_sample_X10_tone : GoodIn wsX10_sample wsX10_tone := goodIn_r _ [11, 12, 13, 35, 36, 37, 38, 39, 40, 41, 42, 43, 44, 45, 46, 47, 48, 49, 50, 51, 52, 53, 54, 55] (by decide +kernel) (by decide +kernel)
set_option maxRecDepth 20000 in
theorem gX10_sample_X10_tone : GoodIn wsX10_sample (wsV RX10 121 RX10 yX10_tone wsX10_tone) := goodIn_app (goodIn_of _ (by decide +kernel)) ggX10_sample_X10_tone
set_option maxRecDepth 20000 in
theorem ggX10_sample_X10_drum : GoodIn wsX10_sample wsX10_drum := goodIn_r _ [17, 5, 18, 19, 20, 21, 22, 10, 23, 2, 35, 36, 37, 38, 39, 40, 41, 42, 43, 44, 45, 46, 47, 48, 49, 50, 51, 52, 53, 54, 55] (by decide +kernel) (by decide +kernel)
set_option maxRecDepth 20000 in
theorem gX10_sample_X10_drum : GoodIn wsX10_sample (wsV RX10 127 RX10 yX10_drum wsX10_drum) := goodIn_app (goodIn_of _ (by decide +kernel)) ggX10_sample_X10_drum
set_option maxRecDepth 20000 in
theorem ggX10_sample_X10_failed : GoodIn wsX10_sample wsX10_failed := goodIn_r _ [23, 2, 35, 36, 37, 38, 39, 40, 41, 42, 43, 44, 45, 46, 47, 48, 49, 50, 51, 52, 53, 54, 55] (by decide +kernel) (by decide +kernel)
set_option maxRecDepth 20000 in
theorem gX10_sample_X10_failed : GoodIn wsX10_sample (wsV RX10 115 RX10 yX10_failed wsX10_failed) := goodIn_app (goodIn_of _ (by decide +kernel)) ggX10_sample_X10_failed
set_option maxRecDepth 20000 in
theorem ggX10_sample_X10_reader : GoodIn wsX10_sample wsX10_reader := goodIn_r _ [27, 12, 28, 5, 29, 30, 31, 20, 21, 22, 10, 23, 2, 32, 33, 34, 35, 36, 37, 38, 39, 40, 41, 42, 43, 44, 45, 46, 47, 48, 49, 50, 51, 52, 53, 54, 55] (by decide +kernel) (by decide +kernel)
set_option maxRecDepth 20000 in
theorem gX10_sample_X10_reader : GoodIn wsX10_sample (wsV RX10 132 RX10 yX10_reader wsX10_reader) := goodIn_app (goodIn_of _ (by decide +kernel)) ggX10_sample_X10_reader
theorem dX10_sample_0 : decode cX10_sample 0 = .ok (.aload_n 0, 1) := by decide +kernel
theorem dX10_sample_1 : decode cX10_sample 1 = .ok (.getfield 39, 3) := by decide +kernel
theorem dX10_sample_4 : decode cX10_sample 4 = .ok (.iload_n 1, 1) := by decide +kernel
theorem dX10_sample_5 : decode cX10_sample 5 = .ok (.iaload, 1) := by decide +kernel
theorem dX10_sample_6 : decode cX10_sample 6 = .ok (.istore_n 2, 1) := by decide +kernel
theorem dX10_sample_7 : decode cX10_sample 7 = .ok (.aload_n 0, 1) := by decide +kernel
theorem dX10_sample_8 : decode cX10_sample 8 = .ok (.getfield 39, 3) := by decide +kernel
theorem dX10_sample_11 : decode cX10_sample 11 = .ok (.iload_n 1, 1) := by decide +kernel
theorem dX10_sample_12 : decode cX10_sample 12 = .ok (.iload_n 2, 1) := by decide +kernel
theorem dX10_sample_13 : decode cX10_sample 13 = .ok (.iconst 1, 1) := by decide +kernel
theorem dX10_sample_14 : decode cX10_sample 14 = .ok (.iadd, 1) := by decide +kernel
theorem dX10_sample_15 : decode cX10_sample 15 = .ok (.iastore, 1) := by decide +kernel
theorem dX10_sample_16 : decode cX10_sample 16 = .ok (.aload_n 0, 1) := by decide +kernel
theorem dX10_sample_17 : decode cX10_sample 17 = .ok (.iconst 0, 1) := by decide +kernel
theorem dX10_sample_18 : decode cX10_sample 18 = .ok (.putfield 112, 3) := by decide +kernel
theorem dX10_sample_21 : decode cX10_sample 21 = .ok (.aload_n 0, 1) := by decide +kernel
theorem dX10_sample_22 : decode cX10_sample 22 = .ok (.getfield 26, 3) := by decide +kernel
theorem dX10_sample_25 : decode cX10_sample 25 = .ok (.iload_n 1, 1) := by decide +kernel
theorem dX10_sample_26 : decode cX10_sample 26 = .ok (.iaload, 1) := by decide +kernel
theorem dX10_sample_27 : decode cX10_sample 27 = .ok (.istore_n 3, 1) := by decide +kernel
theorem dX10_sample_28 : decode cX10_sample 28 = .ok (.iload_n 3, 1) := by decide +kernel
theorem dX10_sample_29 : decode cX10_sample 29 = .ok (.ifCond .ne 10, 3) := by decide +kernel
theorem dX10_sample_32 : decode cX10_sample 32 = .ok (.aload_n 0, 1) := by decide +kernel
theorem dX10_sample_33 : decode cX10_sample 33 = .ok (.iload_n 1, 1) := by decide +kernel
theorem dX10_sample_34 : decode cX10_sample 34 = .ok (.iload_n 2, 1) := by decide +kernel
theorem dX10_sample_35 : decode cX10_sample 35 = .ok (.invokevirtual 121, 3) := by decide +kernel
theorem dX10_sample_38 : decode cX10_sample 38 = .ok (.dreturn, 1) := by decide +kernel
theorem dX10_sample_39 : decode cX10_sample 39 = .ok (.iload_n 3, 1) := by decide +kernel
theorem dX10_sample_40 : decode cX10_sample 40 = .ok (.iconst 1, 1) := by decide +kernel
theorem dX10_sample_41 : decode cX10_sample 41 = .ok (.if_icmp .ne 24, 3) := by decide +kernel
theorem dX10_sample_44 : decode cX10_sample 44 = .ok (.ldc2_w 125, 3) := by decide +kernel
theorem dX10_sample_47 : decode cX10_sample 47 = .ok (.aload_n 0, 1) := by decide +kernel
theorem dX10_sample_48 : decode cX10_sample 48 = .ok (.iload_n 1, 1) := by decide +kernel
theorem dX10_sample_49 : decode cX10_sample 49 = .ok (.iload_n 2, 1) := by decide +kernel
theorem dX10_sample_50 : decode cX10_sample 50 = .ok (.invokevirtual 121, 3) := by decide +kernel
theorem dX10_sample_53 : decode cX10_sample 53 = .ok (.dmul, 1) := by decide +kernel
theorem dX10_sample_54 : decode cX10_sample 54 = .ok (.aload_n 0, 1) := by decide +kernel
theorem dX10_sample_55 : decode cX10_sample 55 = .ok (.getfield 29, 3) := by decide +kernel
theorem dX10_sample_58 : decode cX10_sample 58 = .ok (.iconst 4, 1) := by decide +kernel
theorem dX10_sample_59 : decode cX10_sample 59 = .ok (.iload_n 1, 1) := by decide +kernel
theorem dX10_sample_60 : decode cX10_sample 60 = .ok (.imul, 1) := by decide +kernel
theorem dX10_sample_61 : decode cX10_sample 61 = .ok (.iaload, 1) := by decide +kernel
theorem dX10_sample_62 : decode cX10_sample 62 = .ok (.i2d, 1) := by decide +kernel
theorem dX10_sample_63 : decode cX10_sample 63 = .ok (.dadd, 1) := by decide +kernel
theorem dX10_sample_64 : decode cX10_sample 64 = .ok (.dreturn, 1) := by decide +kernel
theorem dX10_sample_65 : decode cX10_sample 65 = .ok (.iload_n 3, 1) := by decide +kernel
theorem dX10_sample_66 : decode cX10_sample 66 = .ok (.iconst 2, 1) := by decide +kernel
theorem dX10_sample_67 : decode cX10_sample 67 = .ok (.if_icmp .ne 9, 3) := by decide +kernel
theorem dX10_sample_70 : decode cX10_sample 70 = .ok (.aload_n 0, 1) := by decide +kernel
theorem dX10_sample_71 : decode cX10_sample 71 = .ok (.iload_n 1, 1) := by decide +kernel
theorem dX10_sample_72 : decode cX10_sample 72 = .ok (.invokevirtual 127, 3) := by decide +kernel
theorem dX10_sample_75 : decode cX10_sample 75 = .ok (.dreturn, 1) := by decide +kernel
theorem dX10_sample_76 : decode cX10_sample 76 = .ok (.iload_n 3, 1) := by decide +kernel
theorem dX10_sample_77 : decode cX10_sample 77 = .ok (.iconst 3, 1) := by decide +kernel
theorem dX10_sample_78 : decode cX10_sample 78 = .ok (.if_icmp .ne 49, 3) := by decide +kernel
theorem dX10_sample_81 : decode cX10_sample 81 = .ok (.iload_n 2, 1) := by decide +kernel
theorem dX10_sample_82 : decode cX10_sample 82 = .ok (.aload_n 0, 1) := by decide +kernel
theorem dX10_sample_83 : decode cX10_sample 83 = .ok (.getfield 29, 3) := by decide +kernel
theorem dX10_sample_86 : decode cX10_sample 86 = .ok (.iconst 4, 1) := by decide +kernel
theorem dX10_sample_87 : decode cX10_sample 87 = .ok (.iload_n 1, 1) := by decide +kernel
theorem dX10_sample_88 : decode cX10_sample 88 = .ok (.imul, 1) := by decide +kernel
theorem dX10_sample_89 : decode cX10_sample 89 = .ok (.iconst 2, 1) := by decide +kernel
theorem dX10_sample_90 : decode cX10_sample 90 = .ok (.iadd, 1) := by decide +kernel
theorem dX10_sample_91 : decode cX10_sample 91 = .ok (.iaload, 1) := by decide +kernel
theorem dX10_sample_92 : decode cX10_sample 92 = .ok (.if_icmp .ne 10, 3) := by decide +kernel
theorem dX10_sample_95 : decode cX10_sample 95 = .ok (.aload_n 0, 1) := by decide +kernel
theorem dX10_sample_96 : decode cX10_sample 96 = .ok (.bipush (-3), 2) := by decide +kernel
theorem dX10_sample_98 : decode cX10_sample 98 = .ok (.invokevirtual 115, 3) := by decide +kernel
theorem dX10_sample_101 : decode cX10_sample 101 = .ok (.dreturn, 1) := by decide +kernel
theorem dX10_sample_102 : decode cX10_sample 102 = .ok (.aload_n 0, 1) := by decide +kernel
theorem dX10_sample_103 : decode cX10_sample 103 = .ok (.iload_n 1, 1) := by decide +kernel
theorem dX10_sample_104 : decode cX10_sample 104 = .ok (.invokevirtual 127, 3) := by decide +kernel
theorem dX10_sample_107 : decode cX10_sample 107 = .ok (.dstore 4, 2) := by decide +kernel
theorem dX10_sample_109 : decode cX10_sample 109 = .ok (.iload_n 2, 1) := by decide +kernel
theorem dX10_sample_110 : decode cX10_sample 110 = .ok (.iconst 1, 1) := by decide +kernel
theorem dX10_sample_111 : decode cX10_sample 111 = .ok (.iand, 1) := by decide +kernel
theorem dX10_sample_112 : decode cX10_sample 112 = .ok (.ifCond .eq 12, 3) := by decide +kernel
theorem dX10_sample_115 : decode cX10_sample 115 = .ok (.ldc2_w 130, 3) := by decide +kernel
theorem dX10_sample_118 : decode cX10_sample 118 = .ok (.dload 4, 2) := by decide +kernel
theorem dX10_sample_120 : decode cX10_sample 120 = .ok (.dmul, 1) := by decide +kernel
theorem dX10_sample_121 : decode cX10_sample 121 = .ok (.goto 5, 3) := by decide +kernel
theorem dX10_sample_124 : decode cX10_sample 124 = .ok (.dload 4, 2) := by decide +kernel
theorem dX10_sample_126 : decode cX10_sample 126 = .ok (.dreturn, 1) := by decide +kernel
theorem dX10_sample_127 : decode cX10_sample 127 = .ok (.aload_n 0, 1) := by decide +kernel
theorem dX10_sample_128 : decode cX10_sample 128 = .ok (.iload_n 1, 1) := by decide +kernel
theorem dX10_sample_129 : decode cX10_sample 129 = .ok (.iload_n 2, 1) := by decide +kernel
theorem dX10_sample_130 : decode cX10_sample 130 = .ok (.invokevirtual 132, 3) := by decide +kernel
theorem dX10_sample_133 : decode cX10_sample 133 = .ok (.dreturn, 1) := by decide +kernel
set_option maxRecDepth 20000 in
theorem ggX10_isMinus_Jxe99ae_doubleToLongBits_ccdee : GoodIn wsX10_isMinus wsJxe99ae_doubleToLongBits_ccdee := goodIn_r _ [4, 5, 6, 7, 8, 9, 10, 11, 3, 12] (by decide +kernel) (by decide +kernel)
set_option maxRecDepth 20000 in
theorem gX10_isMinus_Jxe99ae_doubleToLongBits_ccdee : GoodIn wsX10_isMinus (va_wsS RX10 85 yJxe99ae_doubleToLongBits_ccdee wsJxe99ae_doubleToLongBits_ccdee) := goodIn_app (goodIn_of _ (by decide +kernel)) ggX10_isMinus_Jxe99ae_doubleToLongBits_ccdee
theorem dX10_isMinus_0 : decode cX10_isMinus 0 = .ok (.dload_n 0, 1) := by decide +kernel
theorem dX10_isMinus_1 : decode cX10_isMinus 1 = .ok (.invokestatic 85, 3) := by decide +kernel
theorem dX10_isMinus_4 : decode cX10_isMinus 4 = .ok (.lconst 0, 1) := by decide +kernel
theorem dX10_isMinus_5 : decode cX10_isMinus 5 = .ok (.lcmp, 1) := by decide +kernel
theorem dX10_isMinus_6 : decode cX10_isMinus 6 = .ok (.ifCond .ge 7, 3) := by decide +kernel
theorem dX10_isMinus_9 : decode cX10_isMinus 9 = .ok (.iconst 1, 1) := by decide +kernel
theorem dX10_isMinus_10 : decode cX10_isMinus 10 = .ok (.goto 4, 3) := by decide +kernel
theorem dX10_isMinus_13 : decode cX10_isMinus 13 = .ok (.iconst 0, 1) := by decide +kernel
theorem dX10_isMinus_14 : decode cX10_isMinus 14 = .ok (.ireturn, 1) := by decide +kernel
set_option maxRecDepth 20000 in
theorem ggX10_through_X10_isMinus : GoodIn wsX10_through wsX10_isMinus := goodIn_r _ [6, 7, 8, 9, 10, 11, 12, 13, 14, 15, 16, 17, 18] (by decide +kernel) (by decide +kernel)
set_option maxRecDepth 20000 in
theorem gX10_through_X10_isMinus : GoodIn wsX10_through (va_wsS RX10 135 yX10_isMinus wsX10_isMinus) := goodIn_app (goodIn_of _ (by decide +kernel)) ggX10_through_X10_isMinus
set_option maxRecDepth 20000 in
theorem ggX10_through_X10_failed : GoodIn wsX10_through wsX10_failed := goodIn_r _ [22, 23, 24, 25, 26, 27, 28, 29, 30, 31, 32, 33, 34, 35, 36, 37, 38, 39, 40, 41, 42, 43, 44] (by decide +kernel) (by decide +kernel)
set_option maxRecDepth 20000 in
theorem gX10_through_X10_failed : GoodIn wsX10_through (wsV RX10 115 RX10 yX10_failed wsX10_failed) := goodIn_app (goodIn_of _ (by decide +kernel)) ggX10_through_X10_failed
theorem dX10_through_0 : decode cX10_through 0 = .ok (.aload_n 0, 1) := by decide +kernel
theorem dX10_through_1 : decode cX10_through 1 = .ok (.getfield 49, 3) := by decide +kernel
theorem dX10_through_4 : decode cX10_through 4 = .ok (.iload_n 1, 1) := by decide +kernel
theorem dX10_through_5 : decode cX10_through 5 = .ok (.iaload, 1) := by decide +kernel
theorem dX10_through_6 : decode cX10_through 6 = .ok (.i2d, 1) := by decide +kernel
theorem dX10_through_7 : decode cX10_through 7 = .ok (.dstore 4, 2) := by decide +kernel
theorem dX10_through_9 : decode cX10_through 9 = .ok (.aload_n 0, 1) := by decide +kernel
theorem dX10_through_10 : decode cX10_through 10 = .ok (.getfield 46, 3) := by decide +kernel
theorem dX10_through_13 : decode cX10_through 13 = .ok (.iload_n 1, 1) := by decide +kernel
theorem dX10_through_14 : decode cX10_through 14 = .ok (.iaload, 1) := by decide +kernel
theorem dX10_through_15 : decode cX10_through 15 = .ok (.tableswitch 101 0 4 #[33, 38, 43, 71, 99], 33) := by decide +kernel
theorem dX10_through_48 : decode cX10_through 48 = .ok (.dload_n 2, 1) := by decide +kernel
theorem dX10_through_49 : decode cX10_through 49 = .ok (.dload 4, 2) := by decide +kernel
theorem dX10_through_51 : decode cX10_through 51 = .ok (.dadd, 1) := by decide +kernel
theorem dX10_through_52 : decode cX10_through 52 = .ok (.dreturn, 1) := by decide +kernel
theorem dX10_through_53 : decode cX10_through 53 = .ok (.dload_n 2, 1) := by decide +kernel
theorem dX10_through_54 : decode cX10_through 54 = .ok (.dload 4, 2) := by decide +kernel
theorem dX10_through_56 : decode cX10_through 56 = .ok (.dmul, 1) := by decide +kernel
theorem dX10_through_57 : decode cX10_through 57 = .ok (.dreturn, 1) := by decide +kernel
theorem dX10_through_58 : decode cX10_through 58 = .ok (.dload_n 2, 1) := by decide +kernel
theorem dX10_through_59 : decode cX10_through 59 = .ok (.dload 4, 2) := by decide +kernel
theorem dX10_through_61 : decode cX10_through 61 = .ok (.dcmp .g, 1) := by decide +kernel
theorem dX10_through_62 : decode cX10_through 62 = .ok (.ifCond .lt 17, 3) := by decide +kernel
theorem dX10_through_65 : decode cX10_through 65 = .ok (.dload_n 2, 1) := by decide +kernel
theorem dX10_through_66 : decode cX10_through 66 = .ok (.dload 4, 2) := by decide +kernel
theorem dX10_through_68 : decode cX10_through 68 = .ok (.dcmp .l, 1) := by decide +kernel
theorem dX10_through_69 : decode cX10_through 69 = .ok (.ifCond .ne 14, 3) := by decide +kernel
theorem dX10_through_72 : decode cX10_through 72 = .ok (.dload_n 2, 1) := by decide +kernel
theorem dX10_through_73 : decode cX10_through 73 = .ok (.invokestatic 135, 3) := by decide +kernel
theorem dX10_through_76 : decode cX10_through 76 = .ok (.ifCond .eq 7, 3) := by decide +kernel
theorem dX10_through_79 : decode cX10_through 79 = .ok (.dload_n 2, 1) := by decide +kernel
theorem dX10_through_80 : decode cX10_through 80 = .ok (.goto 5, 3) := by decide +kernel
theorem dX10_through_83 : decode cX10_through 83 = .ok (.dload 4, 2) := by decide +kernel
theorem dX10_through_85 : decode cX10_through 85 = .ok (.dreturn, 1) := by decide +kernel
theorem dX10_through_86 : decode cX10_through 86 = .ok (.dload_n 2, 1) := by decide +kernel
theorem dX10_through_87 : decode cX10_through 87 = .ok (.dload 4, 2) := by decide +kernel
theorem dX10_through_89 : decode cX10_through 89 = .ok (.dcmp .l, 1) := by decide +kernel
theorem dX10_through_90 : decode cX10_through 90 = .ok (.ifCond .gt 17, 3) := by decide +kernel
theorem dX10_through_93 : decode cX10_through 93 = .ok (.dload_n 2, 1) := by decide +kernel
theorem dX10_through_94 : decode cX10_through 94 = .ok (.dload 4, 2) := by decide +kernel
theorem dX10_through_96 : decode cX10_through 96 = .ok (.dcmp .l, 1) := by decide +kernel
theorem dX10_through_97 : decode cX10_through 97 = .ok (.ifCond .ne 14, 3) := by decide +kernel
theorem dX10_through_100 : decode cX10_through 100 = .ok (.dload_n 2, 1) := by decide +kernel
theorem dX10_through_101 : decode cX10_through 101 = .ok (.invokestatic 135, 3) := by decide +kernel
theorem dX10_through_104 : decode cX10_through 104 = .ok (.ifCond .ne 7, 3) := by decide +kernel
theorem dX10_through_107 : decode cX10_through 107 = .ok (.dload_n 2, 1) := by decide +kernel
theorem dX10_through_108 : decode cX10_through 108 = .ok (.goto 5, 3) := by decide +kernel
theorem dX10_through_111 : decode cX10_through 111 = .ok (.dload 4, 2) := by decide +kernel
theorem dX10_through_113 : decode cX10_through 113 = .ok (.dreturn, 1) := by decide +kernel
theorem dX10_through_114 : decode cX10_through 114 = .ok (.dload_n 2, 1) := by decide +kernel
theorem dX10_through_115 : decode cX10_through 115 = .ok (.dreturn, 1) := by decide +kernel
theorem dX10_through_116 : decode cX10_through 116 = .ok (.dload_n 2, 1) := by decide +kernel
theorem dX10_through_117 : decode cX10_through 117 = .ok (.dload 4, 2) := by decide +kernel
theorem dX10_through_119 : decode cX10_through 119 = .ok (.dcmp .l, 1) := by decide +kernel
theorem dX10_through_120 : decode cX10_through 120 = .ok (.ifCond .ne 12, 3) := by decide +kernel
theorem dX10_through_123 : decode cX10_through 123 = .ok (.aload_n 0, 1) := by decide +kernel
theorem dX10_through_124 : decode cX10_through 124 = .ok (.bipush (-3), 2) := by decide +kernel
theorem dX10_through_126 : decode cX10_through 126 = .ok (.invokevirtual 115, 3) := by decide +kernel
theorem dX10_through_129 : decode cX10_through 129 = .ok (.goto 4, 3) := by decide +kernel
theorem dX10_through_132 : decode cX10_through 132 = .ok (.dload_n 2, 1) := by decide +kernel
theorem dX10_through_133 : decode cX10_through 133 = .ok (.dreturn, 1) := by decide +kernel
set_option maxRecDepth 20000 in
theorem ggX10_play_X10_isInstrument : GoodIn wsX10_play wsX10_isInstrument := goodIn_r _ [14, 15, 16, 17, 13, 18, 90, 91, 92, 93, 94, 95, 96, 97, 98, 99, 100, 101, 102, 103, 104, 105, 106, 107, 108, 109, 110] (by decide +kernel) (by decide +kernel)
set_option maxRecDepth 20000 in
theorem gX10_play_X10_isInstrument : GoodIn wsX10_play (wsV RX10 91 RX10 yX10_isInstrument wsX10_isInstrument) := goodIn_app (goodIn_of _ (by decide +kernel)) ggX10_play_X10_isInstrument
set_option maxRecDepth 20000 in
theorem ggX10_play_X10_in : GoodIn wsX10_play wsX10_in := goodIn_r _ [18] (by decide +kernel) (by decide +kernel)
set_option maxRecDepth 20000 in
theorem gX10_play_X10_in : GoodIn wsX10_play (va_wsS RX10 68 yX10_in wsX10_in) := goodIn_app (goodIn_of _ (by decide +kernel)) ggX10_play_X10_in
set_option maxRecDepth 20000 in
theorem ggX10_play_X10_says : GoodIn wsX10_play wsX10_says := goodIn_r _ [22, 23, 90, 91, 92, 93, 94, 95, 96, 97, 98, 99, 100, 101, 102, 103, 104, 105, 106, 107, 108, 109, 110] (by decide +kernel) (by decide +kernel)
set_option maxRecDepth 20000 in
theorem gX10_play_X10_says : GoodIn wsX10_play (wsV RX10 102 RX10 yX10_says wsX10_says) := goodIn_app (goodIn_of _ (by decide +kernel)) ggX10_play_X10_says
set_option maxRecDepth 20000 in
theorem ggX10_play_X10_sample : GoodIn wsX10_play wsX10_sample := goodIn_r _ [27, 28, 8, 29, 30, 31, 32, 33, 34, 35, 13, 36, 37, 38, 39, 40, 41, 42, 43, 44, 45, 46, 47, 48, 49, 50, 51, 52, 53, 4, 5, 9, 16, 17, 18, 90, 91, 92, 93, 94, 95, 96, 97, 98, 99, 100, 101, 102, 103, 104, 105, 106, 107, 108, 109, 110] (by decide +kernel) (by decide +kernel)
set_option maxRecDepth 20000 in
theorem gX10_play_X10_sample : GoodIn wsX10_play (wsV RX10 139 RX10 yX10_sample wsX10_sample) := goodIn_app (goodIn_of _ (by decide +kernel)) ggX10_play_X10_sample
set_option maxRecDepth 20000 in
theorem ggX10_play_X10_through : GoodIn wsX10_play wsX10_through := goodIn_r _ [57, 58, 59, 60, 61, 13, 62, 63, 64, 65, 66, 67, 68, 69, 70, 71, 72, 73, 74, 45, 46, 47, 48, 8, 90, 91, 92, 93, 94, 95, 96, 97, 98, 99, 100, 101, 102, 103, 104, 105, 106, 107, 108, 109, 110] (by decide +kernel) (by decide +kernel)
set_option maxRecDepth 20000 in
theorem gX10_play_X10_through : GoodIn wsX10_play (wsV RX10 142 RX10 yX10_through wsX10_through) := goodIn_app (goodIn_of _ (by decide +kernel)) ggX10_play_X10_through
set_option maxRecDepth 20000 in
theorem ggX10_play_X10_cast : GoodIn wsX10_play wsX10_cast := goodIn_r _ [77, 78, 79, 80, 81, 82, 83, 84, 85, 86, 87, 88, 89, 63, 64, 65, 66, 67, 68, 69, 70, 71, 72, 73, 74] (by decide +kernel) (by decide +kernel)
set_option maxRecDepth 20000 in
theorem gX10_play_X10_cast : GoodIn wsX10_play (va_wsS RX10 105 yX10_cast wsX10_cast) := goodIn_app (goodIn_of _ (by decide +kernel)) ggX10_play_X10_cast
theorem dX10_play_0 : decode cX10_play 0 = .ok (.aload_n 0, 1) := by decide +kernel
theorem dX10_play_1 : decode cX10_play 1 = .ok (.iload_n 1, 1) := by decide +kernel
theorem dX10_play_2 : decode cX10_play 2 = .ok (.invokevirtual 91, 3) := by decide +kernel
theorem dX10_play_5 : decode cX10_play 5 = .ok (.ifCond .eq 42, 3) := by decide +kernel
theorem dX10_play_8 : decode cX10_play 8 = .ok (.iload_n 2, 1) := by decide +kernel
theorem dX10_play_9 : decode cX10_play 9 = .ok (.iconst 0, 1) := by decide +kernel
theorem dX10_play_10 : decode cX10_play 10 = .ok (.iconst 2, 1) := by decide +kernel
theorem dX10_play_11 : decode cX10_play 11 = .ok (.invokestatic 68, 3) := by decide +kernel
theorem dX10_play_14 : decode cX10_play 14 = .ok (.ifCond .eq 33, 3) := by decide +kernel
theorem dX10_play_17 : decode cX10_play 17 = .ok (.iload 4, 2) := by decide +kernel
theorem dX10_play_19 : decode cX10_play 19 = .ok (.iconst 0, 1) := by decide +kernel
theorem dX10_play_20 : decode cX10_play 20 = .ok (.bipush 9, 2) := by decide +kernel
theorem dX10_play_22 : decode cX10_play 22 = .ok (.invokestatic 68, 3) := by decide +kernel
theorem dX10_play_25 : decode cX10_play 25 = .ok (.ifCond .eq 22, 3) := by decide +kernel
theorem dX10_play_28 : decode cX10_play 28 = .ok (.iload_n 2, 1) := by decide +kernel
theorem dX10_play_29 : decode cX10_play 29 = .ok (.iconst 2, 1) := by decide +kernel
theorem dX10_play_30 : decode cX10_play 30 = .ok (.if_icmp .ne 23, 3) := by decide +kernel
theorem dX10_play_33 : decode cX10_play 33 = .ok (.iload_n 3, 1) := by decide +kernel
theorem dX10_play_34 : decode cX10_play 34 = .ok (.iconst 0, 1) := by decide +kernel
theorem dX10_play_35 : decode cX10_play 35 = .ok (.aload_n 0, 1) := by decide +kernel
theorem dX10_play_36 : decode cX10_play 36 = .ok (.getfield 109, 3) := by decide +kernel
theorem dX10_play_39 : decode cX10_play 39 = .ok (.iconst 1, 1) := by decide +kernel
theorem dX10_play_40 : decode cX10_play 40 = .ok (.isub, 1) := by decide +kernel
theorem dX10_play_41 : decode cX10_play 41 = .ok (.invokestatic 68, 3) := by decide +kernel
theorem dX10_play_44 : decode cX10_play 44 = .ok (.ifCond .ne 9, 3) := by decide +kernel
theorem dX10_play_47 : decode cX10_play 47 = .ok (.aload_n 0, 1) := by decide +kernel
theorem dX10_play_48 : decode cX10_play 48 = .ok (.iconst (-1), 1) := by decide +kernel
theorem dX10_play_49 : decode cX10_play 49 = .ok (.invokevirtual 102, 3) := by decide +kernel
theorem dX10_play_52 : decode cX10_play 52 = .ok (.ireturn, 1) := by decide +kernel
theorem dX10_play_53 : decode cX10_play 53 = .ok (.aload_n 0, 1) := by decide +kernel
theorem dX10_play_54 : decode cX10_play 54 = .ok (.getfield 7, 3) := by decide +kernel
theorem dX10_play_57 : decode cX10_play 57 = .ok (.iload 4, 2) := by decide +kernel
theorem dX10_play_59 : decode cX10_play 59 = .ok (.iaload, 1) := by decide +kernel
theorem dX10_play_60 : decode cX10_play 60 = .ok (.istore 7, 2) := by decide +kernel
theorem dX10_play_62 : decode cX10_play 62 = .ok (.iload 7, 2) := by decide +kernel
theorem dX10_play_64 : decode cX10_play 64 = .ok (.ifCond .ge 8, 3) := by decide +kernel
theorem dX10_play_67 : decode cX10_play 67 = .ok (.bipush (-5), 2) := by decide +kernel
theorem dX10_play_69 : decode cX10_play 69 = .ok (.goto 67, 3) := by decide +kernel
theorem dX10_play_72 : decode cX10_play 72 = .ok (.iload_n 2, 1) := by decide +kernel
theorem dX10_play_73 : decode cX10_play 73 = .ok (.iconst 1, 1) := by decide +kernel
theorem dX10_play_74 : decode cX10_play 74 = .ok (.if_icmp .ne 22, 3) := by decide +kernel
theorem dX10_play_77 : decode cX10_play 77 = .ok (.aload_n 0, 1) := by decide +kernel
theorem dX10_play_78 : decode cX10_play 78 = .ok (.getfield 61, 3) := by decide +kernel
theorem dX10_play_81 : decode cX10_play 81 = .ok (.aload_n 0, 1) := by decide +kernel
theorem dX10_play_82 : decode cX10_play 82 = .ok (.getfield 16, 3) := by decide +kernel
theorem dX10_play_85 : decode cX10_play 85 = .ok (.iload 7, 2) := by decide +kernel
theorem dX10_play_87 : decode cX10_play 87 = .ok (.iaload, 1) := by decide +kernel
theorem dX10_play_88 : decode cX10_play 88 = .ok (.if_icmp .eq 8, 3) := by decide +kernel
theorem dX10_play_91 : decode cX10_play 91 = .ok (.bipush (-6), 2) := by decide +kernel
theorem dX10_play_93 : decode cX10_play 93 = .ok (.goto 43, 3) := by decide +kernel
theorem dX10_play_96 : decode cX10_play 96 = .ok (.iload 6, 2) := by decide +kernel
theorem dX10_play_98 : decode cX10_play 98 = .ok (.ifCond .ge 8, 3) := by decide +kernel
theorem dX10_play_101 : decode cX10_play 101 = .ok (.bipush (-8), 2) := by decide +kernel
theorem dX10_play_103 : decode cX10_play 103 = .ok (.goto 33, 3) := by decide +kernel
theorem dX10_play_106 : decode cX10_play 106 = .ok (.iload 5, 2) := by decide +kernel
theorem dX10_play_108 : decode cX10_play 108 = .ok (.ifCond .lt 22, 3) := by decide +kernel
theorem dX10_play_111 : decode cX10_play 111 = .ok (.iload 5, 2) := by decide +kernel
theorem dX10_play_113 : decode cX10_play 113 = .ok (.i2l, 1) := by decide +kernel
theorem dX10_play_114 : decode cX10_play 114 = .ok (.iload 6, 2) := by decide +kernel
theorem dX10_play_116 : decode cX10_play 116 = .ok (.i2l, 1) := by decide +kernel
theorem dX10_play_117 : decode cX10_play 117 = .ok (.ladd, 1) := by decide +kernel
theorem dX10_play_118 : decode cX10_play 118 = .ok (.aload_n 0, 1) := by decide +kernel
theorem dX10_play_119 : decode cX10_play 119 = .ok (.getfield 19, 3) := by decide +kernel
theorem dX10_play_122 : decode cX10_play 122 = .ok (.iload 7, 2) := by decide +kernel
theorem dX10_play_124 : decode cX10_play 124 = .ok (.iaload, 1) := by decide +kernel
theorem dX10_play_125 : decode cX10_play 125 = .ok (.i2l, 1) := by decide +kernel
theorem dX10_play_126 : decode cX10_play 126 = .ok (.lcmp, 1) := by decide +kernel
theorem dX10_play_127 : decode cX10_play 127 = .ok (.ifCond .le 8, 3) := by decide +kernel
theorem dX10_play_130 : decode cX10_play 130 = .ok (.bipush (-7), 2) := by decide +kernel
theorem dX10_play_132 : decode cX10_play 132 = .ok (.goto 4, 3) := by decide +kernel
theorem dX10_play_135 : decode cX10_play 135 = .ok (.iconst 0, 1) := by decide +kernel
theorem dX10_play_136 : decode cX10_play 136 = .ok (.istore 8, 2) := by decide +kernel
theorem dX10_play_138 : decode cX10_play 138 = .ok (.iload 8, 2) := by decide +kernel
theorem dX10_play_140 : decode cX10_play 140 = .ok (.ifCond .eq 20, 3) := by decide +kernel
theorem dX10_play_143 : decode cX10_play 143 = .ok (.aload_n 0, 1) := by decide +kernel
theorem dX10_play_144 : decode cX10_play 144 = .ok (.getfield 52, 3) := by decide +kernel
theorem dX10_play_147 : decode cX10_play 147 = .ok (.iconst 1, 1) := by decide +kernel
theorem dX10_play_148 : decode cX10_play 148 = .ok (.dup2, 1) := by decide +kernel
theorem dX10_play_149 : decode cX10_play 149 = .ok (.iaload, 1) := by decide +kernel
theorem dX10_play_150 : decode cX10_play 150 = .ok (.iconst 1, 1) := by decide +kernel
theorem dX10_play_151 : decode cX10_play 151 = .ok (.iadd, 1) := by decide +kernel
theorem dX10_play_152 : decode cX10_play 152 = .ok (.iastore, 1) := by decide +kernel
theorem dX10_play_153 : decode cX10_play 153 = .ok (.aload_n 0, 1) := by decide +kernel
theorem dX10_play_154 : decode cX10_play 154 = .ok (.iload 8, 2) := by decide +kernel
theorem dX10_play_156 : decode cX10_play 156 = .ok (.invokevirtual 102, 3) := by decide +kernel
theorem dX10_play_159 : decode cX10_play 159 = .ok (.ireturn, 1) := by decide +kernel
theorem dX10_play_160 : decode cX10_play 160 = .ok (.iconst 0, 1) := by decide +kernel
theorem dX10_play_161 : decode cX10_play 161 = .ok (.istore 9, 2) := by decide +kernel
theorem dX10_play_163 : decode cX10_play 163 = .ok (.iload 9, 2) := by decide +kernel
theorem dX10_play_165 : decode cX10_play 165 = .ok (.iload 6, 2) := by decide +kernel
theorem dX10_play_167 : decode cX10_play 167 = .ok (.if_icmp .ge 73, 3) := by decide +kernel
theorem dX10_play_170 : decode cX10_play 170 = .ok (.iload 8, 2) := by decide +kernel
theorem dX10_play_172 : decode cX10_play 172 = .ok (.ifCond .ne 68, 3) := by decide +kernel
theorem dX10_play_175 : decode cX10_play 175 = .ok (.aload_n 0, 1) := by decide +kernel
theorem dX10_play_176 : decode cX10_play 176 = .ok (.getfield 52, 3) := by decide +kernel
theorem dX10_play_179 : decode cX10_play 179 = .ok (.iconst 2, 1) := by decide +kernel
theorem dX10_play_180 : decode cX10_play 180 = .ok (.dup2, 1) := by decide +kernel
theorem dX10_play_181 : decode cX10_play 181 = .ok (.iaload, 1) := by decide +kernel
theorem dX10_play_182 : decode cX10_play 182 = .ok (.iconst 1, 1) := by decide +kernel
theorem dX10_play_183 : decode cX10_play 183 = .ok (.iadd, 1) := by decide +kernel
theorem dX10_play_184 : decode cX10_play 184 = .ok (.iastore, 1) := by decide +kernel
theorem dX10_play_185 : decode cX10_play 185 = .ok (.aload_n 0, 1) := by decide +kernel
theorem dX10_play_186 : decode cX10_play 186 = .ok (.getfield 55, 3) := by decide +kernel
theorem dX10_play_189 : decode cX10_play 189 = .ok (.iload 9, 2) := by decide +kernel
theorem dX10_play_191 : decode cX10_play 191 = .ok (.aload_n 0, 1) := by decide +kernel
theorem dX10_play_192 : decode cX10_play 192 = .ok (.iload_n 1, 1) := by decide +kernel
theorem dX10_play_193 : decode cX10_play 193 = .ok (.invokevirtual 139, 3) := by decide +kernel
theorem dX10_play_196 : decode cX10_play 196 = .ok (.dastore, 1) := by decide +kernel
theorem dX10_play_197 : decode cX10_play 197 = .ok (.aload_n 0, 1) := by decide +kernel
theorem dX10_play_198 : decode cX10_play 198 = .ok (.getfield 112, 3) := by decide +kernel
theorem dX10_play_201 : decode cX10_play 201 = .ok (.ifCond .ne 27, 3) := by decide +kernel
theorem dX10_play_204 : decode cX10_play 204 = .ok (.iload_n 2, 1) := by decide +kernel
theorem dX10_play_205 : decode cX10_play 205 = .ok (.iconst 2, 1) := by decide +kernel
theorem dX10_play_206 : decode cX10_play 206 = .ok (.if_icmp .ne 22, 3) := by decide +kernel
theorem dX10_play_209 : decode cX10_play 209 = .ok (.aload_n 0, 1) := by decide +kernel
theorem dX10_play_210 : decode cX10_play 210 = .ok (.getfield 55, 3) := by decide +kernel
theorem dX10_play_213 : decode cX10_play 213 = .ok (.iload 9, 2) := by decide +kernel
theorem dX10_play_215 : decode cX10_play 215 = .ok (.aload_n 0, 1) := by decide +kernel
theorem dX10_play_216 : decode cX10_play 216 = .ok (.iload_n 3, 1) := by decide +kernel
theorem dX10_play_217 : decode cX10_play 217 = .ok (.aload_n 0, 1) := by decide +kernel
theorem dX10_play_218 : decode cX10_play 218 = .ok (.getfield 55, 3) := by decide +kernel
theorem dX10_play_221 : decode cX10_play 221 = .ok (.iload 9, 2) := by decide +kernel
theorem dX10_play_223 : decode cX10_play 223 = .ok (.daload, 1) := by decide +kernel
theorem dX10_play_224 : decode cX10_play 224 = .ok (.invokevirtual 142, 3) := by decide +kernel
theorem dX10_play_227 : decode cX10_play 227 = .ok (.dastore, 1) := by decide +kernel
theorem dX10_play_228 : decode cX10_play 228 = .ok (.aload_n 0, 1) := by decide +kernel
theorem dX10_play_229 : decode cX10_play 229 = .ok (.getfield 112, 3) := by decide +kernel
theorem dX10_play_232 : decode cX10_play 232 = .ok (.istore 8, 2) := by decide +kernel
theorem dX10_play_234 : decode cX10_play 234 = .ok (.iinc 9 1, 3) := by decide +kernel
theorem dX10_play_237 : decode cX10_play 237 = .ok (.goto (-74), 3) := by decide +kernel
theorem dX10_play_240 : decode cX10_play 240 = .ok (.iconst 0, 1) := by decide +kernel
theorem dX10_play_241 : decode cX10_play 241 = .ok (.istore 9, 2) := by decide +kernel
theorem dX10_play_243 : decode cX10_play 243 = .ok (.iload 9, 2) := by decide +kernel
theorem dX10_play_245 : decode cX10_play 245 = .ok (.iload 6, 2) := by decide +kernel
theorem dX10_play_247 : decode cX10_play 247 = .ok (.if_icmp .ge 51, 3) := by decide +kernel
theorem dX10_play_250 : decode cX10_play 250 = .ok (.aload_n 0, 1) := by decide +kernel
theorem dX10_play_251 : decode cX10_play 251 = .ok (.getfield 22, 3) := by decide +kernel
theorem dX10_play_254 : decode cX10_play 254 = .ok (.bipush 40, 2) := by decide +kernel
theorem dX10_play_256 : decode cX10_play 256 = .ok (.iload 7, 2) := by decide +kernel
theorem dX10_play_258 : decode cX10_play 258 = .ok (.imul, 1) := by decide +kernel
theorem dX10_play_259 : decode cX10_play 259 = .ok (.iload 5, 2) := by decide +kernel
theorem dX10_play_261 : decode cX10_play 261 = .ok (.iadd, 1) := by decide +kernel
theorem dX10_play_262 : decode cX10_play 262 = .ok (.iload 9, 2) := by decide +kernel
theorem dX10_play_264 : decode cX10_play 264 = .ok (.iadd, 1) := by decide +kernel
theorem dX10_play_265 : decode cX10_play 265 = .ok (.iload 8, 2) := by decide +kernel
theorem dX10_play_267 : decode cX10_play 267 = .ok (.ifCond .ne 23, 3) := by decide +kernel
theorem dX10_play_270 : decode cX10_play 270 = .ok (.aload_n 0, 1) := by decide +kernel
theorem dX10_play_271 : decode cX10_play 271 = .ok (.getfield 16, 3) := by decide +kernel
theorem dX10_play_274 : decode cX10_play 274 = .ok (.iload 7, 2) := by decide +kernel
theorem dX10_play_276 : decode cX10_play 276 = .ok (.iaload, 1) := by decide +kernel
theorem dX10_play_277 : decode cX10_play 277 = .ok (.aload_n 0, 1) := by decide +kernel
theorem dX10_play_278 : decode cX10_play 278 = .ok (.getfield 55, 3) := by decide +kernel
theorem dX10_play_281 : decode cX10_play 281 = .ok (.iload 9, 2) := by decide +kernel
theorem dX10_play_283 : decode cX10_play 283 = .ok (.daload, 1) := by decide +kernel
theorem dX10_play_284 : decode cX10_play 284 = .ok (.invokestatic 105, 3) := by decide +kernel
theorem dX10_play_287 : decode cX10_play 287 = .ok (.goto 4, 3) := by decide +kernel
theorem dX10_play_290 : decode cX10_play 290 = .ok (.lconst 0, 1) := by decide +kernel
theorem dX10_play_291 : decode cX10_play 291 = .ok (.lastore, 1) := by decide +kernel
theorem dX10_play_292 : decode cX10_play 292 = .ok (.iinc 9 1, 3) := by decide +kernel
theorem dX10_play_295 : decode cX10_play 295 = .ok (.goto (-52), 3) := by decide +kernel
theorem dX10_play_298 : decode cX10_play 298 = .ok (.aload_n 0, 1) := by decide +kernel
theorem dX10_play_299 : decode cX10_play 299 = .ok (.getfield 52, 3) := by decide +kernel
theorem dX10_play_302 : decode cX10_play 302 = .ok (.iload 8, 2) := by decide +kernel
theorem dX10_play_304 : decode cX10_play 304 = .ok (.ifCond .ne 7, 3) := by decide +kernel
theorem dX10_play_307 : decode cX10_play 307 = .ok (.iconst 0, 1) := by decide +kernel
theorem dX10_play_308 : decode cX10_play 308 = .ok (.goto 4, 3) := by decide +kernel
theorem dX10_play_311 : decode cX10_play 311 = .ok (.iconst 1, 1) := by decide +kernel
theorem dX10_play_312 : decode cX10_play 312 = .ok (.dup2, 1) := by decide +kernel
theorem dX10_play_313 : decode cX10_play 313 = .ok (.iaload, 1) := by decide +kernel
theorem dX10_play_314 : decode cX10_play 314 = .ok (.iconst 1, 1) := by decide +kernel
theorem dX10_play_315 : decode cX10_play 315 = .ok (.iadd, 1) := by decide +kernel
theorem dX10_play_316 : decode cX10_play 316 = .ok (.iastore, 1) := by decide +kernel
theorem dX10_play_317 : decode cX10_play 317 = .ok (.aload_n 0, 1) := by decide +kernel
theorem dX10_play_318 : decode cX10_play 318 = .ok (.iload 8, 2) := by decide +kernel
theorem dX10_play_320 : decode cX10_play 320 = .ok (.ifCond .ne 8, 3) := by decide +kernel
theorem dX10_play_323 : decode cX10_play 323 = .ok (.iload 6, 2) := by decide +kernel
theorem dX10_play_325 : decode cX10_play 325 = .ok (.goto 5, 3) := by decide +kernel
theorem dX10_play_328 : decode cX10_play 328 = .ok (.iload 8, 2) := by decide +kernel
theorem dX10_play_330 : decode cX10_play 330 = .ok (.invokevirtual 102, 3) := by decide +kernel
theorem dX10_play_333 : decode cX10_play 333 = .ok (.ireturn, 1) := by decide +kernel
set_option maxRecDepth 20000 in
theorem ggX10_agree_X10_isInstrument : GoodIn wsX10_agree wsX10_isInstrument := goodIn_r _ [9, 10, 11, 12, 8, 13, 66, 67, 68, 69, 70, 71, 72, 73, 74, 75, 76, 77, 78, 79, 80, 81, 82, 83, 84, 85, 86] (by decide +kernel) (by decide +kernel)
set_option maxRecDepth 20000 in
theorem gX10_agree_X10_isInstrument : GoodIn wsX10_agree (wsV RX10 91 RX10 yX10_isInstrument wsX10_isInstrument) := goodIn_app (goodIn_of _ (by decide +kernel)) ggX10_agree_X10_isInstrument
set_option maxRecDepth 20000 in
theorem ggX10_agree_X10_in : GoodIn wsX10_agree wsX10_in := goodIn_r _ [13] (by decide +kernel) (by decide +kernel)
set_option maxRecDepth 20000 in
theorem gX10_agree_X10_in : GoodIn wsX10_agree (va_wsS RX10 68 yX10_in wsX10_in) := goodIn_app (goodIn_of _ (by decide +kernel)) ggX10_agree_X10_in
set_option maxRecDepth 20000 in
theorem ggX10_agree_X10_sample : GoodIn wsX10_agree wsX10_sample := goodIn_r _ [17, 2, 4, 18, 19, 20, 21, 22, 23, 24, 8, 25, 26, 27, 28, 29, 30, 31, 3, 32, 33, 34, 35, 36, 37, 38, 39, 40, 41, 42, 43, 44, 11, 12, 13, 66, 67, 68, 69, 70, 71, 72, 73, 74, 75, 76, 77, 78, 79, 80, 81, 82, 83, 84, 85, 86] (by decide +kernel) (by decide +kernel)
set_option maxRecDepth 20000 in
theorem gX10_agree_X10_sample : GoodIn wsX10_agree (wsV RX10 139 RX10 yX10_sample wsX10_sample) := goodIn_app (goodIn_of _ (by decide +kernel)) ggX10_agree_X10_sample
set_option maxRecDepth 20000 in
theorem ggX10_agree_X10_through : GoodIn wsX10_agree wsX10_through := goodIn_r _ [48, 49, 50, 51, 52, 8, 53, 54, 55, 56, 57, 58, 59, 60, 61, 62, 63, 64, 65, 33, 34, 35, 36, 4, 66, 67, 68, 69, 70, 71, 72, 73, 74, 75, 76, 77, 78, 79, 80, 81, 82, 83, 84, 85, 86] (by decide +kernel) (by decide +kernel)
set_option maxRecDepth 20000 in
theorem gX10_agree_X10_through : GoodIn wsX10_agree (wsV RX10 142 RX10 yX10_through wsX10_through) := goodIn_app (goodIn_of _ (by decide +kernel)) ggX10_agree_X10_through
theorem dX10_agree_0 : decode cX10_agree 0 = .ok (.aload_n 0, 1) := by decide +kernel
theorem dX10_agree_1 : decode cX10_agree 1 = .ok (.iload_n 1, 1) := by decide +kernel
theorem dX10_agree_2 : decode cX10_agree 2 = .ok (.invokevirtual 91, 3) := by decide +kernel
theorem dX10_agree_5 : decode cX10_agree 5 = .ok (.ifCond .eq 27, 3) := by decide +kernel
theorem dX10_agree_8 : decode cX10_agree 8 = .ok (.iload_n 2, 1) := by decide +kernel
theorem dX10_agree_9 : decode cX10_agree 9 = .ok (.iconst 0, 1) := by decide +kernel
theorem dX10_agree_10 : decode cX10_agree 10 = .ok (.aload_n 0, 1) := by decide +kernel
theorem dX10_agree_11 : decode cX10_agree 11 = .ok (.getfield 109, 3) := by decide +kernel
theorem dX10_agree_14 : decode cX10_agree 14 = .ok (.iconst 1, 1) := by decide +kernel
theorem dX10_agree_15 : decode cX10_agree 15 = .ok (.isub, 1) := by decide +kernel
theorem dX10_agree_16 : decode cX10_agree 16 = .ok (.invokestatic 68, 3) := by decide +kernel
theorem dX10_agree_19 : decode cX10_agree 19 = .ok (.ifCond .eq 13, 3) := by decide +kernel
theorem dX10_agree_22 : decode cX10_agree 22 = .ok (.iload_n 3, 1) := by decide +kernel
theorem dX10_agree_23 : decode cX10_agree 23 = .ok (.iconst 0, 1) := by decide +kernel
theorem dX10_agree_24 : decode cX10_agree 24 = .ok (.bipush 40, 2) := by decide +kernel
theorem dX10_agree_26 : decode cX10_agree 26 = .ok (.invokestatic 68, 3) := by decide +kernel
theorem dX10_agree_29 : decode cX10_agree 29 = .ok (.ifCond .ne 5, 3) := by decide +kernel
theorem dX10_agree_32 : decode cX10_agree 32 = .ok (.iconst 0, 1) := by decide +kernel
theorem dX10_agree_33 : decode cX10_agree 33 = .ok (.ireturn, 1) := by decide +kernel
theorem dX10_agree_34 : decode cX10_agree 34 = .ok (.aload_n 0, 1) := by decide +kernel
theorem dX10_agree_35 : decode cX10_agree 35 = .ok (.getfield 39, 3) := by decide +kernel
theorem dX10_agree_38 : decode cX10_agree 38 = .ok (.iload_n 1, 1) := by decide +kernel
theorem dX10_agree_39 : decode cX10_agree 39 = .ok (.iaload, 1) := by decide +kernel
theorem dX10_agree_40 : decode cX10_agree 40 = .ok (.istore 4, 2) := by decide +kernel
theorem dX10_agree_42 : decode cX10_agree 42 = .ok (.aload_n 0, 1) := by decide +kernel
theorem dX10_agree_43 : decode cX10_agree 43 = .ok (.getfield 42, 3) := by decide +kernel
theorem dX10_agree_46 : decode cX10_agree 46 = .ok (.iload_n 1, 1) := by decide +kernel
theorem dX10_agree_47 : decode cX10_agree 47 = .ok (.daload, 1) := by decide +kernel
theorem dX10_agree_48 : decode cX10_agree 48 = .ok (.dstore 5, 2) := by decide +kernel
theorem dX10_agree_50 : decode cX10_agree 50 = .ok (.iconst 1, 1) := by decide +kernel
theorem dX10_agree_51 : decode cX10_agree 51 = .ok (.istore 7, 2) := by decide +kernel
theorem dX10_agree_53 : decode cX10_agree 53 = .ok (.iconst 1, 1) := by decide +kernel
theorem dX10_agree_54 : decode cX10_agree 54 = .ok (.istore 8, 2) := by decide +kernel
theorem dX10_agree_56 : decode cX10_agree 56 = .ok (.iconst 0, 1) := by decide +kernel
theorem dX10_agree_57 : decode cX10_agree 57 = .ok (.istore 9, 2) := by decide +kernel
theorem dX10_agree_59 : decode cX10_agree 59 = .ok (.iload 9, 2) := by decide +kernel
theorem dX10_agree_61 : decode cX10_agree 61 = .ok (.iload_n 3, 1) := by decide +kernel
theorem dX10_agree_62 : decode cX10_agree 62 = .ok (.if_icmp .ge 70, 3) := by decide +kernel
theorem dX10_agree_65 : decode cX10_agree 65 = .ok (.iload 7, 2) := by decide +kernel
theorem dX10_agree_67 : decode cX10_agree 67 = .ok (.ifCond .eq 65, 3) := by decide +kernel
theorem dX10_agree_70 : decode cX10_agree 70 = .ok (.iload 8, 2) := by decide +kernel
theorem dX10_agree_72 : decode cX10_agree 72 = .ok (.ifCond .eq 60, 3) := by decide +kernel
theorem dX10_agree_75 : decode cX10_agree 75 = .ok (.aload_n 0, 1) := by decide +kernel
theorem dX10_agree_76 : decode cX10_agree 76 = .ok (.iload_n 1, 1) := by decide +kernel
theorem dX10_agree_77 : decode cX10_agree 77 = .ok (.invokevirtual 139, 3) := by decide +kernel
theorem dX10_agree_80 : decode cX10_agree 80 = .ok (.dstore 10, 2) := by decide +kernel
theorem dX10_agree_82 : decode cX10_agree 82 = .ok (.aload_n 0, 1) := by decide +kernel
theorem dX10_agree_83 : decode cX10_agree 83 = .ok (.getfield 112, 3) := by decide +kernel
theorem dX10_agree_86 : decode cX10_agree 86 = .ok (.ifCond .eq 9, 3) := by decide +kernel
theorem dX10_agree_89 : decode cX10_agree 89 = .ok (.iconst 0, 1) := by decide +kernel
theorem dX10_agree_90 : decode cX10_agree 90 = .ok (.istore 8, 2) := by decide +kernel
theorem dX10_agree_92 : decode cX10_agree 92 = .ok (.goto 34, 3) := by decide +kernel
theorem dX10_agree_95 : decode cX10_agree 95 = .ok (.aload_n 0, 1) := by decide +kernel
theorem dX10_agree_96 : decode cX10_agree 96 = .ok (.iload_n 2, 1) := by decide +kernel
theorem dX10_agree_97 : decode cX10_agree 97 = .ok (.dload 10, 2) := by decide +kernel
theorem dX10_agree_99 : decode cX10_agree 99 = .ok (.invokevirtual 142, 3) := by decide +kernel
theorem dX10_agree_102 : decode cX10_agree 102 = .ok (.dstore 12, 2) := by decide +kernel
theorem dX10_agree_104 : decode cX10_agree 104 = .ok (.aload_n 0, 1) := by decide +kernel
theorem dX10_agree_105 : decode cX10_agree 105 = .ok (.getfield 112, 3) := by decide +kernel
theorem dX10_agree_108 : decode cX10_agree 108 = .ok (.ifCond .ne 15, 3) := by decide +kernel
theorem dX10_agree_111 : decode cX10_agree 111 = .ok (.dload 10, 2) := by decide +kernel
theorem dX10_agree_113 : decode cX10_agree 113 = .ok (.dload 12, 2) := by decide +kernel
theorem dX10_agree_115 : decode cX10_agree 115 = .ok (.dcmp .l, 1) := by decide +kernel
theorem dX10_agree_116 : decode cX10_agree 116 = .ok (.ifCond .ne 7, 3) := by decide +kernel
theorem dX10_agree_119 : decode cX10_agree 119 = .ok (.iconst 1, 1) := by decide +kernel
theorem dX10_agree_120 : decode cX10_agree 120 = .ok (.goto 4, 3) := by decide +kernel
theorem dX10_agree_123 : decode cX10_agree 123 = .ok (.iconst 0, 1) := by decide +kernel
theorem dX10_agree_124 : decode cX10_agree 124 = .ok (.istore 7, 2) := by decide +kernel
theorem dX10_agree_126 : decode cX10_agree 126 = .ok (.iinc 9 1, 3) := by decide +kernel
theorem dX10_agree_129 : decode cX10_agree 129 = .ok (.goto (-70), 3) := by decide +kernel
theorem dX10_agree_132 : decode cX10_agree 132 = .ok (.aload_n 0, 1) := by decide +kernel
theorem dX10_agree_133 : decode cX10_agree 133 = .ok (.getfield 39, 3) := by decide +kernel
theorem dX10_agree_136 : decode cX10_agree 136 = .ok (.iload_n 1, 1) := by decide +kernel
theorem dX10_agree_137 : decode cX10_agree 137 = .ok (.iload 4, 2) := by decide +kernel
theorem dX10_agree_139 : decode cX10_agree 139 = .ok (.iastore, 1) := by decide +kernel
theorem dX10_agree_140 : decode cX10_agree 140 = .ok (.aload_n 0, 1) := by decide +kernel
theorem dX10_agree_141 : decode cX10_agree 141 = .ok (.getfield 42, 3) := by decide +kernel
theorem dX10_agree_144 : decode cX10_agree 144 = .ok (.iload_n 1, 1) := by decide +kernel
theorem dX10_agree_145 : decode cX10_agree 145 = .ok (.dload 5, 2) := by decide +kernel
theorem dX10_agree_147 : decode cX10_agree 147 = .ok (.dastore, 1) := by decide +kernel
theorem dX10_agree_148 : decode cX10_agree 148 = .ok (.iload 7, 2) := by decide +kernel
theorem dX10_agree_150 : decode cX10_agree 150 = .ok (.ireturn, 1) := by decide +kernel
set_option maxRecDepth 20000 in
theorem ggX10_find_X10_through : GoodIn wsX10_find wsX10_through := goodIn_r _ [7, 8, 9, 10, 11, 6, 12, 13, 14, 15, 16, 17, 18, 19, 20, 21, 22, 23, 24, 25, 26, 27, 28, 2, 29, 30, 31, 32, 33, 34, 35, 36, 37, 38, 39, 40, 41, 42, 43, 44, 45, 46, 47, 48, 49] (by decide +kernel) (by decide +kernel)
set_option maxRecDepth 20000 in
theorem gX10_find_X10_through : GoodIn wsX10_find (wsV RX10 142 RX10 yX10_through wsX10_through) := goodIn_app (goodIn_of _ (by decide +kernel)) ggX10_find_X10_through
theorem dX10_find_0 : decode cX10_find 0 = .ok (.iconst 0, 1) := by decide +kernel
theorem dX10_find_1 : decode cX10_find 1 = .ok (.istore_n 3, 1) := by decide +kernel
theorem dX10_find_2 : decode cX10_find 2 = .ok (.iload_n 3, 1) := by decide +kernel
theorem dX10_find_3 : decode cX10_find 3 = .ok (.aload_n 0, 1) := by decide +kernel
theorem dX10_find_4 : decode cX10_find 4 = .ok (.getfield 109, 3) := by decide +kernel
theorem dX10_find_7 : decode cX10_find 7 = .ok (.if_icmp .ge 40, 3) := by decide +kernel
theorem dX10_find_10 : decode cX10_find 10 = .ok (.aload_n 0, 1) := by decide +kernel
theorem dX10_find_11 : decode cX10_find 11 = .ok (.iconst 0, 1) := by decide +kernel
theorem dX10_find_12 : decode cX10_find 12 = .ok (.putfield 112, 3) := by decide +kernel
theorem dX10_find_15 : decode cX10_find 15 = .ok (.aload_n 0, 1) := by decide +kernel
theorem dX10_find_16 : decode cX10_find 16 = .ok (.iload_n 3, 1) := by decide +kernel
theorem dX10_find_17 : decode cX10_find 17 = .ok (.iload_n 1, 1) := by decide +kernel
theorem dX10_find_18 : decode cX10_find 18 = .ok (.i2d, 1) := by decide +kernel
theorem dX10_find_19 : decode cX10_find 19 = .ok (.invokevirtual 142, 3) := by decide +kernel
theorem dX10_find_22 : decode cX10_find 22 = .ok (.dstore 4, 2) := by decide +kernel
theorem dX10_find_24 : decode cX10_find 24 = .ok (.aload_n 0, 1) := by decide +kernel
theorem dX10_find_25 : decode cX10_find 25 = .ok (.getfield 112, 3) := by decide +kernel
theorem dX10_find_28 : decode cX10_find 28 = .ok (.ifCond .ne 13, 3) := by decide +kernel
theorem dX10_find_31 : decode cX10_find 31 = .ok (.dload 4, 2) := by decide +kernel
theorem dX10_find_33 : decode cX10_find 33 = .ok (.iload_n 2, 1) := by decide +kernel
theorem dX10_find_34 : decode cX10_find 34 = .ok (.i2d, 1) := by decide +kernel
theorem dX10_find_35 : decode cX10_find 35 = .ok (.dcmp .l, 1) := by decide +kernel
theorem dX10_find_36 : decode cX10_find 36 = .ok (.ifCond .ne 5, 3) := by decide +kernel
theorem dX10_find_39 : decode cX10_find 39 = .ok (.iload_n 3, 1) := by decide +kernel
theorem dX10_find_40 : decode cX10_find 40 = .ok (.ireturn, 1) := by decide +kernel
theorem dX10_find_41 : decode cX10_find 41 = .ok (.iinc 3 1, 3) := by decide +kernel
theorem dX10_find_44 : decode cX10_find 44 = .ok (.goto (-42), 3) := by decide +kernel
theorem dX10_find_47 : decode cX10_find 47 = .ok (.iconst (-1), 1) := by decide +kernel
theorem dX10_find_48 : decode cX10_find 48 = .ok (.ireturn, 1) := by decide +kernel
set_option maxRecDepth 20000 in
theorem ggX10_next_X10_isInstrument : GoodIn wsX10_next wsX10_isInstrument := goodIn_r _ [9, 10, 11, 12, 8, 13, 57, 58, 59, 60, 61, 62, 63, 64, 65, 66, 67, 68, 69, 70, 71, 72, 73, 74, 75, 76, 77] (by decide +kernel) (by decide +kernel)
set_option maxRecDepth 20000 in
theorem gX10_next_X10_isInstrument : GoodIn wsX10_next (wsV RX10 91 RX10 yX10_isInstrument wsX10_isInstrument) := goodIn_app (goodIn_of _ (by decide +kernel)) ggX10_next_X10_isInstrument
set_option maxRecDepth 20000 in
theorem ggX10_next_X10_sample : GoodIn wsX10_next wsX10_sample := goodIn_r _ [17, 2, 4, 18, 19, 20, 21, 22, 23, 24, 8, 25, 26, 27, 28, 29, 30, 31, 3, 32, 33, 34, 35, 36, 37, 38, 39, 40, 41, 42, 43, 44, 11, 12, 13, 57, 58, 59, 60, 61, 62, 63, 64, 65, 66, 67, 68, 69, 70, 71, 72, 73, 74, 75, 76, 77] (by decide +kernel) (by decide +kernel)
set_option maxRecDepth 20000 in
theorem gX10_next_X10_sample : GoodIn wsX10_next (wsV RX10 139 RX10 yX10_sample wsX10_sample) := goodIn_app (goodIn_of _ (by decide +kernel)) ggX10_next_X10_sample
set_option maxRecDepth 20000 in
theorem ggX10_next_Jxe99ae_doubleToLongBits_ccdee : GoodIn wsX10_next wsJxe99ae_doubleToLongBits_ccdee := goodIn_r _ [48, 49, 50, 51, 52, 53, 54, 55, 47, 56] (by decide +kernel) (by decide +kernel)
set_option maxRecDepth 20000 in
theorem gX10_next_Jxe99ae_doubleToLongBits_ccdee : GoodIn wsX10_next (va_wsS RX10 85 yJxe99ae_doubleToLongBits_ccdee wsJxe99ae_doubleToLongBits_ccdee) := goodIn_app (goodIn_of _ (by decide +kernel)) ggX10_next_Jxe99ae_doubleToLongBits_ccdee
theorem dX10_next_0 : decode cX10_next 0 = .ok (.aload_n 0, 1) := by decide +kernel
theorem dX10_next_1 : decode cX10_next 1 = .ok (.iload_n 1, 1) := by decide +kernel
theorem dX10_next_2 : decode cX10_next 2 = .ok (.invokevirtual 91, 3) := by decide +kernel
theorem dX10_next_5 : decode cX10_next 5 = .ok (.ifCond .ne 10, 3) := by decide +kernel
theorem dX10_next_8 : decode cX10_next 8 = .ok (.aload_n 0, 1) := by decide +kernel
theorem dX10_next_9 : decode cX10_next 9 = .ok (.iconst (-1), 1) := by decide +kernel
theorem dX10_next_10 : decode cX10_next 10 = .ok (.putfield 72, 3) := by decide +kernel
theorem dX10_next_13 : decode cX10_next 13 = .ok (.lconst 0, 1) := by decide +kernel
theorem dX10_next_14 : decode cX10_next 14 = .ok (.lreturn, 1) := by decide +kernel
theorem dX10_next_15 : decode cX10_next 15 = .ok (.aload_n 0, 1) := by decide +kernel
theorem dX10_next_16 : decode cX10_next 16 = .ok (.getfield 39, 3) := by decide +kernel
theorem dX10_next_19 : decode cX10_next 19 = .ok (.iload_n 1, 1) := by decide +kernel
theorem dX10_next_20 : decode cX10_next 20 = .ok (.iaload, 1) := by decide +kernel
theorem dX10_next_21 : decode cX10_next 21 = .ok (.istore_n 2, 1) := by decide +kernel
theorem dX10_next_22 : decode cX10_next 22 = .ok (.aload_n 0, 1) := by decide +kernel
theorem dX10_next_23 : decode cX10_next 23 = .ok (.getfield 42, 3) := by decide +kernel
theorem dX10_next_26 : decode cX10_next 26 = .ok (.iload_n 1, 1) := by decide +kernel
theorem dX10_next_27 : decode cX10_next 27 = .ok (.daload, 1) := by decide +kernel
theorem dX10_next_28 : decode cX10_next 28 = .ok (.dstore_n 3, 1) := by decide +kernel
theorem dX10_next_29 : decode cX10_next 29 = .ok (.aload_n 0, 1) := by decide +kernel
theorem dX10_next_30 : decode cX10_next 30 = .ok (.iload_n 1, 1) := by decide +kernel
theorem dX10_next_31 : decode cX10_next 31 = .ok (.invokevirtual 139, 3) := by decide +kernel
theorem dX10_next_34 : decode cX10_next 34 = .ok (.dstore 5, 2) := by decide +kernel
theorem dX10_next_36 : decode cX10_next 36 = .ok (.aload_n 0, 1) := by decide +kernel
theorem dX10_next_37 : decode cX10_next 37 = .ok (.getfield 39, 3) := by decide +kernel
theorem dX10_next_40 : decode cX10_next 40 = .ok (.iload_n 1, 1) := by decide +kernel
theorem dX10_next_41 : decode cX10_next 41 = .ok (.iload_n 2, 1) := by decide +kernel
theorem dX10_next_42 : decode cX10_next 42 = .ok (.iastore, 1) := by decide +kernel
theorem dX10_next_43 : decode cX10_next 43 = .ok (.aload_n 0, 1) := by decide +kernel
theorem dX10_next_44 : decode cX10_next 44 = .ok (.getfield 42, 3) := by decide +kernel
theorem dX10_next_47 : decode cX10_next 47 = .ok (.iload_n 1, 1) := by decide +kernel
theorem dX10_next_48 : decode cX10_next 48 = .ok (.dload_n 3, 1) := by decide +kernel
theorem dX10_next_49 : decode cX10_next 49 = .ok (.dastore, 1) := by decide +kernel
theorem dX10_next_50 : decode cX10_next 50 = .ok (.aload_n 0, 1) := by decide +kernel
theorem dX10_next_51 : decode cX10_next 51 = .ok (.aload_n 0, 1) := by decide +kernel
theorem dX10_next_52 : decode cX10_next 52 = .ok (.getfield 112, 3) := by decide +kernel
theorem dX10_next_55 : decode cX10_next 55 = .ok (.putfield 72, 3) := by decide +kernel
theorem dX10_next_58 : decode cX10_next 58 = .ok (.aload_n 0, 1) := by decide +kernel
theorem dX10_next_59 : decode cX10_next 59 = .ok (.getfield 112, 3) := by decide +kernel
theorem dX10_next_62 : decode cX10_next 62 = .ok (.ifCond .ne 11, 3) := by decide +kernel
theorem dX10_next_65 : decode cX10_next 65 = .ok (.dload 5, 2) := by decide +kernel
theorem dX10_next_67 : decode cX10_next 67 = .ok (.invokestatic 85, 3) := by decide +kernel
theorem dX10_next_70 : decode cX10_next 70 = .ok (.goto 4, 3) := by decide +kernel
theorem dX10_next_73 : decode cX10_next 73 = .ok (.lconst 0, 1) := by decide +kernel
theorem dX10_next_74 : decode cX10_next 74 = .ok (.lreturn, 1) := by decide +kernel
theorem dX10_state_0 : decode cX10_state 0 = .ok (.aload_n 0, 1) := by decide +kernel
theorem dX10_state_1 : decode cX10_state 1 = .ok (.getfield 72, 3) := by decide +kernel
theorem dX10_state_4 : decode cX10_state 4 = .ok (.ireturn, 1) := by decide +kernel
set_option maxRecDepth 20000 in
theorem ggX10_count_X10_in : GoodIn wsX10_count wsX10_in := goodIn_r _ [7] (by decide +kernel) (by decide +kernel)
set_option maxRecDepth 20000 in
theorem gX10_count_X10_in : GoodIn wsX10_count (va_wsS RX10 68 yX10_in wsX10_in) := goodIn_app (goodIn_of _ (by decide +kernel)) ggX10_count_X10_in
theorem dX10_count_0 : decode cX10_count 0 = .ok (.iload_n 1, 1) := by decide +kernel
theorem dX10_count_1 : decode cX10_count 1 = .ok (.ifCond .ne 10, 3) := by decide +kernel
theorem dX10_count_4 : decode cX10_count 4 = .ok (.aload_n 0, 1) := by decide +kernel
theorem dX10_count_5 : decode cX10_count 5 = .ok (.getfield 65, 3) := by decide +kernel
theorem dX10_count_8 : decode cX10_count 8 = .ok (.goto 36, 3) := by decide +kernel
theorem dX10_count_11 : decode cX10_count 11 = .ok (.iload_n 1, 1) := by decide +kernel
theorem dX10_count_12 : decode cX10_count 12 = .ok (.iconst 1, 1) := by decide +kernel
theorem dX10_count_13 : decode cX10_count 13 = .ok (.if_icmp .ne 10, 3) := by decide +kernel
theorem dX10_count_16 : decode cX10_count 16 = .ok (.aload_n 0, 1) := by decide +kernel
theorem dX10_count_17 : decode cX10_count 17 = .ok (.getfield 109, 3) := by decide +kernel
theorem dX10_count_20 : decode cX10_count 20 = .ok (.goto 24, 3) := by decide +kernel
theorem dX10_count_23 : decode cX10_count 23 = .ok (.iload_n 1, 1) := by decide +kernel
theorem dX10_count_24 : decode cX10_count 24 = .ok (.iconst 2, 1) := by decide +kernel
theorem dX10_count_25 : decode cX10_count 25 = .ok (.iconst 4, 1) := by decide +kernel
theorem dX10_count_26 : decode cX10_count 26 = .ok (.invokestatic 68, 3) := by decide +kernel
theorem dX10_count_29 : decode cX10_count 29 = .ok (.ifCond .eq 14, 3) := by decide +kernel
theorem dX10_count_32 : decode cX10_count 32 = .ok (.aload_n 0, 1) := by decide +kernel
theorem dX10_count_33 : decode cX10_count 33 = .ok (.getfield 52, 3) := by decide +kernel
theorem dX10_count_36 : decode cX10_count 36 = .ok (.iload_n 1, 1) := by decide +kernel
theorem dX10_count_37 : decode cX10_count 37 = .ok (.iconst 2, 1) := by decide +kernel
theorem dX10_count_38 : decode cX10_count 38 = .ok (.isub, 1) := by decide +kernel
theorem dX10_count_39 : decode cX10_count 39 = .ok (.iaload, 1) := by decide +kernel
theorem dX10_count_40 : decode cX10_count 40 = .ok (.goto 4, 3) := by decide +kernel
theorem dX10_count_43 : decode cX10_count 43 = .ok (.iconst (-1), 1) := by decide +kernel
theorem dX10_count_44 : decode cX10_count 44 = .ok (.ireturn, 1) := by decide +kernel
theorem dJxe99ae_isNaN_b9ae7_0 : decode cJxe99ae_isNaN_b9ae7 0 = .ok (.dload_n 0, 1) := by decide +kernel
theorem dJxe99ae_isNaN_b9ae7_1 : decode cJxe99ae_isNaN_b9ae7 1 = .ok (.dload_n 0, 1) := by decide +kernel
theorem dJxe99ae_isNaN_b9ae7_2 : decode cJxe99ae_isNaN_b9ae7 2 = .ok (.dcmp .l, 1) := by decide +kernel
theorem dJxe99ae_isNaN_b9ae7_3 : decode cJxe99ae_isNaN_b9ae7 3 = .ok (.ifCond .eq 7, 3) := by decide +kernel
theorem dJxe99ae_isNaN_b9ae7_6 : decode cJxe99ae_isNaN_b9ae7 6 = .ok (.iconst 1, 1) := by decide +kernel
theorem dJxe99ae_isNaN_b9ae7_7 : decode cJxe99ae_isNaN_b9ae7 7 = .ok (.goto 4, 3) := by decide +kernel
theorem dJxe99ae_isNaN_b9ae7_10 : decode cJxe99ae_isNaN_b9ae7 10 = .ok (.iconst 0, 1) := by decide +kernel
theorem dJxe99ae_isNaN_b9ae7_11 : decode cJxe99ae_isNaN_b9ae7 11 = .ok (.ireturn, 1) := by decide +kernel
set_option maxRecDepth 20000 in
theorem ggJxe99ae_doubleToLongBits_ccdee_Jxe99ae_isNaN_b9ae7 : GoodIn wsJxe99ae_doubleToLongBits_ccdee wsJxe99ae_isNaN_b9ae7 := goodIn_r _ [9] (by decide +kernel) (by decide +kernel)
set_option maxRecDepth 20000 in
theorem gJxe99ae_doubleToLongBits_ccdee_Jxe99ae_isNaN_b9ae7 : GoodIn wsJxe99ae_doubleToLongBits_ccdee (va_wsS RJxe99ae 122 yJxe99ae_isNaN_b9ae7 wsJxe99ae_isNaN_b9ae7) := goodIn_app (goodIn_of _ (by decide +kernel)) ggJxe99ae_doubleToLongBits_ccdee_Jxe99ae_isNaN_b9ae7
theorem dJxe99ae_doubleToLongBits_ccdee_0 : decode cJxe99ae_doubleToLongBits_ccdee 0 = .ok (.dload_n 0, 1) := by decide +kernel
theorem dJxe99ae_doubleToLongBits_ccdee_1 : decode cJxe99ae_doubleToLongBits_ccdee 1 = .ok (.invokestatic 122, 3) := by decide +kernel
theorem dJxe99ae_doubleToLongBits_ccdee_4 : decode cJxe99ae_doubleToLongBits_ccdee 4 = .ok (.ifCond .ne 8, 3) := by decide +kernel
theorem dJxe99ae_doubleToLongBits_ccdee_7 : decode cJxe99ae_doubleToLongBits_ccdee 7 = .ok (.dload_n 0, 1) := by decide +kernel
theorem dJxe99ae_doubleToLongBits_ccdee_8 : decode cJxe99ae_doubleToLongBits_ccdee 8 = .ok (.invokestatic 134, 3) := by decide +kernel
theorem dJxe99ae_doubleToLongBits_ccdee_11 : decode cJxe99ae_doubleToLongBits_ccdee 11 = .ok (.lreturn, 1) := by decide +kernel
theorem dJxe99ae_doubleToLongBits_ccdee_12 : decode cJxe99ae_doubleToLongBits_ccdee 12 = .ok (.ldc2_w 137, 3) := by decide +kernel
theorem dJxe99ae_doubleToLongBits_ccdee_15 : decode cJxe99ae_doubleToLongBits_ccdee 15 = .ok (.lreturn, 1) := by decide +kernel
theorem dJxf58ca_isNaN_12338_0 : decode cJxf58ca_isNaN_12338 0 = .ok (.fload_n 0, 1) := by decide +kernel
theorem dJxf58ca_isNaN_12338_1 : decode cJxf58ca_isNaN_12338 1 = .ok (.fload_n 0, 1) := by decide +kernel
theorem dJxf58ca_isNaN_12338_2 : decode cJxf58ca_isNaN_12338 2 = .ok (.fcmp .l, 1) := by decide +kernel
theorem dJxf58ca_isNaN_12338_3 : decode cJxf58ca_isNaN_12338 3 = .ok (.ifCond .eq 7, 3) := by decide +kernel
theorem dJxf58ca_isNaN_12338_6 : decode cJxf58ca_isNaN_12338 6 = .ok (.iconst 1, 1) := by decide +kernel
theorem dJxf58ca_isNaN_12338_7 : decode cJxf58ca_isNaN_12338 7 = .ok (.goto 4, 3) := by decide +kernel
theorem dJxf58ca_isNaN_12338_10 : decode cJxf58ca_isNaN_12338 10 = .ok (.iconst 0, 1) := by decide +kernel
theorem dJxf58ca_isNaN_12338_11 : decode cJxf58ca_isNaN_12338 11 = .ok (.ireturn, 1) := by decide +kernel
set_option maxRecDepth 20000 in
theorem ggJxf58ca_floatToIntBits_5c35a_Jxf58ca_isNaN_12338 : GoodIn wsJxf58ca_floatToIntBits_5c35a wsJxf58ca_isNaN_12338 := goodIn_r _ [9] (by decide +kernel) (by decide +kernel)
set_option maxRecDepth 20000 in
theorem gJxf58ca_floatToIntBits_5c35a_Jxf58ca_isNaN_12338 : GoodIn wsJxf58ca_floatToIntBits_5c35a (va_wsS RJxf58ca 59 yJxf58ca_isNaN_12338 wsJxf58ca_isNaN_12338) := goodIn_app (goodIn_of _ (by decide +kernel)) ggJxf58ca_floatToIntBits_5c35a_Jxf58ca_isNaN_12338
theorem dJxf58ca_floatToIntBits_5c35a_0 : decode cJxf58ca_floatToIntBits_5c35a 0 = .ok (.fload_n 0, 1) := by decide +kernel
theorem dJxf58ca_floatToIntBits_5c35a_1 : decode cJxf58ca_floatToIntBits_5c35a 1 = .ok (.invokestatic 59, 3) := by decide +kernel
theorem dJxf58ca_floatToIntBits_5c35a_4 : decode cJxf58ca_floatToIntBits_5c35a 4 = .ok (.ifCond .ne 8, 3) := by decide +kernel
theorem dJxf58ca_floatToIntBits_5c35a_7 : decode cJxf58ca_floatToIntBits_5c35a 7 = .ok (.fload_n 0, 1) := by decide +kernel
theorem dJxf58ca_floatToIntBits_5c35a_8 : decode cJxf58ca_floatToIntBits_5c35a 8 = .ok (.invokestatic 74, 3) := by decide +kernel
theorem dJxf58ca_floatToIntBits_5c35a_11 : decode cJxf58ca_floatToIntBits_5c35a 11 = .ok (.ireturn, 1) := by decide +kernel
theorem dJxf58ca_floatToIntBits_5c35a_12 : decode cJxf58ca_floatToIntBits_5c35a 12 = .ok (.ldc 77, 2) := by decide +kernel
theorem dJxf58ca_floatToIntBits_5c35a_14 : decode cJxf58ca_floatToIntBits_5c35a 14 = .ok (.ireturn, 1) := by decide +kernel
