theorem dX2_muster_69 : decode cX2_muster 69 = .ok (.goto 4, 3) := by decide +kernel
theorem dX2_muster_72 : decode cX2_muster 72 = .ok (.iconst (-1), 1) := by decide +kernel
theorem dX2_muster_73 : decode cX2_muster 73 = .ok (.istore_n 2, 1) := by decide +kernel
theorem dX2_muster_74 : decode cX2_muster 74 = .ok (.aload_n 0, 1) := by decide +kernel
theorem dX2_muster_75 : decode cX2_muster 75 = .ok (.aload_n 0, 1) := by decide +kernel
theorem dX2_muster_76 : decode cX2_muster 76 = .ok (.getfield 33, 3) := by decide +kernel
theorem dX2_muster_79 : decode cX2_muster 79 = .ok (.ifCond .ne 7, 3) := by decide +kernel
theorem dX2_muster_82 : decode cX2_muster 82 = .ok (.iconst (-1), 1) := by decide +kernel
theorem dX2_muster_83 : decode cX2_muster 83 = .ok (.goto 14, 3) := by decide +kernel
theorem dX2_muster_86 : decode cX2_muster 86 = .ok (.aload_n 0, 1) := by decide +kernel
theorem dX2_muster_87 : decode cX2_muster 87 = .ok (.getfield 24, 3) := by decide +kernel
theorem dX2_muster_90 : decode cX2_muster 90 = .ok (.aload_n 0, 1) := by decide +kernel
theorem dX2_muster_91 : decode cX2_muster 91 = .ok (.getfield 33, 3) := by decide +kernel
theorem dX2_muster_94 : decode cX2_muster 94 = .ok (.iconst 1, 1) := by decide +kernel
theorem dX2_muster_95 : decode cX2_muster 95 = .ok (.isub, 1) := by decide +kernel
theorem dX2_muster_96 : decode cX2_muster 96 = .ok (.iaload, 1) := by decide +kernel
theorem dX2_muster_97 : decode cX2_muster 97 = .ok (.iload_n 1, 1) := by decide +kernel
theorem dX2_muster_98 : decode cX2_muster 98 = .ok (.iload_n 1, 1) := by decide +kernel
theorem dX2_muster_99 : decode cX2_muster 99 = .ok (.invokevirtual 80, 3) := by decide +kernel
theorem dX2_muster_102 : decode cX2_muster 102 = .ok (.aload_n 0, 1) := by decide +kernel
theorem dX2_muster_103 : decode cX2_muster 103 = .ok (.getfield 13, 3) := by decide +kernel
theorem dX2_muster_106 : decode cX2_muster 106 = .ok (.iload_n 1, 1) := by decide +kernel
theorem dX2_muster_107 : decode cX2_muster 107 = .ok (.iconst 1, 1) := by decide +kernel
theorem dX2_muster_108 : decode cX2_muster 108 = .ok (.bastore, 1) := by decide +kernel
theorem dX2_muster_109 : decode cX2_muster 109 = .ok (.aload_n 0, 1) := by decide +kernel
theorem dX2_muster_110 : decode cX2_muster 110 = .ok (.getfield 17, 3) := by decide +kernel
theorem dX2_muster_113 : decode cX2_muster 113 = .ok (.iload_n 1, 1) := by decide +kernel
theorem dX2_muster_114 : decode cX2_muster 114 = .ok (.iconst (-1), 1) := by decide +kernel
theorem dX2_muster_115 : decode cX2_muster 115 = .ok (.iastore, 1) := by decide +kernel
theorem dX2_muster_116 : decode cX2_muster 116 = .ok (.aload_n 0, 1) := by decide +kernel
theorem dX2_muster_117 : decode cX2_muster 117 = .ok (.getfield 21, 3) := by decide +kernel
theorem dX2_muster_120 : decode cX2_muster 120 = .ok (.iload_n 1, 1) := by decide +kernel
theorem dX2_muster_121 : decode cX2_muster 121 = .ok (.iconst (-1), 1) := by decide +kernel
theorem dX2_muster_122 : decode cX2_muster 122 = .ok (.iastore, 1) := by decide +kernel
theorem dX2_muster_123 : decode cX2_muster 123 = .ok (.aload_n 0, 1) := by decide +kernel
theorem dX2_muster_124 : decode cX2_muster 124 = .ok (.dup, 1) := by decide +kernel
theorem dX2_muster_125 : decode cX2_muster 125 = .ok (.getfield 90, 3) := by decide +kernel
theorem dX2_muster_128 : decode cX2_muster 128 = .ok (.iconst 1, 1) := by decide +kernel
theorem dX2_muster_129 : decode cX2_muster 129 = .ok (.iadd, 1) := by decide +kernel
theorem dX2_muster_130 : decode cX2_muster 130 = .ok (.putfield 90, 3) := by decide +kernel
theorem dX2_muster_133 : decode cX2_muster 133 = .ok (.aload_n 0, 1) := by decide +kernel
theorem dX2_muster_134 : decode cX2_muster 134 = .ok (.aload_n 0, 1) := by decide +kernel
theorem dX2_muster_135 : decode cX2_muster 135 = .ok (.getfield 93, 3) := by decide +kernel
theorem dX2_muster_138 : decode cX2_muster 138 = .ok (.aload_n 0, 1) := by decide +kernel
theorem dX2_muster_139 : decode cX2_muster 139 = .ok (.getfield 90, 3) := by decide +kernel
theorem dX2_muster_142 : decode cX2_muster 142 = .ok (.invokestatic 43, 3) := by decide +kernel
theorem dX2_muster_145 : decode cX2_muster 145 = .ok (.putfield 93, 3) := by decide +kernel
theorem dX2_muster_148 : decode cX2_muster 148 = .ok (.iload_n 2, 1) := by decide +kernel
theorem dX2_muster_149 : decode cX2_muster 149 = .ok (.iconst (-1), 1) := by decide +kernel
theorem dX2_muster_150 : decode cX2_muster 150 = .ok (.if_icmp .eq 9, 3) := by decide +kernel
theorem dX2_muster_153 : decode cX2_muster 153 = .ok (.aload_n 0, 1) := by decide +kernel
theorem dX2_muster_154 : decode cX2_muster 154 = .ok (.iload_n 2, 1) := by decide +kernel
theorem dX2_muster_155 : decode cX2_muster 155 = .ok (.invokevirtual 108, 3) := by decide +kernel
theorem dX2_muster_158 : decode cX2_muster 158 = .ok (.pop, 1) := by decide +kernel
theorem dX2_muster_159 : decode cX2_muster 159 = .ok (.aload_n 0, 1) := by decide +kernel
theorem dX2_muster_160 : decode cX2_muster 160 = .ok (.iload_n 1, 1) := by decide +kernel
theorem dX2_muster_161 : decode cX2_muster 161 = .ok (.invokevirtual 77, 3) := by decide +kernel
theorem dX2_muster_164 : decode cX2_muster 164 = .ok (.aload_n 0, 1) := by decide +kernel
theorem dX2_muster_165 : decode cX2_muster 165 = .ok (.getfield 33, 3) := by decide +kernel
theorem dX2_muster_168 : decode cX2_muster 168 = .ok (.iconst 1, 1) := by decide +kernel
theorem dX2_muster_169 : decode cX2_muster 169 = .ok (.isub, 1) := by decide +kernel
theorem dX2_muster_170 : decode cX2_muster 170 = .ok (.ireturn, 1) := by decide +kernel
set_option maxRecDepth 20000 in
theorem ggX2_discharge_X2_isHeight : GoodIn wsX2_discharge wsX2_isHeight := goodIn_r _ [13] (by decide +kernel) (by decide +kernel)
set_option maxRecDepth 20000 in
theorem gX2_discharge_X2_isHeight : GoodIn wsX2_discharge (va_wsS RX2 96 yX2_isHeight wsX2_isHeight) := goodIn_app (goodIn_of _ (by decide +kernel)) ggX2_discharge_X2_isHeight
set_option maxRecDepth 20000 in
theorem ggX2_discharge_X2_goTo : GoodIn wsX2_discharge wsX2_goTo := goodIn_r _ [17, 3, 9, 4, 5, 6, 42, 43, 44, 45, 46, 47, 48, 49, 50, 51, 52, 53, 54] (by decide +kernel) (by decide +kernel)
set_option maxRecDepth 20000 in
theorem gX2_discharge_X2_goTo : GoodIn wsX2_discharge (wsV RX2 77 RX2 yX2_goTo wsX2_goTo) := goodIn_app (goodIn_of _ (by decide +kernel)) ggX2_discharge_X2_goTo
set_option maxRecDepth 20000 in
theorem ggX2_discharge_X2_next : GoodIn wsX2_discharge wsX2_next := goodIn_r _ [21, 6, 5, 42, 43, 44, 45, 46, 47, 48, 49, 50, 51, 52, 53, 54] (by decide +kernel) (by decide +kernel)
set_option maxRecDepth 20000 in
theorem gX2_discharge_X2_next : GoodIn wsX2_discharge (wsV RX2 111 RX2 yX2_next wsX2_next) := goodIn_app (goodIn_of _ (by decide +kernel)) ggX2_discharge_X2_next
set_option maxRecDepth 20000 in
theorem ggX2_discharge_X2_hang : GoodIn wsX2_discharge wsX2_hang := goodIn_r _ [25, 9, 5, 6, 42, 43, 44, 45, 46, 47, 48, 49, 50, 51, 52, 53, 54] (by decide +kernel) (by decide +kernel)
set_option maxRecDepth 20000 in
theorem gX2_discharge_X2_hang : GoodIn wsX2_discharge (wsV RX2 80 RX2 yX2_hang wsX2_hang) := goodIn_app (goodIn_of _ (by decide +kernel)) ggX2_discharge_X2_hang
set_option maxRecDepth 20000 in
theorem ggX2_discharge_X2_drawUp : GoodIn wsX2_discharge wsX2_drawUp := goodIn_r _ [29, 3, 4, 30, 31, 32, 7, 8, 14, 15, 16, 12, 17, 9, 5, 6, 33, 34, 35, 36, 37, 38, 39, 40, 41, 22, 23, 24, 25, 42, 43, 44, 45, 46, 47, 48, 49, 50, 51, 52, 53, 54] (by decide +kernel) (by decide +kernel)
set_option maxRecDepth 20000 in
theorem gX2_discharge_X2_drawUp : GoodIn wsX2_discharge (wsV RX2 108 RX2 yX2_drawUp wsX2_drawUp) := goodIn_app (goodIn_of _ (by decide +kernel)) ggX2_discharge_X2_drawUp
theorem dX2_discharge_0 : decode cX2_discharge 0 = .ok (.aload_n 0, 1) := by decide +kernel
theorem dX2_discharge_1 : decode cX2_discharge 1 = .ok (.iload_n 1, 1) := by decide +kernel
theorem dX2_discharge_2 : decode cX2_discharge 2 = .ok (.invokestatic 96, 3) := by decide +kernel
theorem dX2_discharge_5 : decode cX2_discharge 5 = .ok (.ifCond .ne 7, 3) := by decide +kernel
theorem dX2_discharge_8 : decode cX2_discharge 8 = .ok (.iconst 1, 1) := by decide +kernel
theorem dX2_discharge_9 : decode cX2_discharge 9 = .ok (.goto 17, 3) := by decide +kernel
theorem dX2_discharge_12 : decode cX2_discharge 12 = .ok (.aload_n 0, 1) := by decide +kernel
theorem dX2_discharge_13 : decode cX2_discharge 13 = .ok (.getfield 13, 3) := by decide +kernel
theorem dX2_discharge_16 : decode cX2_discharge 16 = .ok (.iload_n 1, 1) := by decide +kernel
theorem dX2_discharge_17 : decode cX2_discharge 17 = .ok (.baload, 1) := by decide +kernel
theorem dX2_discharge_18 : decode cX2_discharge 18 = .ok (.ifCond .eq 7, 3) := by decide +kernel
theorem dX2_discharge_21 : decode cX2_discharge 21 = .ok (.iconst 0, 1) := by decide +kernel
theorem dX2_discharge_22 : decode cX2_discharge 22 = .ok (.goto 4, 3) := by decide +kernel
theorem dX2_discharge_25 : decode cX2_discharge 25 = .ok (.iconst 2, 1) := by decide +kernel
theorem dX2_discharge_26 : decode cX2_discharge 26 = .ok (.putfield 30, 3) := by decide +kernel
theorem dX2_discharge_29 : decode cX2_discharge 29 = .ok (.aload_n 0, 1) := by decide +kernel
theorem dX2_discharge_30 : decode cX2_discharge 30 = .ok (.getfield 30, 3) := by decide +kernel
theorem dX2_discharge_33 : decode cX2_discharge 33 = .ok (.ifCond .eq 5, 3) := by decide +kernel
theorem dX2_discharge_36 : decode cX2_discharge 36 = .ok (.iconst 0, 1) := by decide +kernel
theorem dX2_discharge_37 : decode cX2_discharge 37 = .ok (.ireturn, 1) := by decide +kernel
theorem dX2_discharge_38 : decode cX2_discharge 38 = .ok (.aload_n 0, 1) := by decide +kernel
theorem dX2_discharge_39 : decode cX2_discharge 39 = .ok (.iload_n 1, 1) := by decide +kernel
theorem dX2_discharge_40 : decode cX2_discharge 40 = .ok (.invokevirtual 77, 3) := by decide +kernel
theorem dX2_discharge_43 : decode cX2_discharge 43 = .ok (.aload_n 0, 1) := by decide +kernel
theorem dX2_discharge_44 : decode cX2_discharge 44 = .ok (.getfield 33, 3) := by decide +kernel
theorem dX2_discharge_47 : decode cX2_discharge 47 = .ok (.iconst 1, 1) := by decide +kernel
theorem dX2_discharge_48 : decode cX2_discharge 48 = .ok (.if_icmp .le 17, 3) := by decide +kernel
theorem dX2_discharge_51 : decode cX2_discharge 51 = .ok (.aload_n 0, 1) := by decide +kernel
theorem dX2_discharge_52 : decode cX2_discharge 52 = .ok (.getfield 24, 3) := by decide +kernel
theorem dX2_discharge_55 : decode cX2_discharge 55 = .ok (.aload_n 0, 1) := by decide +kernel
theorem dX2_discharge_56 : decode cX2_discharge 56 = .ok (.getfield 33, 3) := by decide +kernel
theorem dX2_discharge_59 : decode cX2_discharge 59 = .ok (.iconst 2, 1) := by decide +kernel
theorem dX2_discharge_60 : decode cX2_discharge 60 = .ok (.isub, 1) := by decide +kernel
theorem dX2_discharge_61 : decode cX2_discharge 61 = .ok (.iaload, 1) := by decide +kernel
theorem dX2_discharge_62 : decode cX2_discharge 62 = .ok (.goto 4, 3) := by decide +kernel
theorem dX2_discharge_65 : decode cX2_discharge 65 = .ok (.iconst (-1), 1) := by decide +kernel
theorem dX2_discharge_66 : decode cX2_discharge 66 = .ok (.istore_n 2, 1) := by decide +kernel
theorem dX2_discharge_67 : decode cX2_discharge 67 = .ok (.aload_n 0, 1) := by decide +kernel
theorem dX2_discharge_68 : decode cX2_discharge 68 = .ok (.getfield 17, 3) := by decide +kernel
theorem dX2_discharge_71 : decode cX2_discharge 71 = .ok (.iload_n 1, 1) := by decide +kernel
theorem dX2_discharge_72 : decode cX2_discharge 72 = .ok (.iaload, 1) := by decide +kernel
theorem dX2_discharge_73 : decode cX2_discharge 73 = .ok (.iconst (-1), 1) := by decide +kernel
theorem dX2_discharge_74 : decode cX2_discharge 74 = .ok (.if_icmp .ne 12, 3) := by decide +kernel
theorem dX2_discharge_77 : decode cX2_discharge 77 = .ok (.aload_n 0, 1) := by decide +kernel
theorem dX2_discharge_78 : decode cX2_discharge 78 = .ok (.getfield 21, 3) := by decide +kernel
theorem dX2_discharge_81 : decode cX2_discharge 81 = .ok (.iload_n 1, 1) := by decide +kernel
theorem dX2_discharge_82 : decode cX2_discharge 82 = .ok (.iaload, 1) := by decide +kernel
theorem dX2_discharge_83 : decode cX2_discharge 83 = .ok (.goto 9, 3) := by decide +kernel
theorem dX2_discharge_86 : decode cX2_discharge 86 = .ok (.aload_n 0, 1) := by decide +kernel
theorem dX2_discharge_87 : decode cX2_discharge 87 = .ok (.getfield 17, 3) := by decide +kernel
theorem dX2_discharge_90 : decode cX2_discharge 90 = .ok (.iload_n 1, 1) := by decide +kernel
theorem dX2_discharge_91 : decode cX2_discharge 91 = .ok (.iaload, 1) := by decide +kernel
theorem dX2_discharge_92 : decode cX2_discharge 92 = .ok (.istore_n 3, 1) := by decide +kernel
theorem dX2_discharge_93 : decode cX2_discharge 93 = .ok (.aload_n 0, 1) := by decide +kernel
theorem dX2_discharge_94 : decode cX2_discharge 94 = .ok (.getfield 17, 3) := by decide +kernel
theorem dX2_discharge_97 : decode cX2_discharge 97 = .ok (.iload_n 1, 1) := by decide +kernel
theorem dX2_discharge_98 : decode cX2_discharge 98 = .ok (.iaload, 1) := by decide +kernel
theorem dX2_discharge_99 : decode cX2_discharge 99 = .ok (.iconst (-1), 1) := by decide +kernel
theorem dX2_discharge_100 : decode cX2_discharge 100 = .ok (.if_icmp .eq 19, 3) := by decide +kernel
theorem dX2_discharge_103 : decode cX2_discharge 103 = .ok (.aload_n 0, 1) := by decide +kernel
theorem dX2_discharge_104 : decode cX2_discharge 104 = .ok (.getfield 21, 3) := by decide +kernel
theorem dX2_discharge_107 : decode cX2_discharge 107 = .ok (.iload_n 1, 1) := by decide +kernel
theorem dX2_discharge_108 : decode cX2_discharge 108 = .ok (.iaload, 1) := by decide +kernel
theorem dX2_discharge_109 : decode cX2_discharge 109 = .ok (.iconst (-1), 1) := by decide +kernel
theorem dX2_discharge_110 : decode cX2_discharge 110 = .ok (.if_icmp .eq 9, 3) := by decide +kernel
theorem dX2_discharge_113 : decode cX2_discharge 113 = .ok (.aload_n 0, 1) := by decide +kernel
theorem dX2_discharge_114 : decode cX2_discharge 114 = .ok (.iload_n 1, 1) := by decide +kernel
theorem dX2_discharge_115 : decode cX2_discharge 115 = .ok (.invokevirtual 111, 3) := by decide +kernel
theorem dX2_discharge_118 : decode cX2_discharge 118 = .ok (.istore_n 3, 1) := by decide +kernel
theorem dX2_discharge_119 : decode cX2_discharge 119 = .ok (.aload_n 0, 1) := by decide +kernel
theorem dX2_discharge_120 : decode cX2_discharge 120 = .ok (.iload_n 2, 1) := by decide +kernel
theorem dX2_discharge_121 : decode cX2_discharge 121 = .ok (.iload_n 1, 1) := by decide +kernel
theorem dX2_discharge_122 : decode cX2_discharge 122 = .ok (.iload_n 3, 1) := by decide +kernel
theorem dX2_discharge_123 : decode cX2_discharge 123 = .ok (.invokevirtual 80, 3) := by decide +kernel
theorem dX2_discharge_126 : decode cX2_discharge 126 = .ok (.aload_n 0, 1) := by decide +kernel
theorem dX2_discharge_127 : decode cX2_discharge 127 = .ok (.getfield 13, 3) := by decide +kernel
theorem dX2_discharge_130 : decode cX2_discharge 130 = .ok (.iload_n 1, 1) := by decide +kernel
theorem dX2_discharge_131 : decode cX2_discharge 131 = .ok (.iconst 0, 1) := by decide +kernel
theorem dX2_discharge_132 : decode cX2_discharge 132 = .ok (.bastore, 1) := by decide +kernel
theorem dX2_discharge_133 : decode cX2_discharge 133 = .ok (.aload_n 0, 1) := by decide +kernel
theorem dX2_discharge_134 : decode cX2_discharge 134 = .ok (.dup, 1) := by decide +kernel
theorem dX2_discharge_135 : decode cX2_discharge 135 = .ok (.getfield 90, 3) := by decide +kernel
theorem dX2_discharge_138 : decode cX2_discharge 138 = .ok (.iconst 1, 1) := by decide +kernel
theorem dX2_discharge_139 : decode cX2_discharge 139 = .ok (.isub, 1) := by decide +kernel
theorem dX2_discharge_140 : decode cX2_discharge 140 = .ok (.putfield 90, 3) := by decide +kernel
theorem dX2_discharge_143 : decode cX2_discharge 143 = .ok (.aload_n 0, 1) := by decide +kernel
theorem dX2_discharge_144 : decode cX2_discharge 144 = .ok (.getfield 90, 3) := by decide +kernel
theorem dX2_discharge_147 : decode cX2_discharge 147 = .ok (.ifCond .ne 8, 3) := by decide +kernel
theorem dX2_discharge_150 : decode cX2_discharge 150 = .ok (.aload_n 0, 1) := by decide +kernel
theorem dX2_discharge_151 : decode cX2_discharge 151 = .ok (.iconst 0, 1) := by decide +kernel
theorem dX2_discharge_152 : decode cX2_discharge 152 = .ok (.putfield 93, 3) := by decide +kernel
theorem dX2_discharge_155 : decode cX2_discharge 155 = .ok (.iconst 3, 1) := by decide +kernel
theorem dX2_discharge_156 : decode cX2_discharge 156 = .ok (.aload_n 0, 1) := by decide +kernel
theorem dX2_discharge_157 : decode cX2_discharge 157 = .ok (.getfield 90, 3) := by decide +kernel
theorem dX2_discharge_160 : decode cX2_discharge 160 = .ok (.imul, 1) := by decide +kernel
theorem dX2_discharge_161 : decode cX2_discharge 161 = .ok (.iconst 2, 1) := by decide +kernel
theorem dX2_discharge_162 : decode cX2_discharge 162 = .ok (.aload_n 0, 1) := by decide +kernel
theorem dX2_discharge_163 : decode cX2_discharge 163 = .ok (.getfield 93, 3) := by decide +kernel
theorem dX2_discharge_166 : decode cX2_discharge 166 = .ok (.imul, 1) := by decide +kernel
theorem dX2_discharge_167 : decode cX2_discharge 167 = .ok (.if_icmp .lt 5, 3) := by decide +kernel
theorem dX2_discharge_170 : decode cX2_discharge 170 = .ok (.iconst 0, 1) := by decide +kernel
theorem dX2_discharge_171 : decode cX2_discharge 171 = .ok (.ireturn, 1) := by decide +kernel
theorem dX2_discharge_172 : decode cX2_discharge 172 = .ok (.aload_n 0, 1) := by decide +kernel
theorem dX2_discharge_173 : decode cX2_discharge 173 = .ok (.aload_n 0, 1) := by decide +kernel
theorem dX2_discharge_174 : decode cX2_discharge 174 = .ok (.getfield 9, 3) := by decide +kernel
theorem dX2_discharge_177 : decode cX2_discharge 177 = .ok (.invokevirtual 108, 3) := by decide +kernel
theorem dX2_discharge_180 : decode cX2_discharge 180 = .ok (.pop, 1) := by decide +kernel
theorem dX2_discharge_181 : decode cX2_discharge 181 = .ok (.iconst 1, 1) := by decide +kernel
theorem dX2_discharge_182 : decode cX2_discharge 182 = .ok (.ireturn, 1) := by decide +kernel
theorem dX2_next_0 : decode cX2_next 0 = .ok (.iload_n 1, 1) := by decide +kernel
theorem dX2_next_1 : decode cX2_next 1 = .ok (.istore_n 2, 1) := by decide +kernel
theorem dX2_next_2 : decode cX2_next 2 = .ok (.aload_n 0, 1) := by decide +kernel
theorem dX2_next_3 : decode cX2_next 3 = .ok (.getfield 21, 3) := by decide +kernel
theorem dX2_next_6 : decode cX2_next 6 = .ok (.iload_n 1, 1) := by decide +kernel
theorem dX2_next_7 : decode cX2_next 7 = .ok (.iaload, 1) := by decide +kernel
theorem dX2_next_8 : decode cX2_next 8 = .ok (.istore_n 3, 1) := by decide +kernel
theorem dX2_next_9 : decode cX2_next 9 = .ok (.aload_n 0, 1) := by decide +kernel
theorem dX2_next_10 : decode cX2_next 10 = .ok (.getfield 17, 3) := by decide +kernel
theorem dX2_next_13 : decode cX2_next 13 = .ok (.iload_n 3, 1) := by decide +kernel
theorem dX2_next_14 : decode cX2_next 14 = .ok (.iaload, 1) := by decide +kernel
theorem dX2_next_15 : decode cX2_next 15 = .ok (.iconst (-1), 1) := by decide +kernel
theorem dX2_next_16 : decode cX2_next 16 = .ok (.if_icmp .eq 15, 3) := by decide +kernel
theorem dX2_next_19 : decode cX2_next 19 = .ok (.iload_n 3, 1) := by decide +kernel
theorem dX2_next_20 : decode cX2_next 20 = .ok (.istore_n 2, 1) := by decide +kernel
theorem dX2_next_21 : decode cX2_next 21 = .ok (.aload_n 0, 1) := by decide +kernel
theorem dX2_next_22 : decode cX2_next 22 = .ok (.getfield 17, 3) := by decide +kernel
theorem dX2_next_25 : decode cX2_next 25 = .ok (.iload_n 3, 1) := by decide +kernel
theorem dX2_next_26 : decode cX2_next 26 = .ok (.iaload, 1) := by decide +kernel
theorem dX2_next_27 : decode cX2_next 27 = .ok (.istore_n 3, 1) := by decide +kernel
theorem dX2_next_28 : decode cX2_next 28 = .ok (.goto (-19), 3) := by decide +kernel
theorem dX2_next_31 : decode cX2_next 31 = .ok (.iload_n 2, 1) := by decide +kernel
theorem dX2_next_32 : decode cX2_next 32 = .ok (.iload_n 1, 1) := by decide +kernel
theorem dX2_next_33 : decode cX2_next 33 = .ok (.if_icmp .eq 27, 3) := by decide +kernel
theorem dX2_next_36 : decode cX2_next 36 = .ok (.aload_n 0, 1) := by decide +kernel
theorem dX2_next_37 : decode cX2_next 37 = .ok (.getfield 17, 3) := by decide +kernel
theorem dX2_next_40 : decode cX2_next 40 = .ok (.iload_n 2, 1) := by decide +kernel
theorem dX2_next_41 : decode cX2_next 41 = .ok (.aload_n 0, 1) := by decide +kernel
theorem dX2_next_42 : decode cX2_next 42 = .ok (.getfield 21, 3) := by decide +kernel
theorem dX2_next_45 : decode cX2_next 45 = .ok (.iload_n 3, 1) := by decide +kernel
theorem dX2_next_46 : decode cX2_next 46 = .ok (.iaload, 1) := by decide +kernel
theorem dX2_next_47 : decode cX2_next 47 = .ok (.iastore, 1) := by decide +kernel
theorem dX2_next_48 : decode cX2_next 48 = .ok (.aload_n 0, 1) := by decide +kernel
theorem dX2_next_49 : decode cX2_next 49 = .ok (.getfield 21, 3) := by decide +kernel
theorem dX2_next_52 : decode cX2_next 52 = .ok (.iload_n 3, 1) := by decide +kernel
theorem dX2_next_53 : decode cX2_next 53 = .ok (.aload_n 0, 1) := by decide +kernel
theorem dX2_next_54 : decode cX2_next 54 = .ok (.getfield 21, 3) := by decide +kernel
theorem dX2_next_57 : decode cX2_next 57 = .ok (.iload_n 1, 1) := by decide +kernel
theorem dX2_next_58 : decode cX2_next 58 = .ok (.iaload, 1) := by decide +kernel
theorem dX2_next_59 : decode cX2_next 59 = .ok (.iastore, 1) := by decide +kernel
theorem dX2_next_60 : decode cX2_next 60 = .ok (.aload_n 0, 1) := by decide +kernel
theorem dX2_next_61 : decode cX2_next 61 = .ok (.getfield 17, 3) := by decide +kernel
theorem dX2_next_64 : decode cX2_next 64 = .ok (.iload_n 3, 1) := by decide +kernel
theorem dX2_next_65 : decode cX2_next 65 = .ok (.aload_n 0, 1) := by decide +kernel
theorem dX2_next_66 : decode cX2_next 66 = .ok (.getfield 17, 3) := by decide +kernel
theorem dX2_next_69 : decode cX2_next 69 = .ok (.iload_n 1, 1) := by decide +kernel
theorem dX2_next_70 : decode cX2_next 70 = .ok (.iaload, 1) := by decide +kernel
theorem dX2_next_71 : decode cX2_next 71 = .ok (.iastore, 1) := by decide +kernel
theorem dX2_next_72 : decode cX2_next 72 = .ok (.iload_n 3, 1) := by decide +kernel
theorem dX2_next_73 : decode cX2_next 73 = .ok (.ireturn, 1) := by decide +kernel
set_option maxRecDepth 20000 in
theorem ggX2_draw_X2_isHeight : GoodIn wsX2_draw wsX2_isHeight := goodIn_r _ [6] (by decide +kernel) (by decide +kernel)
set_option maxRecDepth 20000 in
theorem gX2_draw_X2_isHeight : GoodIn wsX2_draw (va_wsS RX2 96 yX2_isHeight wsX2_isHeight) := goodIn_app (goodIn_of _ (by decide +kernel)) ggX2_draw_X2_isHeight
set_option maxRecDepth 20000 in
theorem ggX2_draw_X2_drawUp : GoodIn wsX2_draw wsX2_drawUp := goodIn_r _ [10, 11, 12, 13, 14, 15, 16, 17, 18, 19, 20, 5, 21, 22, 23, 24, 25, 26, 27, 28, 29, 30, 31, 32, 33, 34, 35, 36, 37, 38, 39, 40, 41, 42, 43, 44, 45, 46, 47, 48, 49, 50] (by decide +kernel) (by decide +kernel)
set_option maxRecDepth 20000 in
theorem gX2_draw_X2_drawUp : GoodIn wsX2_draw (wsV RX2 108 RX2 yX2_drawUp wsX2_drawUp) := goodIn_app (goodIn_of _ (by decide +kernel)) ggX2_draw_X2_drawUp
theorem dX2_draw_0 : decode cX2_draw 0 = .ok (.aload_n 0, 1) := by decide +kernel
theorem dX2_draw_1 : decode cX2_draw 1 = .ok (.iload_n 1, 1) := by decide +kernel
theorem dX2_draw_2 : decode cX2_draw 2 = .ok (.invokestatic 96, 3) := by decide +kernel
theorem dX2_draw_5 : decode cX2_draw 5 = .ok (.ifCond .ne 7, 3) := by decide +kernel
theorem dX2_draw_8 : decode cX2_draw 8 = .ok (.iconst 1, 1) := by decide +kernel
theorem dX2_draw_9 : decode cX2_draw 9 = .ok (.goto 17, 3) := by decide +kernel
theorem dX2_draw_12 : decode cX2_draw 12 = .ok (.aload_n 0, 1) := by decide +kernel
theorem dX2_draw_13 : decode cX2_draw 13 = .ok (.getfield 13, 3) := by decide +kernel
theorem dX2_draw_16 : decode cX2_draw 16 = .ok (.iload_n 1, 1) := by decide +kernel
theorem dX2_draw_17 : decode cX2_draw 17 = .ok (.baload, 1) := by decide +kernel
theorem dX2_draw_18 : decode cX2_draw 18 = .ok (.ifCond .eq 7, 3) := by decide +kernel
theorem dX2_draw_21 : decode cX2_draw 21 = .ok (.iconst 0, 1) := by decide +kernel
theorem dX2_draw_22 : decode cX2_draw 22 = .ok (.goto 4, 3) := by decide +kernel
theorem dX2_draw_25 : decode cX2_draw 25 = .ok (.iconst 2, 1) := by decide +kernel
theorem dX2_draw_26 : decode cX2_draw 26 = .ok (.putfield 30, 3) := by decide +kernel
theorem dX2_draw_29 : decode cX2_draw 29 = .ok (.aload_n 0, 1) := by decide +kernel
theorem dX2_draw_30 : decode cX2_draw 30 = .ok (.getfield 30, 3) := by decide +kernel
theorem dX2_draw_33 : decode cX2_draw 33 = .ok (.ifCond .ne 11, 3) := by decide +kernel
theorem dX2_draw_36 : decode cX2_draw 36 = .ok (.aload_n 0, 1) := by decide +kernel
theorem dX2_draw_37 : decode cX2_draw 37 = .ok (.iload_n 1, 1) := by decide +kernel
theorem dX2_draw_38 : decode cX2_draw 38 = .ok (.invokevirtual 108, 3) := by decide +kernel
theorem dX2_draw_41 : decode cX2_draw 41 = .ok (.goto 4, 3) := by decide +kernel
theorem dX2_draw_44 : decode cX2_draw 44 = .ok (.iconst 0, 1) := by decide +kernel
theorem dX2_draw_45 : decode cX2_draw 45 = .ok (.ireturn, 1) := by decide +kernel
set_option maxRecDepth 20000 in
theorem ggX2_isThere_X2_isHeight : GoodIn wsX2_isThere wsX2_isHeight := goodIn_r _ [6] (by decide +kernel) (by decide +kernel)
set_option maxRecDepth 20000 in
theorem gX2_isThere_X2_isHeight : GoodIn wsX2_isThere (va_wsS RX2 96 yX2_isHeight wsX2_isHeight) := goodIn_app (goodIn_of _ (by decide +kernel)) ggX2_isThere_X2_isHeight
theorem dX2_isThere_0 : decode cX2_isThere 0 = .ok (.aload_n 0, 1) := by decide +kernel
theorem dX2_isThere_1 : decode cX2_isThere 1 = .ok (.iload_n 1, 1) := by decide +kernel
theorem dX2_isThere_2 : decode cX2_isThere 2 = .ok (.invokestatic 96, 3) := by decide +kernel
theorem dX2_isThere_5 : decode cX2_isThere 5 = .ok (.ifCond .eq 7, 3) := by decide +kernel
theorem dX2_isThere_8 : decode cX2_isThere 8 = .ok (.iconst 0, 1) := by decide +kernel
theorem dX2_isThere_9 : decode cX2_isThere 9 = .ok (.goto 4, 3) := by decide +kernel
theorem dX2_isThere_12 : decode cX2_isThere 12 = .ok (.iconst 1, 1) := by decide +kernel
theorem dX2_isThere_13 : decode cX2_isThere 13 = .ok (.putfield 30, 3) := by decide +kernel
theorem dX2_isThere_16 : decode cX2_isThere 16 = .ok (.aload_n 0, 1) := by decide +kernel
theorem dX2_isThere_17 : decode cX2_isThere 17 = .ok (.getfield 30, 3) := by decide +kernel
theorem dX2_isThere_20 : decode cX2_isThere 20 = .ok (.ifCond .ne 16, 3) := by decide +kernel
theorem dX2_isThere_23 : decode cX2_isThere 23 = .ok (.aload_n 0, 1) := by decide +kernel
theorem dX2_isThere_24 : decode cX2_isThere 24 = .ok (.getfield 13, 3) := by decide +kernel
theorem dX2_isThere_27 : decode cX2_isThere 27 = .ok (.iload_n 1, 1) := by decide +kernel
theorem dX2_isThere_28 : decode cX2_isThere 28 = .ok (.baload, 1) := by decide +kernel
theorem dX2_isThere_29 : decode cX2_isThere 29 = .ok (.ifCond .eq 7, 3) := by decide +kernel
theorem dX2_isThere_32 : decode cX2_isThere 32 = .ok (.iconst 1, 1) := by decide +kernel
theorem dX2_isThere_33 : decode cX2_isThere 33 = .ok (.goto 4, 3) := by decide +kernel
theorem dX2_isThere_36 : decode cX2_isThere 36 = .ok (.iconst 0, 1) := by decide +kernel
theorem dX2_isThere_37 : decode cX2_isThere 37 = .ok (.ireturn, 1) := by decide +kernel
theorem dX2_smaller_0 : decode cX2_smaller 0 = .ok (.iconst 0, 1) := by decide +kernel
theorem dX2_smaller_1 : decode cX2_smaller 1 = .ok (.istore_n 2, 1) := by decide +kernel
theorem dX2_smaller_2 : decode cX2_smaller 2 = .ok (.iconst 0, 1) := by decide +kernel
theorem dX2_smaller_3 : decode cX2_smaller 3 = .ok (.istore_n 3, 1) := by decide +kernel
theorem dX2_smaller_4 : decode cX2_smaller 4 = .ok (.iload_n 3, 1) := by decide +kernel
theorem dX2_smaller_5 : decode cX2_smaller 5 = .ok (.iload_n 1, 1) := by decide +kernel
theorem dX2_smaller_6 : decode cX2_smaller 6 = .ok (.if_icmp .ge 26, 3) := by decide +kernel
theorem dX2_smaller_9 : decode cX2_smaller 9 = .ok (.iload_n 2, 1) := by decide +kernel
theorem dX2_smaller_10 : decode cX2_smaller 10 = .ok (.aload_n 0, 1) := by decide +kernel
theorem dX2_smaller_11 : decode cX2_smaller 11 = .ok (.getfield 13, 3) := by decide +kernel
theorem dX2_smaller_14 : decode cX2_smaller 14 = .ok (.iload_n 3, 1) := by decide +kernel
theorem dX2_smaller_15 : decode cX2_smaller 15 = .ok (.baload, 1) := by decide +kernel
theorem dX2_smaller_16 : decode cX2_smaller 16 = .ok (.ifCond .eq 7, 3) := by decide +kernel
theorem dX2_smaller_19 : decode cX2_smaller 19 = .ok (.iconst 1, 1) := by decide +kernel
theorem dX2_smaller_20 : decode cX2_smaller 20 = .ok (.goto 4, 3) := by decide +kernel
theorem dX2_smaller_23 : decode cX2_smaller 23 = .ok (.iconst 0, 1) := by decide +kernel
theorem dX2_smaller_24 : decode cX2_smaller 24 = .ok (.iadd, 1) := by decide +kernel
theorem dX2_smaller_25 : decode cX2_smaller 25 = .ok (.istore_n 2, 1) := by decide +kernel
theorem dX2_smaller_26 : decode cX2_smaller 26 = .ok (.iinc 3 1, 3) := by decide +kernel
theorem dX2_smaller_29 : decode cX2_smaller 29 = .ok (.goto (-25), 3) := by decide +kernel
theorem dX2_smaller_32 : decode cX2_smaller 32 = .ok (.iload_n 2, 1) := by decide +kernel
theorem dX2_smaller_33 : decode cX2_smaller 33 = .ok (.ireturn, 1) := by decide +kernel
set_option maxRecDepth 20000 in
theorem ggX2_toldOf_X2_goTo : GoodIn wsX2_toldOf wsX2_goTo := goodIn_r _ [9, 1, 10, 2, 3, 4, 35, 36, 37, 38, 39, 40, 41, 42, 43, 44, 45, 46, 47] (by decide +kernel) (by decide +kernel)
set_option maxRecDepth 20000 in
theorem gX2_toldOf_X2_goTo : GoodIn wsX2_toldOf (wsV RX2 77 RX2 yX2_goTo wsX2_goTo) := goodIn_app (goodIn_of _ (by decide +kernel)) ggX2_toldOf_X2_goTo
set_option maxRecDepth 20000 in
theorem ggX2_toldOf_X2_size : GoodIn wsX2_toldOf wsX2_size := goodIn_r _ [14, 3, 4, 11, 12, 13, 8, 35, 36, 37, 38, 39, 40, 41, 42, 43, 44, 45, 46, 47] (by decide +kernel) (by decide +kernel)
set_option maxRecDepth 20000 in
theorem gX2_toldOf_X2_size : GoodIn wsX2_toldOf (wsV RX2 36 RX2 yX2_size wsX2_size) := goodIn_app (goodIn_of _ (by decide +kernel)) ggX2_toldOf_X2_size
set_option maxRecDepth 20000 in
theorem ggX2_toldOf_X2_deep : GoodIn wsX2_toldOf wsX2_deep := goodIn_r _ [18, 3, 4, 19, 20, 21, 22, 15, 16, 17, 8, 35, 36, 37, 38, 39, 40, 41, 42, 43, 44, 45, 46, 47] (by decide +kernel) (by decide +kernel)
set_option maxRecDepth 20000 in
theorem gX2_toldOf_X2_deep : GoodIn wsX2_toldOf (wsV RX2 40 RX2 yX2_deep wsX2_deep) := goodIn_app (goodIn_of _ (by decide +kernel)) ggX2_toldOf_X2_deep
set_option maxRecDepth 20000 in
theorem ggX2_toldOf_X2_isCrooked_ : GoodIn wsX2_toldOf wsX2_isCrooked_ := goodIn_r _ [26, 3, 4, 11, 12, 13, 8, 14, 27, 28, 29, 19, 20, 21, 22, 35, 36, 37, 38, 39, 40, 41, 42, 43, 44, 45, 46, 47] (by decide +kernel) (by decide +kernel)
set_option maxRecDepth 20000 in
theorem gX2_toldOf_X2_isCrooked_ : GoodIn wsX2_toldOf (wsV RX2 53 RX2 yX2_isCrooked_ wsX2_isCrooked_) := goodIn_app (goodIn_of _ (by decide +kernel)) ggX2_toldOf_X2_isCrooked_
set_option maxRecDepth 20000 in
theorem ggX2_toldOf_X2_smaller : GoodIn wsX2_toldOf wsX2_smaller := goodIn_r _ [33, 34, 35, 36, 37, 38, 39, 40, 41, 42, 43, 44, 45, 46, 47] (by decide +kernel) (by decide +kernel)
set_option maxRecDepth 20000 in
theorem gX2_toldOf_X2_smaller : GoodIn wsX2_toldOf (wsV RX2 114 RX2 yX2_smaller wsX2_smaller) := goodIn_app (goodIn_of _ (by decide +kernel)) ggX2_toldOf_X2_smaller
theorem dX2_toldOf_0 : decode cX2_toldOf 0 = .ok (.aload_n 0, 1) := by decide +kernel
theorem dX2_toldOf_1 : decode cX2_toldOf 1 = .ok (.iload_n 1, 1) := by decide +kernel
theorem dX2_toldOf_2 : decode cX2_toldOf 2 = .ok (.invokevirtual 77, 3) := by decide +kernel
theorem dX2_toldOf_5 : decode cX2_toldOf 5 = .ok (.iload_n 2, 1) := by decide +kernel
theorem dX2_toldOf_6 : decode cX2_toldOf 6 = .ok (.tableswitch 113 0 6 #[42, 49, 73, 80, 87, 93, 99], 42) := by decide +kernel
theorem dX2_toldOf_48 : decode cX2_toldOf 48 = .ok (.aload_n 0, 1) := by decide +kernel
theorem dX2_toldOf_49 : decode cX2_toldOf 49 = .ok (.getfield 33, 3) := by decide +kernel
theorem dX2_toldOf_52 : decode cX2_toldOf 52 = .ok (.iconst 1, 1) := by decide +kernel
theorem dX2_toldOf_53 : decode cX2_toldOf 53 = .ok (.isub, 1) := by decide +kernel
theorem dX2_toldOf_54 : decode cX2_toldOf 54 = .ok (.ireturn, 1) := by decide +kernel
theorem dX2_toldOf_55 : decode cX2_toldOf 55 = .ok (.aload_n 0, 1) := by decide +kernel
theorem dX2_toldOf_56 : decode cX2_toldOf 56 = .ok (.getfield 33, 3) := by decide +kernel
theorem dX2_toldOf_59 : decode cX2_toldOf 59 = .ok (.iconst 1, 1) := by decide +kernel
theorem dX2_toldOf_60 : decode cX2_toldOf 60 = .ok (.if_icmp .le 17, 3) := by decide +kernel
theorem dX2_toldOf_63 : decode cX2_toldOf 63 = .ok (.aload_n 0, 1) := by decide +kernel
theorem dX2_toldOf_64 : decode cX2_toldOf 64 = .ok (.getfield 24, 3) := by decide +kernel
theorem dX2_toldOf_67 : decode cX2_toldOf 67 = .ok (.aload_n 0, 1) := by decide +kernel
theorem dX2_toldOf_68 : decode cX2_toldOf 68 = .ok (.getfield 33, 3) := by decide +kernel
theorem dX2_toldOf_71 : decode cX2_toldOf 71 = .ok (.iconst 2, 1) := by decide +kernel
theorem dX2_toldOf_72 : decode cX2_toldOf 72 = .ok (.isub, 1) := by decide +kernel
theorem dX2_toldOf_73 : decode cX2_toldOf 73 = .ok (.iaload, 1) := by decide +kernel
theorem dX2_toldOf_74 : decode cX2_toldOf 74 = .ok (.goto 4, 3) := by decide +kernel
theorem dX2_toldOf_77 : decode cX2_toldOf 77 = .ok (.iconst (-1), 1) := by decide +kernel
theorem dX2_toldOf_78 : decode cX2_toldOf 78 = .ok (.ireturn, 1) := by decide +kernel
theorem dX2_toldOf_79 : decode cX2_toldOf 79 = .ok (.aload_n 0, 1) := by decide +kernel
theorem dX2_toldOf_80 : decode cX2_toldOf 80 = .ok (.getfield 17, 3) := by decide +kernel
theorem dX2_toldOf_83 : decode cX2_toldOf 83 = .ok (.iload_n 1, 1) := by decide +kernel
theorem dX2_toldOf_84 : decode cX2_toldOf 84 = .ok (.iaload, 1) := by decide +kernel
theorem dX2_toldOf_85 : decode cX2_toldOf 85 = .ok (.ireturn, 1) := by decide +kernel
theorem dX2_toldOf_86 : decode cX2_toldOf 86 = .ok (.aload_n 0, 1) := by decide +kernel
theorem dX2_toldOf_87 : decode cX2_toldOf 87 = .ok (.getfield 21, 3) := by decide +kernel
theorem dX2_toldOf_90 : decode cX2_toldOf 90 = .ok (.iload_n 1, 1) := by decide +kernel
theorem dX2_toldOf_91 : decode cX2_toldOf 91 = .ok (.iaload, 1) := by decide +kernel
theorem dX2_toldOf_92 : decode cX2_toldOf 92 = .ok (.ireturn, 1) := by decide +kernel
theorem dX2_toldOf_93 : decode cX2_toldOf 93 = .ok (.aload_n 0, 1) := by decide +kernel
theorem dX2_toldOf_94 : decode cX2_toldOf 94 = .ok (.iload_n 1, 1) := by decide +kernel
theorem dX2_toldOf_95 : decode cX2_toldOf 95 = .ok (.invokevirtual 36, 3) := by decide +kernel
theorem dX2_toldOf_98 : decode cX2_toldOf 98 = .ok (.ireturn, 1) := by decide +kernel
theorem dX2_toldOf_99 : decode cX2_toldOf 99 = .ok (.aload_n 0, 1) := by decide +kernel
theorem dX2_toldOf_100 : decode cX2_toldOf 100 = .ok (.iload_n 1, 1) := by decide +kernel
theorem dX2_toldOf_101 : decode cX2_toldOf 101 = .ok (.invokevirtual 40, 3) := by decide +kernel
theorem dX2_toldOf_104 : decode cX2_toldOf 104 = .ok (.ireturn, 1) := by decide +kernel
theorem dX2_toldOf_105 : decode cX2_toldOf 105 = .ok (.aload_n 0, 1) := by decide +kernel
theorem dX2_toldOf_106 : decode cX2_toldOf 106 = .ok (.iload_n 1, 1) := by decide +kernel
theorem dX2_toldOf_107 : decode cX2_toldOf 107 = .ok (.invokevirtual 53, 3) := by decide +kernel
theorem dX2_toldOf_110 : decode cX2_toldOf 110 = .ok (.ifCond .eq 7, 3) := by decide +kernel
theorem dX2_toldOf_113 : decode cX2_toldOf 113 = .ok (.iconst 1, 1) := by decide +kernel
theorem dX2_toldOf_114 : decode cX2_toldOf 114 = .ok (.goto 4, 3) := by decide +kernel
theorem dX2_toldOf_117 : decode cX2_toldOf 117 = .ok (.iconst 0, 1) := by decide +kernel
theorem dX2_toldOf_118 : decode cX2_toldOf 118 = .ok (.ireturn, 1) := by decide +kernel
theorem dX2_toldOf_119 : decode cX2_toldOf 119 = .ok (.aload_n 0, 1) := by decide +kernel
theorem dX2_toldOf_120 : decode cX2_toldOf 120 = .ok (.iload_n 1, 1) := by decide +kernel
theorem dX2_toldOf_121 : decode cX2_toldOf 121 = .ok (.invokevirtual 114, 3) := by decide +kernel
theorem dX2_toldOf_124 : decode cX2_toldOf 124 = .ok (.ireturn, 1) := by decide +kernel
set_option maxRecDepth 20000 in
theorem ggX2_told_X2_isHeight : GoodIn wsX2_told wsX2_isHeight := goodIn_r _ [6] (by decide +kernel) (by decide +kernel)
set_option maxRecDepth 20000 in
theorem gX2_told_X2_isHeight : GoodIn wsX2_told (va_wsS RX2 96 yX2_isHeight wsX2_isHeight) := goodIn_app (goodIn_of _ (by decide +kernel)) ggX2_told_X2_isHeight
set_option maxRecDepth 20000 in
theorem ggX2_told_X2_no : GoodIn wsX2_told wsX2_no := goodIn_r _ [10, 1, 47, 48, 49, 50, 51, 52, 53, 54, 55, 56, 57, 58, 59] (by decide +kernel) (by decide +kernel)
set_option maxRecDepth 20000 in
theorem gX2_told_X2_no : GoodIn wsX2_told (wsV RX2 99 RX2 yX2_no wsX2_no) := goodIn_app (goodIn_of _ (by decide +kernel)) ggX2_told_X2_no
set_option maxRecDepth 20000 in
theorem ggX2_told_X2_toldOf : GoodIn wsX2_told wsX2_toldOf := goodIn_r _ [14, 15, 16, 17, 18, 19, 20, 21, 5, 22, 23, 24, 25, 26, 27, 28, 29, 30, 31, 32, 33, 34, 35, 36, 37, 38, 39, 40, 41, 42, 43, 44, 45, 46, 2, 47, 48, 49, 50, 51, 52, 53, 54, 55, 56, 57, 58, 59] (by decide +kernel) (by decide +kernel)
set_option maxRecDepth 20000 in
theorem gX2_told_X2_toldOf : GoodIn wsX2_told (wsV RX2 117 RX2 yX2_toldOf wsX2_toldOf) := goodIn_app (goodIn_of _ (by decide +kernel)) ggX2_told_X2_toldOf
theorem dX2_told_0 : decode cX2_told 0 = .ok (.aload_n 0, 1) := by decide +kernel
theorem dX2_told_1 : decode cX2_told 1 = .ok (.iconst 0, 1) := by decide +kernel
theorem dX2_told_2 : decode cX2_told 2 = .ok (.putfield 30, 3) := by decide +kernel
theorem dX2_told_5 : decode cX2_told 5 = .ok (.iload_n 1, 1) := by decide +kernel
theorem dX2_told_6 : decode cX2_told 6 = .ok (.invokestatic 96, 3) := by decide +kernel
theorem dX2_told_9 : decode cX2_told 9 = .ok (.ifCond .ne 9, 3) := by decide +kernel
theorem dX2_told_12 : decode cX2_told 12 = .ok (.aload_n 0, 1) := by decide +kernel
theorem dX2_told_13 : decode cX2_told 13 = .ok (.iconst 1, 1) := by decide +kernel
theorem dX2_told_14 : decode cX2_told 14 = .ok (.invokevirtual 99, 3) := by decide +kernel
theorem dX2_told_17 : decode cX2_told 17 = .ok (.ireturn, 1) := by decide +kernel
theorem dX2_told_18 : decode cX2_told 18 = .ok (.iload_n 2, 1) := by decide +kernel
theorem dX2_told_19 : decode cX2_told 19 = .ok (.ifCond .lt 9, 3) := by decide +kernel
theorem dX2_told_22 : decode cX2_told 22 = .ok (.iload_n 2, 1) := by decide +kernel
theorem dX2_told_23 : decode cX2_told 23 = .ok (.bipush 7, 2) := by decide +kernel
theorem dX2_told_25 : decode cX2_told 25 = .ok (.if_icmp .le 9, 3) := by decide +kernel
theorem dX2_told_28 : decode cX2_told 28 = .ok (.aload_n 0, 1) := by decide +kernel
theorem dX2_told_29 : decode cX2_told 29 = .ok (.iconst 2, 1) := by decide +kernel
theorem dX2_told_30 : decode cX2_told 30 = .ok (.invokevirtual 99, 3) := by decide +kernel
theorem dX2_told_33 : decode cX2_told 33 = .ok (.ireturn, 1) := by decide +kernel
theorem dX2_told_34 : decode cX2_told 34 = .ok (.aload_n 0, 1) := by decide +kernel
theorem dX2_told_35 : decode cX2_told 35 = .ok (.getfield 13, 3) := by decide +kernel
theorem dX2_told_38 : decode cX2_told 38 = .ok (.iload_n 1, 1) := by decide +kernel
theorem dX2_told_39 : decode cX2_told 39 = .ok (.baload, 1) := by decide +kernel
theorem dX2_told_40 : decode cX2_told 40 = .ok (.ifCond .eq 12, 3) := by decide +kernel
theorem dX2_told_43 : decode cX2_told 43 = .ok (.aload_n 0, 1) := by decide +kernel
theorem dX2_told_44 : decode cX2_told 44 = .ok (.iload_n 1, 1) := by decide +kernel
theorem dX2_told_45 : decode cX2_told 45 = .ok (.iload_n 2, 1) := by decide +kernel
theorem dX2_told_46 : decode cX2_told 46 = .ok (.invokevirtual 117, 3) := by decide +kernel
theorem dX2_told_49 : decode cX2_told 49 = .ok (.goto 8, 3) := by decide +kernel
theorem dX2_told_52 : decode cX2_told 52 = .ok (.aload_n 0, 1) := by decide +kernel
theorem dX2_told_53 : decode cX2_told 53 = .ok (.iconst 3, 1) := by decide +kernel
theorem dX2_told_54 : decode cX2_told 54 = .ok (.invokevirtual 99, 3) := by decide +kernel
theorem dX2_told_57 : decode cX2_told 57 = .ok (.ireturn, 1) := by decide +kernel
set_option maxRecDepth 20000 in
theorem ggX2_at_X2_no : GoodIn wsX2_at wsX2_no := goodIn_r _ [8, 1, 9, 10, 11, 12, 13, 14, 15, 16, 17, 18, 19, 20, 21] (by decide +kernel) (by decide +kernel)
set_option maxRecDepth 20000 in
theorem gX2_at_X2_no : GoodIn wsX2_at (wsV RX2 99 RX2 yX2_no wsX2_no) := goodIn_app (goodIn_of _ (by decide +kernel)) ggX2_at_X2_no
theorem dX2_at_0 : decode cX2_at 0 = .ok (.aload_n 0, 1) := by decide +kernel
theorem dX2_at_1 : decode cX2_at 1 = .ok (.iconst 0, 1) := by decide +kernel
theorem dX2_at_2 : decode cX2_at 2 = .ok (.putfield 30, 3) := by decide +kernel
theorem dX2_at_5 : decode cX2_at 5 = .ok (.iload_n 1, 1) := by decide +kernel
theorem dX2_at_6 : decode cX2_at 6 = .ok (.ifCond .lt 11, 3) := by decide +kernel
theorem dX2_at_9 : decode cX2_at 9 = .ok (.iload_n 1, 1) := by decide +kernel
theorem dX2_at_10 : decode cX2_at 10 = .ok (.aload_n 0, 1) := by decide +kernel
theorem dX2_at_11 : decode cX2_at 11 = .ok (.getfield 90, 3) := by decide +kernel
theorem dX2_at_14 : decode cX2_at 14 = .ok (.if_icmp .lt 9, 3) := by decide +kernel
theorem dX2_at_17 : decode cX2_at 17 = .ok (.aload_n 0, 1) := by decide +kernel
theorem dX2_at_18 : decode cX2_at 18 = .ok (.iconst 1, 1) := by decide +kernel
theorem dX2_at_19 : decode cX2_at 19 = .ok (.invokevirtual 99, 3) := by decide +kernel
theorem dX2_at_22 : decode cX2_at 22 = .ok (.ireturn, 1) := by decide +kernel
theorem dX2_at_23 : decode cX2_at 23 = .ok (.iconst 0, 1) := by decide +kernel
theorem dX2_at_24 : decode cX2_at 24 = .ok (.istore_n 2, 1) := by decide +kernel
theorem dX2_at_25 : decode cX2_at 25 = .ok (.iload_n 1, 1) := by decide +kernel
theorem dX2_at_26 : decode cX2_at 26 = .ok (.istore_n 3, 1) := by decide +kernel
theorem dX2_at_27 : decode cX2_at 27 = .ok (.iload_n 3, 1) := by decide +kernel
theorem dX2_at_28 : decode cX2_at 28 = .ok (.ifCond .gt 12, 3) := by decide +kernel
theorem dX2_at_31 : decode cX2_at 31 = .ok (.aload_n 0, 1) := by decide +kernel
theorem dX2_at_32 : decode cX2_at 32 = .ok (.getfield 13, 3) := by decide +kernel
theorem dX2_at_35 : decode cX2_at 35 = .ok (.iload_n 2, 1) := by decide +kernel
theorem dX2_at_36 : decode cX2_at 36 = .ok (.baload, 1) := by decide +kernel
theorem dX2_at_37 : decode cX2_at 37 = .ok (.ifCond .ne 26, 3) := by decide +kernel
theorem dX2_at_40 : decode cX2_at 40 = .ok (.iload_n 3, 1) := by decide +kernel
theorem dX2_at_41 : decode cX2_at 41 = .ok (.aload_n 0, 1) := by decide +kernel
theorem dX2_at_42 : decode cX2_at 42 = .ok (.getfield 13, 3) := by decide +kernel
theorem dX2_at_45 : decode cX2_at 45 = .ok (.iload_n 2, 1) := by decide +kernel
theorem dX2_at_46 : decode cX2_at 46 = .ok (.baload, 1) := by decide +kernel
theorem dX2_at_47 : decode cX2_at 47 = .ok (.ifCond .eq 7, 3) := by decide +kernel
theorem dX2_at_50 : decode cX2_at 50 = .ok (.iconst 1, 1) := by decide +kernel
theorem dX2_at_51 : decode cX2_at 51 = .ok (.goto 4, 3) := by decide +kernel
theorem dX2_at_54 : decode cX2_at 54 = .ok (.iconst 0, 1) := by decide +kernel
theorem dX2_at_55 : decode cX2_at 55 = .ok (.isub, 1) := by decide +kernel
theorem dX2_at_56 : decode cX2_at 56 = .ok (.istore_n 3, 1) := by decide +kernel
theorem dX2_at_57 : decode cX2_at 57 = .ok (.iinc 2 1, 3) := by decide +kernel
theorem dX2_at_60 : decode cX2_at 60 = .ok (.goto (-33), 3) := by decide +kernel
theorem dX2_at_63 : decode cX2_at 63 = .ok (.iload_n 2, 1) := by decide +kernel
theorem dX2_at_64 : decode cX2_at 64 = .ok (.ireturn, 1) := by decide +kernel
set_option maxRecDepth 20000 in
theorem ggX2_between_X2_isHeight : GoodIn wsX2_between wsX2_isHeight := goodIn_r _ [6] (by decide +kernel) (by decide +kernel)
set_option maxRecDepth 20000 in
theorem gX2_between_X2_isHeight : GoodIn wsX2_between (va_wsS RX2 96 yX2_isHeight wsX2_isHeight) := goodIn_app (goodIn_of _ (by decide +kernel)) ggX2_between_X2_isHeight
set_option maxRecDepth 20000 in
theorem ggX2_between_X2_no : GoodIn wsX2_between wsX2_no := goodIn_r _ [10, 1, 11, 12, 13, 14, 15, 16, 17, 18, 19, 20, 21, 22, 23] (by decide +kernel) (by decide +kernel)
set_option maxRecDepth 20000 in
theorem gX2_between_X2_no : GoodIn wsX2_between (wsV RX2 99 RX2 yX2_no wsX2_no) := goodIn_app (goodIn_of _ (by decide +kernel)) ggX2_between_X2_no
theorem dX2_between_0 : decode cX2_between 0 = .ok (.aload_n 0, 1) := by decide +kernel
theorem dX2_between_1 : decode cX2_between 1 = .ok (.iconst 0, 1) := by decide +kernel
theorem dX2_between_2 : decode cX2_between 2 = .ok (.putfield 30, 3) := by decide +kernel
theorem dX2_between_5 : decode cX2_between 5 = .ok (.iload_n 1, 1) := by decide +kernel
theorem dX2_between_6 : decode cX2_between 6 = .ok (.invokestatic 96, 3) := by decide +kernel
theorem dX2_between_9 : decode cX2_between 9 = .ok (.ifCond .eq 10, 3) := by decide +kernel
theorem dX2_between_12 : decode cX2_between 12 = .ok (.iload_n 2, 1) := by decide +kernel
theorem dX2_between_13 : decode cX2_between 13 = .ok (.invokestatic 96, 3) := by decide +kernel
theorem dX2_between_16 : decode cX2_between 16 = .ok (.ifCond .ne 9, 3) := by decide +kernel
theorem dX2_between_19 : decode cX2_between 19 = .ok (.aload_n 0, 1) := by decide +kernel
theorem dX2_between_20 : decode cX2_between 20 = .ok (.iconst 1, 1) := by decide +kernel
theorem dX2_between_21 : decode cX2_between 21 = .ok (.invokevirtual 99, 3) := by decide +kernel
theorem dX2_between_24 : decode cX2_between 24 = .ok (.ireturn, 1) := by decide +kernel
theorem dX2_between_25 : decode cX2_between 25 = .ok (.iconst 0, 1) := by decide +kernel
theorem dX2_between_26 : decode cX2_between 26 = .ok (.istore_n 3, 1) := by decide +kernel
theorem dX2_between_27 : decode cX2_between 27 = .ok (.iload_n 1, 1) := by decide +kernel
theorem dX2_between_28 : decode cX2_between 28 = .ok (.istore 4, 2) := by decide +kernel
theorem dX2_between_30 : decode cX2_between 30 = .ok (.iload 4, 2) := by decide +kernel
theorem dX2_between_32 : decode cX2_between 32 = .ok (.iload_n 2, 1) := by decide +kernel
theorem dX2_between_33 : decode cX2_between 33 = .ok (.if_icmp .gt 27, 3) := by decide +kernel
theorem dX2_between_36 : decode cX2_between 36 = .ok (.iload_n 3, 1) := by decide +kernel
theorem dX2_between_37 : decode cX2_between 37 = .ok (.aload_n 0, 1) := by decide +kernel
theorem dX2_between_38 : decode cX2_between 38 = .ok (.getfield 13, 3) := by decide +kernel
theorem dX2_between_41 : decode cX2_between 41 = .ok (.iload 4, 2) := by decide +kernel
theorem dX2_between_43 : decode cX2_between 43 = .ok (.baload, 1) := by decide +kernel
theorem dX2_between_44 : decode cX2_between 44 = .ok (.ifCond .eq 7, 3) := by decide +kernel
theorem dX2_between_47 : decode cX2_between 47 = .ok (.iconst 1, 1) := by decide +kernel
theorem dX2_between_48 : decode cX2_between 48 = .ok (.goto 4, 3) := by decide +kernel
theorem dX2_between_51 : decode cX2_between 51 = .ok (.iconst 0, 1) := by decide +kernel
theorem dX2_between_52 : decode cX2_between 52 = .ok (.iadd, 1) := by decide +kernel
theorem dX2_between_53 : decode cX2_between 53 = .ok (.istore_n 3, 1) := by decide +kernel
theorem dX2_between_54 : decode cX2_between 54 = .ok (.iinc 4 1, 3) := by decide +kernel
theorem dX2_between_57 : decode cX2_between 57 = .ok (.goto (-27), 3) := by decide +kernel
theorem dX2_between_60 : decode cX2_between 60 = .ok (.iload_n 3, 1) := by decide +kernel
theorem dX2_between_61 : decode cX2_between 61 = .ok (.ireturn, 1) := by decide +kernel
set_option maxRecDepth 20000 in
theorem ggX2_captain_X2_isHeight : GoodIn wsX2_captain wsX2_isHeight := goodIn_r _ [16] (by decide +kernel) (by decide +kernel)
set_option maxRecDepth 20000 in
theorem gX2_captain_X2_isHeight : GoodIn wsX2_captain (va_wsS RX2 96 yX2_isHeight wsX2_isHeight) := goodIn_app (goodIn_of _ (by decide +kernel)) ggX2_captain_X2_isHeight
set_option maxRecDepth 20000 in
theorem ggX2_captain_X2_no : GoodIn wsX2_captain wsX2_no := goodIn_r _ [20, 1, 21, 22, 23, 24, 25, 26, 27, 28, 29, 30, 31, 32, 33] (by decide +kernel) (by decide +kernel)
set_option maxRecDepth 20000 in
theorem gX2_captain_X2_no : GoodIn wsX2_captain (wsV RX2 99 RX2 yX2_no wsX2_no) := goodIn_app (goodIn_of _ (by decide +kernel)) ggX2_captain_X2_no
theorem dX2_captain_0 : decode cX2_captain 0 = .ok (.aload_n 0, 1) := by decide +kernel
theorem dX2_captain_1 : decode cX2_captain 1 = .ok (.iconst 0, 1) := by decide +kernel
theorem dX2_captain_2 : decode cX2_captain 2 = .ok (.putfield 30, 3) := by decide +kernel
theorem dX2_captain_5 : decode cX2_captain 5 = .ok (.iload_n 1, 1) := by decide +kernel
theorem dX2_captain_6 : decode cX2_captain 6 = .ok (.invokestatic 96, 3) := by decide +kernel
theorem dX2_captain_9 : decode cX2_captain 9 = .ok (.ifCond .eq 10, 3) := by decide +kernel
theorem dX2_captain_12 : decode cX2_captain 12 = .ok (.iload_n 2, 1) := by decide +kernel
theorem dX2_captain_13 : decode cX2_captain 13 = .ok (.invokestatic 96, 3) := by decide +kernel
theorem dX2_captain_16 : decode cX2_captain 16 = .ok (.ifCond .ne 9, 3) := by decide +kernel
theorem dX2_captain_19 : decode cX2_captain 19 = .ok (.aload_n 0, 1) := by decide +kernel
theorem dX2_captain_20 : decode cX2_captain 20 = .ok (.iconst 1, 1) := by decide +kernel
theorem dX2_captain_21 : decode cX2_captain 21 = .ok (.invokevirtual 99, 3) := by decide +kernel
theorem dX2_captain_24 : decode cX2_captain 24 = .ok (.ireturn, 1) := by decide +kernel
theorem dX2_captain_25 : decode cX2_captain 25 = .ok (.aload_n 0, 1) := by decide +kernel
theorem dX2_captain_26 : decode cX2_captain 26 = .ok (.getfield 13, 3) := by decide +kernel
theorem dX2_captain_29 : decode cX2_captain 29 = .ok (.iload_n 1, 1) := by decide +kernel
theorem dX2_captain_30 : decode cX2_captain 30 = .ok (.baload, 1) := by decide +kernel
theorem dX2_captain_31 : decode cX2_captain 31 = .ok (.ifCond .eq 12, 3) := by decide +kernel
theorem dX2_captain_34 : decode cX2_captain 34 = .ok (.aload_n 0, 1) := by decide +kernel
theorem dX2_captain_35 : decode cX2_captain 35 = .ok (.getfield 13, 3) := by decide +kernel
theorem dX2_captain_38 : decode cX2_captain 38 = .ok (.iload_n 2, 1) := by decide +kernel
theorem dX2_captain_39 : decode cX2_captain 39 = .ok (.baload, 1) := by decide +kernel
theorem dX2_captain_40 : decode cX2_captain 40 = .ok (.ifCond .ne 9, 3) := by decide +kernel
theorem dX2_captain_43 : decode cX2_captain 43 = .ok (.aload_n 0, 1) := by decide +kernel
theorem dX2_captain_44 : decode cX2_captain 44 = .ok (.iconst 2, 1) := by decide +kernel
theorem dX2_captain_45 : decode cX2_captain 45 = .ok (.invokevirtual 99, 3) := by decide +kernel
theorem dX2_captain_48 : decode cX2_captain 48 = .ok (.ireturn, 1) := by decide +kernel
theorem dX2_captain_49 : decode cX2_captain 49 = .ok (.aload_n 0, 1) := by decide +kernel
theorem dX2_captain_50 : decode cX2_captain 50 = .ok (.getfield 9, 3) := by decide +kernel
theorem dX2_captain_53 : decode cX2_captain 53 = .ok (.istore_n 3, 1) := by decide +kernel
theorem dX2_captain_54 : decode cX2_captain 54 = .ok (.iload_n 3, 1) := by decide +kernel
theorem dX2_captain_55 : decode cX2_captain 55 = .ok (.iload_n 1, 1) := by decide +kernel
theorem dX2_captain_56 : decode cX2_captain 56 = .ok (.iload_n 2, 1) := by decide +kernel
theorem dX2_captain_57 : decode cX2_captain 57 = .ok (.invokestatic 120, 3) := by decide +kernel
theorem dX2_captain_60 : decode cX2_captain 60 = .ok (.if_icmp .lt 12, 3) := by decide +kernel
theorem dX2_captain_63 : decode cX2_captain 63 = .ok (.iload_n 3, 1) := by decide +kernel
theorem dX2_captain_64 : decode cX2_captain 64 = .ok (.iload_n 1, 1) := by decide +kernel
theorem dX2_captain_65 : decode cX2_captain 65 = .ok (.iload_n 2, 1) := by decide +kernel
theorem dX2_captain_66 : decode cX2_captain 66 = .ok (.invokestatic 43, 3) := by decide +kernel
theorem dX2_captain_69 : decode cX2_captain 69 = .ok (.if_icmp .le 27, 3) := by decide +kernel
theorem dX2_captain_72 : decode cX2_captain 72 = .ok (.iload_n 3, 1) := by decide +kernel
theorem dX2_captain_73 : decode cX2_captain 73 = .ok (.iload_n 1, 1) := by decide +kernel
theorem dX2_captain_74 : decode cX2_captain 74 = .ok (.if_icmp .ge 12, 3) := by decide +kernel
theorem dX2_captain_77 : decode cX2_captain 77 = .ok (.aload_n 0, 1) := by decide +kernel
theorem dX2_captain_78 : decode cX2_captain 78 = .ok (.getfield 21, 3) := by decide +kernel
theorem dX2_captain_81 : decode cX2_captain 81 = .ok (.iload_n 3, 1) := by decide +kernel
theorem dX2_captain_82 : decode cX2_captain 82 = .ok (.iaload, 1) := by decide +kernel
theorem dX2_captain_83 : decode cX2_captain 83 = .ok (.goto 9, 3) := by decide +kernel
theorem dX2_captain_86 : decode cX2_captain 86 = .ok (.aload_n 0, 1) := by decide +kernel
theorem dX2_captain_87 : decode cX2_captain 87 = .ok (.getfield 17, 3) := by decide +kernel
theorem dX2_captain_90 : decode cX2_captain 90 = .ok (.iload_n 3, 1) := by decide +kernel
theorem dX2_captain_91 : decode cX2_captain 91 = .ok (.iaload, 1) := by decide +kernel
theorem dX2_captain_92 : decode cX2_captain 92 = .ok (.istore_n 3, 1) := by decide +kernel
theorem dX2_captain_93 : decode cX2_captain 93 = .ok (.goto (-39), 3) := by decide +kernel
theorem dX2_captain_96 : decode cX2_captain 96 = .ok (.iload_n 3, 1) := by decide +kernel
theorem dX2_captain_97 : decode cX2_captain 97 = .ok (.ireturn, 1) := by decide +kernel
set_option maxRecDepth 20000 in
theorem ggX2_taller_X2_isHeight : GoodIn wsX2_taller wsX2_isHeight := goodIn_r _ [6] (by decide +kernel) (by decide +kernel)
set_option maxRecDepth 20000 in
theorem gX2_taller_X2_isHeight : GoodIn wsX2_taller (va_wsS RX2 96 yX2_isHeight wsX2_isHeight) := goodIn_app (goodIn_of _ (by decide +kernel)) ggX2_taller_X2_isHeight
set_option maxRecDepth 20000 in
theorem ggX2_taller_X2_no : GoodIn wsX2_taller wsX2_no := goodIn_r _ [10, 1, 11, 12, 13, 14, 15, 16, 17, 18, 19, 20, 21, 22, 23] (by decide +kernel) (by decide +kernel)
set_option maxRecDepth 20000 in
theorem gX2_taller_X2_no : GoodIn wsX2_taller (wsV RX2 99 RX2 yX2_no wsX2_no) := goodIn_app (goodIn_of _ (by decide +kernel)) ggX2_taller_X2_no
theorem dX2_taller_0 : decode cX2_taller 0 = .ok (.aload_n 0, 1) := by decide +kernel
theorem dX2_taller_1 : decode cX2_taller 1 = .ok (.iconst 0, 1) := by decide +kernel
theorem dX2_taller_2 : decode cX2_taller 2 = .ok (.putfield 30, 3) := by decide +kernel
theorem dX2_taller_5 : decode cX2_taller 5 = .ok (.iload_n 1, 1) := by decide +kernel
theorem dX2_taller_6 : decode cX2_taller 6 = .ok (.invokestatic 96, 3) := by decide +kernel
theorem dX2_taller_9 : decode cX2_taller 9 = .ok (.ifCond .ne 9, 3) := by decide +kernel
theorem dX2_taller_12 : decode cX2_taller 12 = .ok (.aload_n 0, 1) := by decide +kernel
theorem dX2_taller_13 : decode cX2_taller 13 = .ok (.iconst 1, 1) := by decide +kernel
theorem dX2_taller_14 : decode cX2_taller 14 = .ok (.invokevirtual 99, 3) := by decide +kernel
theorem dX2_taller_17 : decode cX2_taller 17 = .ok (.ireturn, 1) := by decide +kernel
theorem dX2_taller_18 : decode cX2_taller 18 = .ok (.iload_n 1, 1) := by decide +kernel
theorem dX2_taller_19 : decode cX2_taller 19 = .ok (.iconst 1, 1) := by decide +kernel
theorem dX2_taller_20 : decode cX2_taller 20 = .ok (.iadd, 1) := by decide +kernel
theorem dX2_taller_21 : decode cX2_taller 21 = .ok (.istore_n 2, 1) := by decide +kernel
theorem dX2_taller_22 : decode cX2_taller 22 = .ok (.iload_n 2, 1) := by decide +kernel
theorem dX2_taller_23 : decode cX2_taller 23 = .ok (.sipush 1000, 3) := by decide +kernel
theorem dX2_taller_26 : decode cX2_taller 26 = .ok (.if_icmp .ge 20, 3) := by decide +kernel
theorem dX2_taller_29 : decode cX2_taller 29 = .ok (.aload_n 0, 1) := by decide +kernel
theorem dX2_taller_30 : decode cX2_taller 30 = .ok (.getfield 13, 3) := by decide +kernel
theorem dX2_taller_33 : decode cX2_taller 33 = .ok (.iload_n 2, 1) := by decide +kernel
theorem dX2_taller_34 : decode cX2_taller 34 = .ok (.baload, 1) := by decide +kernel
theorem dX2_taller_35 : decode cX2_taller 35 = .ok (.ifCond .eq 5, 3) := by decide +kernel
theorem dX2_taller_38 : decode cX2_taller 38 = .ok (.iload_n 2, 1) := by decide +kernel
theorem dX2_taller_39 : decode cX2_taller 39 = .ok (.ireturn, 1) := by decide +kernel
theorem dX2_taller_40 : decode cX2_taller 40 = .ok (.iinc 2 1, 3) := by decide +kernel
theorem dX2_taller_43 : decode cX2_taller 43 = .ok (.goto (-21), 3) := by decide +kernel
theorem dX2_taller_46 : decode cX2_taller 46 = .ok (.iconst (-1), 1) := by decide +kernel
theorem dX2_taller_47 : decode cX2_taller 47 = .ok (.ireturn, 1) := by decide +kernel
set_option maxRecDepth 20000 in
theorem ggX2_counted_X2_deep : GoodIn wsX2_counted wsX2_deep := goodIn_r _ [11, 12, 13, 14, 15, 16, 17, 7, 8, 9, 10, 38, 39, 40, 41, 42, 43, 44, 45, 46, 47, 48, 49, 50] (by decide +kernel) (by decide +kernel)
set_option maxRecDepth 20000 in
theorem gX2_counted_X2_deep : GoodIn wsX2_counted (wsV RX2 40 RX2 yX2_deep wsX2_deep) := goodIn_app (goodIn_of _ (by decide +kernel)) ggX2_counted_X2_deep
set_option maxRecDepth 20000 in
theorem ggX2_counted_X2_allowed : GoodIn wsX2_counted wsX2_allowed := goodIn_r _ [20, 21, 22] (by decide +kernel) (by decide +kernel)
set_option maxRecDepth 20000 in
theorem gX2_counted_X2_allowed : GoodIn wsX2_counted (va_wsS RX2 102 yX2_allowed wsX2_allowed) := goodIn_app (goodIn_of _ (by decide +kernel)) ggX2_counted_X2_allowed
set_option maxRecDepth 20000 in
theorem ggX2_counted_X2_crookedIn : GoodIn wsX2_counted wsX2_crookedIn := goodIn_r _ [26, 12, 13, 27, 28, 29, 10, 30, 31, 32, 33, 34, 35, 36, 37, 14, 15, 16, 17, 23, 24, 25, 38, 39, 40, 41, 42, 43, 44, 45, 46, 47, 48, 49, 50] (by decide +kernel) (by decide +kernel)
set_option maxRecDepth 20000 in
theorem gX2_counted_X2_crookedIn : GoodIn wsX2_counted (wsV RX2 56 RX2 yX2_crookedIn wsX2_crookedIn) := goodIn_app (goodIn_of _ (by decide +kernel)) ggX2_counted_X2_crookedIn
theorem dX2_counted_0 : decode cX2_counted 0 = .ok (.bipush 8, 2) := by decide +kernel
theorem dX2_counted_2 : decode cX2_counted 2 = .ok (.newarray .int, 2) := by decide +kernel
theorem dX2_counted_4 : decode cX2_counted 4 = .ok (.dup, 1) := by decide +kernel
theorem dX2_counted_5 : decode cX2_counted 5 = .ok (.iconst 0, 1) := by decide +kernel
theorem dX2_counted_6 : decode cX2_counted 6 = .ok (.aload_n 0, 1) := by decide +kernel
theorem dX2_counted_7 : decode cX2_counted 7 = .ok (.getfield 90, 3) := by decide +kernel
theorem dX2_counted_10 : decode cX2_counted 10 = .ok (.iastore, 1) := by decide +kernel
theorem dX2_counted_11 : decode cX2_counted 11 = .ok (.dup, 1) := by decide +kernel
theorem dX2_counted_12 : decode cX2_counted 12 = .ok (.iconst 1, 1) := by decide +kernel
theorem dX2_counted_13 : decode cX2_counted 13 = .ok (.aload_n 0, 1) := by decide +kernel
theorem dX2_counted_14 : decode cX2_counted 14 = .ok (.getfield 9, 3) := by decide +kernel
theorem dX2_counted_17 : decode cX2_counted 17 = .ok (.iastore, 1) := by decide +kernel
theorem dX2_counted_18 : decode cX2_counted 18 = .ok (.dup, 1) := by decide +kernel
theorem dX2_counted_19 : decode cX2_counted 19 = .ok (.iconst 2, 1) := by decide +kernel
theorem dX2_counted_20 : decode cX2_counted 20 = .ok (.aload_n 0, 1) := by decide +kernel
theorem dX2_counted_21 : decode cX2_counted 21 = .ok (.aload_n 0, 1) := by decide +kernel
theorem dX2_counted_22 : decode cX2_counted 22 = .ok (.getfield 9, 3) := by decide +kernel
theorem dX2_counted_25 : decode cX2_counted 25 = .ok (.invokevirtual 40, 3) := by decide +kernel
theorem dX2_counted_28 : decode cX2_counted 28 = .ok (.iastore, 1) := by decide +kernel
theorem dX2_counted_29 : decode cX2_counted 29 = .ok (.dup, 1) := by decide +kernel
theorem dX2_counted_30 : decode cX2_counted 30 = .ok (.iconst 3, 1) := by decide +kernel
theorem dX2_counted_31 : decode cX2_counted 31 = .ok (.aload_n 0, 1) := by decide +kernel
theorem dX2_counted_32 : decode cX2_counted 32 = .ok (.getfield 90, 3) := by decide +kernel
theorem dX2_counted_35 : decode cX2_counted 35 = .ok (.invokestatic 102, 3) := by decide +kernel
theorem dX2_counted_38 : decode cX2_counted 38 = .ok (.iastore, 1) := by decide +kernel
theorem dX2_counted_39 : decode cX2_counted 39 = .ok (.dup, 1) := by decide +kernel
theorem dX2_counted_40 : decode cX2_counted 40 = .ok (.iconst 4, 1) := by decide +kernel
theorem dX2_counted_41 : decode cX2_counted 41 = .ok (.aload_n 0, 1) := by decide +kernel
theorem dX2_counted_42 : decode cX2_counted 42 = .ok (.aload_n 0, 1) := by decide +kernel
theorem dX2_counted_43 : decode cX2_counted 43 = .ok (.getfield 9, 3) := by decide +kernel
theorem dX2_counted_46 : decode cX2_counted 46 = .ok (.invokevirtual 56, 3) := by decide +kernel
theorem dX2_counted_49 : decode cX2_counted 49 = .ok (.iastore, 1) := by decide +kernel
theorem dX2_counted_50 : decode cX2_counted 50 = .ok (.dup, 1) := by decide +kernel
theorem dX2_counted_51 : decode cX2_counted 51 = .ok (.iconst 5, 1) := by decide +kernel
theorem dX2_counted_52 : decode cX2_counted 52 = .ok (.aload_n 0, 1) := by decide +kernel
theorem dX2_counted_53 : decode cX2_counted 53 = .ok (.getfield 84, 3) := by decide +kernel
theorem dX2_counted_56 : decode cX2_counted 56 = .ok (.iastore, 1) := by decide +kernel
theorem dX2_counted_57 : decode cX2_counted 57 = .ok (.dup, 1) := by decide +kernel
theorem dX2_counted_58 : decode cX2_counted 58 = .ok (.bipush 6, 2) := by decide +kernel
theorem dX2_counted_60 : decode cX2_counted 60 = .ok (.aload_n 0, 1) := by decide +kernel
theorem dX2_counted_61 : decode cX2_counted 61 = .ok (.getfield 87, 3) := by decide +kernel
theorem dX2_counted_64 : decode cX2_counted 64 = .ok (.iastore, 1) := by decide +kernel
theorem dX2_counted_65 : decode cX2_counted 65 = .ok (.dup, 1) := by decide +kernel
theorem dX2_counted_66 : decode cX2_counted 66 = .ok (.bipush 7, 2) := by decide +kernel
theorem dX2_counted_68 : decode cX2_counted 68 = .ok (.aload_n 0, 1) := by decide +kernel
theorem dX2_counted_69 : decode cX2_counted 69 = .ok (.getfield 93, 3) := by decide +kernel
theorem dX2_counted_72 : decode cX2_counted 72 = .ok (.iastore, 1) := by decide +kernel
theorem dX2_counted_73 : decode cX2_counted 73 = .ok (.astore_n 2, 1) := by decide +kernel
theorem dX2_counted_74 : decode cX2_counted 74 = .ok (.aload_n 2, 1) := by decide +kernel
theorem dX2_counted_75 : decode cX2_counted 75 = .ok (.iload_n 1, 1) := by decide +kernel
theorem dX2_counted_76 : decode cX2_counted 76 = .ok (.iaload, 1) := by decide +kernel
theorem dX2_counted_77 : decode cX2_counted 77 = .ok (.ireturn, 1) := by decide +kernel
set_option maxRecDepth 20000 in
theorem ggX2_count_X2_counted : GoodIn wsX2_count wsX2_counted := goodIn_r _ [6, 7, 8, 9, 10, 11, 12, 13, 14, 15, 5, 16, 17, 18, 19, 20, 21, 22, 23, 24, 25, 26, 27, 28, 29, 30, 31, 32, 33, 34, 35, 36, 37, 38, 39, 40, 41, 42, 47, 48, 49, 50, 51, 52, 53, 54, 55, 56, 57, 58, 59] (by decide +kernel) (by decide +kernel)
set_option maxRecDepth 20000 in
theorem gX2_count_X2_counted : GoodIn wsX2_count (wsV RX2 123 RX2 yX2_counted wsX2_counted) := goodIn_app (goodIn_of _ (by decide +kernel)) ggX2_count_X2_counted
set_option maxRecDepth 20000 in
theorem ggX2_count_X2_no : GoodIn wsX2_count wsX2_no := goodIn_r _ [46, 1, 47, 48, 49, 50, 51, 52, 53, 54, 55, 56, 57, 58, 59] (by decide +kernel) (by decide +kernel)
set_option maxRecDepth 20000 in
theorem gX2_count_X2_no : GoodIn wsX2_count (wsV RX2 99 RX2 yX2_no wsX2_no) := goodIn_app (goodIn_of _ (by decide +kernel)) ggX2_count_X2_no
theorem dX2_count_0 : decode cX2_count 0 = .ok (.aload_n 0, 1) := by decide +kernel
theorem dX2_count_1 : decode cX2_count 1 = .ok (.iconst 0, 1) := by decide +kernel
theorem dX2_count_2 : decode cX2_count 2 = .ok (.putfield 30, 3) := by decide +kernel
theorem dX2_count_5 : decode cX2_count 5 = .ok (.iload_n 1, 1) := by decide +kernel
