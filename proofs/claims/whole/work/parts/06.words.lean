/-- a field's link, by class and place -/
abbrev fW (own : String) (idx c k : Nat) : Cond := Cond.fieldLink own idx (TC c k).1 (TC c k).2.1 (TC c k).2.2.1
set_option maxRecDepth 20000 in
theorem q_0 : Cond.initialized RL ∈ gT := qT 109 (by decide +kernel) (by decide +kernel)
set_option maxRecDepth 20000 in
theorem q_1 : Cond.initialized RX9 ∈ gT := qT 110 (by decide +kernel) (by decide +kernel)
set_option maxRecDepth 20000 in
theorem q_2 : Cond.initialized RX5 ∈ gT := qT 111 (by decide +kernel) (by decide +kernel)
set_option maxRecDepth 20000 in
theorem q_3 : Cond.initialized RX7 ∈ gT := qT 112 (by decide +kernel) (by decide +kernel)
set_option maxRecDepth 20000 in
theorem q_4 : Cond.initialized RX3 ∈ gT := qT 113 (by decide +kernel) (by decide +kernel)
set_option maxRecDepth 20000 in
theorem q_5 : Cond.initialized RX2 ∈ gT := qT 114 (by decide +kernel) (by decide +kernel)
set_option maxRecDepth 20000 in
theorem q_6 : Cond.initialized RX1 ∈ gT := qT 115 (by decide +kernel) (by decide +kernel)
set_option maxRecDepth 20000 in
theorem q_7 : Cond.initialized RX6 ∈ gT := qT 116 (by decide +kernel) (by decide +kernel)
set_option maxRecDepth 20000 in
theorem q_8 : Cond.initialized RX4 ∈ gT := qT 117 (by decide +kernel) (by decide +kernel)
set_option maxRecDepth 20000 in
theorem q_9 : Cond.initialized RX10 ∈ gT := qT 118 (by decide +kernel) (by decide +kernel)
set_option maxRecDepth 20000 in
theorem q_10 : Cond.initialized RJ9 ∈ gT := qT 119 (by decide +kernel) (by decide +kernel)
set_option maxRecDepth 20000 in
theorem q_11 : Cond.initialized RJx29ce0 ∈ gT := qT 120 (by decide +kernel) (by decide +kernel)
set_option maxRecDepth 20000 in
theorem q_12 : Cond.initialized RX8 ∈ gT := qT 121 (by decide +kernel) (by decide +kernel)
set_option maxRecDepth 20000 in
theorem q_13 : Cond.initialized RJ0 ∈ gT := qT 122 (by decide +kernel) (by decide +kernel)
set_option maxRecDepth 20000 in
theorem q_14 : Cond.initialized RJ1 ∈ gT := qT 123 (by decide +kernel) (by decide +kernel)
set_option maxRecDepth 20000 in
theorem q_15 : Cond.initialized RJ3 ∈ gT := qT 124 (by decide +kernel) (by decide +kernel)
set_option maxRecDepth 20000 in
theorem q_16 : Cond.initialized RJ2 ∈ gT := qT 125 (by decide +kernel) (by decide +kernel)
set_option maxRecDepth 20000 in
theorem q_17 : Cond.initialized RX0 ∈ gT := qT 126 (by decide +kernel) (by decide +kernel)
set_option maxRecDepth 20000 in
theorem q_18 : Cond.initialized RJ10 ∈ gT := qT 127 (by decide +kernel) (by decide +kernel)
set_option maxRecDepth 20000 in
theorem q_19 : Cond.initialized "java/lang/Throwable" ∈ gT := qT 128 (by decide +kernel) (by decide +kernel)
set_option maxRecDepth 20000 in
theorem q_20 : Cond.initialized "java/lang/Exception" ∈ gT := qT 129 (by decide +kernel) (by decide +kernel)
set_option maxRecDepth 20000 in
theorem q_21 : Cond.initialized "java/lang/RuntimeException" ∈ gT := qT 130 (by decide +kernel) (by decide +kernel)
set_option maxRecDepth 20000 in
theorem q_22 : Cond.initialized "java/lang/IndexOutOfBoundsException" ∈ gT := qT 131 (by decide +kernel) (by decide +kernel)
set_option maxRecDepth 20000 in
theorem q_23 : Cond.initialized "java/util/NoSuchElementException" ∈ gT := qT 132 (by decide +kernel) (by decide +kernel)
set_option maxRecDepth 20000 in
theorem q_24 : Cond.initialized RJ6 ∈ gT := qT 133 (by decide +kernel) (by decide +kernel)
set_option maxRecDepth 20000 in
theorem q_25 : Cond.classLink RL 8 RX9 ∈ gT := qT 134 (by decide +kernel) (by decide +kernel)
set_option maxRecDepth 20000 in
theorem q_26 : Cond.instantiable RX9 9 ∈ gT := qT 135 (by decide +kernel) (by decide +kernel)
set_option maxRecDepth 20000 in
theorem q_27 : Cond.methodLink RL 17 yX9_init ∈ gT := qT 136 (by decide +kernel) (by decide +kernel)
set_option maxRecDepth 20000 in
theorem q_28 : Cond.instanceMethod yX9_init ∈ gT := qT 137 (by decide +kernel) (by decide +kernel)
set_option maxRecDepth 20000 in
theorem q_29 : Cond.code yX9_init cX9_init 1 none ∈ gT := qT 138 (by decide +kernel) (by decide +kernel)
set_option maxRecDepth 20000 in
theorem q_30 : Cond.methodLink RX9 1 ⟨"java/lang/Object", "<init>", "()V"⟩ ∈ gT := qT 139 (by decide +kernel) (by decide +kernel)
set_option maxRecDepth 20000 in
theorem q_31 : Cond.instanceMethod ⟨"java/lang/Object", "<init>", "()V"⟩ ∈ gT := qT 140 (by decide +kernel) (by decide +kernel)
set_option maxRecDepth 20000 in
theorem q_32 : Cond.code ⟨"java/lang/Object", "<init>", "()V"⟩ object_method_1_code 1 none ∈ gT := qT 141 (by decide +kernel) (by decide +kernel)
set_option maxRecDepth 20000 in
theorem q_33 : Cond.classLink RX9 13 RX5 ∈ gT := qT 142 (by decide +kernel) (by decide +kernel)
set_option maxRecDepth 20000 in
theorem q_34 : Cond.instantiable RX5 17 ∈ gT := qT 143 (by decide +kernel) (by decide +kernel)
set_option maxRecDepth 20000 in
theorem q_36 : Cond.instanceMethod yX5_init ∈ gT := qT 145 (by decide +kernel) (by decide +kernel)
set_option maxRecDepth 20000 in
theorem q_37 : Cond.code yX5_init cX5_init 1 none ∈ gT := qT 146 (by decide +kernel) (by decide +kernel)
set_option maxRecDepth 20000 in
theorem q_38 : Cond.methodLink RX5 3 ⟨"java/lang/Object", "<init>", "()V"⟩ ∈ gT := qT 147 (by decide +kernel) (by decide +kernel)
set_option maxRecDepth 20000 in
theorem q_39 : fW RX5 58 4 0 ∈ gT := qT 148 (by decide +kernel) (by decide +kernel)
set_option maxRecDepth 20000 in
theorem q_40 : fW RX9 70 4 0 ∈ gT := qT 149 (by decide +kernel) (by decide +kernel)
set_option maxRecDepth 20000 in
theorem q_41 : fW RX5 9 4 1 ∈ gT := qT 150 (by decide +kernel) (by decide +kernel)
set_option maxRecDepth 20000 in
theorem q_42 : fW RX9 73 4 1 ∈ gT := qT 151 (by decide +kernel) (by decide +kernel)
set_option maxRecDepth 20000 in
theorem q_43 : fW RX5 33 4 2 ∈ gT := qT 152 (by decide +kernel) (by decide +kernel)
set_option maxRecDepth 20000 in
theorem q_44 : fW RX5 43 4 3 ∈ gT := qT 153 (by decide +kernel) (by decide +kernel)
set_option maxRecDepth 20000 in
theorem q_45 : fW RX5 46 4 4 ∈ gT := qT 154 (by decide +kernel) (by decide +kernel)
set_option maxRecDepth 20000 in
theorem q_46 : fW RX5 26 4 5 ∈ gT := qT 155 (by decide +kernel) (by decide +kernel)
set_option maxRecDepth 20000 in
theorem q_47 : fW RX5 74 4 6 ∈ gT := qT 156 (by decide +kernel) (by decide +kernel)
set_option maxRecDepth 20000 in
theorem q_48 : fW RX5 55 4 7 ∈ gT := qT 157 (by decide +kernel) (by decide +kernel)
set_option maxRecDepth 20000 in
theorem q_49 : fW RX5 149 4 8 ∈ gT := qT 158 (by decide +kernel) (by decide +kernel)
set_option maxRecDepth 20000 in
theorem q_50 : fW RX5 170 4 9 ∈ gT := qT 159 (by decide +kernel) (by decide +kernel)
set_option maxRecDepth 20000 in
theorem q_51 : fW RX5 205 4 10 ∈ gT := qT 160 (by decide +kernel) (by decide +kernel)
set_option maxRecDepth 20000 in
theorem q_52 : fW RX5 208 4 11 ∈ gT := qT 161 (by decide +kernel) (by decide +kernel)
set_option maxRecDepth 20000 in
theorem q_53 : fW RX5 15 4 12 ∈ gT := qT 162 (by decide +kernel) (by decide +kernel)
set_option maxRecDepth 20000 in
theorem q_54 : fW RX5 61 4 13 ∈ gT := qT 163 (by decide +kernel) (by decide +kernel)
set_option maxRecDepth 20000 in
theorem q_55 : fW RX5 65 4 14 ∈ gT := qT 164 (by decide +kernel) (by decide +kernel)
set_option maxRecDepth 20000 in
theorem q_56 : fW RX5 68 4 15 ∈ gT := qT 165 (by decide +kernel) (by decide +kernel)
set_option maxRecDepth 20000 in
theorem q_57 : fW RX5 71 4 16 ∈ gT := qT 166 (by decide +kernel) (by decide +kernel)
set_option maxRecDepth 20000 in
theorem q_58 : u_lay RX5 TX5 0 ∈ gT := qT 167 (by decide +kernel) (by decide +kernel)
set_option maxRecDepth 20000 in
theorem q_60 : u_lay RX5 TX5 1 ∈ gT := qT 169 (by decide +kernel) (by decide +kernel)
set_option maxRecDepth 20000 in
theorem q_62 : u_lay RX5 TX5 2 ∈ gT := qT 171 (by decide +kernel) (by decide +kernel)
set_option maxRecDepth 20000 in
theorem q_64 : u_lay RX5 TX5 3 ∈ gT := qT 173 (by decide +kernel) (by decide +kernel)
set_option maxRecDepth 20000 in
theorem q_66 : u_lay RX5 TX5 4 ∈ gT := qT 175 (by decide +kernel) (by decide +kernel)
set_option maxRecDepth 20000 in
theorem q_68 : u_lay RX5 TX5 5 ∈ gT := qT 177 (by decide +kernel) (by decide +kernel)
set_option maxRecDepth 20000 in
theorem q_70 : u_lay RX5 TX5 6 ∈ gT := qT 179 (by decide +kernel) (by decide +kernel)
set_option maxRecDepth 20000 in
theorem q_72 : u_lay RX5 TX5 7 ∈ gT := qT 181 (by decide +kernel) (by decide +kernel)
set_option maxRecDepth 20000 in
theorem q_74 : u_lay RX5 TX5 8 ∈ gT := qT 183 (by decide +kernel) (by decide +kernel)
set_option maxRecDepth 20000 in
theorem q_76 : u_lay RX5 TX5 9 ∈ gT := qT 185 (by decide +kernel) (by decide +kernel)
set_option maxRecDepth 20000 in
theorem q_78 : u_lay RX5 TX5 10 ∈ gT := qT 187 (by decide +kernel) (by decide +kernel)
set_option maxRecDepth 20000 in
theorem q_80 : u_lay RX5 TX5 11 ∈ gT := qT 189 (by decide +kernel) (by decide +kernel)
set_option maxRecDepth 20000 in
theorem q_82 : u_lay RX5 TX5 12 ∈ gT := qT 191 (by decide +kernel) (by decide +kernel)
set_option maxRecDepth 20000 in
theorem q_84 : u_lay RX5 TX5 13 ∈ gT := qT 193 (by decide +kernel) (by decide +kernel)
set_option maxRecDepth 20000 in
theorem q_86 : u_lay RX5 TX5 14 ∈ gT := qT 195 (by decide +kernel) (by decide +kernel)
set_option maxRecDepth 20000 in
theorem q_88 : u_lay RX5 TX5 15 ∈ gT := qT 197 (by decide +kernel) (by decide +kernel)
set_option maxRecDepth 20000 in
theorem q_90 : u_lay RX5 TX5 16 ∈ gT := qT 199 (by decide +kernel) (by decide +kernel)
set_option maxRecDepth 20000 in
theorem q_93 : Cond.arrayClass .byte ∈ gT := qT 202 (by decide +kernel) (by decide +kernel)
set_option maxRecDepth 20000 in
theorem q_94 : Cond.arrayClass .boolean ∈ gT := qT 203 (by decide +kernel) (by decide +kernel)
set_option maxRecDepth 20000 in
theorem q_95 : Cond.classLink RX9 20 RX7 ∈ gT := qT 204 (by decide +kernel) (by decide +kernel)
set_option maxRecDepth 20000 in
theorem q_96 : Cond.instantiable RX7 16 ∈ gT := qT 205 (by decide +kernel) (by decide +kernel)
set_option maxRecDepth 20000 in
theorem q_98 : Cond.instanceMethod yX7_init ∈ gT := qT 207 (by decide +kernel) (by decide +kernel)
set_option maxRecDepth 20000 in
theorem q_99 : Cond.code yX7_init cX7_init 1 none ∈ gT := qT 208 (by decide +kernel) (by decide +kernel)
set_option maxRecDepth 20000 in
theorem q_100 : Cond.methodLink RX7 3 ⟨"java/lang/Object", "<init>", "()V"⟩ ∈ gT := qT 209 (by decide +kernel) (by decide +kernel)
set_option maxRecDepth 20000 in
theorem q_101 : fW RX7 43 6 0 ∈ gT := qT 210 (by decide +kernel) (by decide +kernel)
set_option maxRecDepth 20000 in
theorem q_102 : fW RX5 143 6 0 ∈ gT := qT 211 (by decide +kernel) (by decide +kernel)
set_option maxRecDepth 20000 in
theorem q_103 : fW RX3 158 6 0 ∈ gT := qT 212 (by decide +kernel) (by decide +kernel)
set_option maxRecDepth 20000 in
theorem q_104 : fW RX9 301 6 0 ∈ gT := qT 213 (by decide +kernel) (by decide +kernel)
set_option maxRecDepth 20000 in
theorem q_105 : fW RX7 9 6 1 ∈ gT := qT 214 (by decide +kernel) (by decide +kernel)
set_option maxRecDepth 20000 in
theorem q_106 : fW RX7 15 6 2 ∈ gT := qT 215 (by decide +kernel) (by decide +kernel)
set_option maxRecDepth 20000 in
theorem q_107 : fW RX3 85 6 2 ∈ gT := qT 216 (by decide +kernel) (by decide +kernel)
set_option maxRecDepth 20000 in
theorem q_108 : fW RX9 91 6 2 ∈ gT := qT 217 (by decide +kernel) (by decide +kernel)
set_option maxRecDepth 20000 in
theorem q_109 : fW RX7 18 6 3 ∈ gT := qT 218 (by decide +kernel) (by decide +kernel)
set_option maxRecDepth 20000 in
theorem q_110 : fW RX9 95 6 3 ∈ gT := qT 219 (by decide +kernel) (by decide +kernel)
set_option maxRecDepth 20000 in
theorem q_111 : fW RX3 161 6 3 ∈ gT := qT 220 (by decide +kernel) (by decide +kernel)
set_option maxRecDepth 20000 in
theorem q_112 : fW RX7 21 6 4 ∈ gT := qT 221 (by decide +kernel) (by decide +kernel)
set_option maxRecDepth 20000 in
theorem q_113 : fW RX9 110 6 4 ∈ gT := qT 222 (by decide +kernel) (by decide +kernel)
set_option maxRecDepth 20000 in
theorem q_114 : fW RX5 179 6 4 ∈ gT := qT 223 (by decide +kernel) (by decide +kernel)
set_option maxRecDepth 20000 in
theorem q_115 : fW RX3 147 6 4 ∈ gT := qT 224 (by decide +kernel) (by decide +kernel)
set_option maxRecDepth 20000 in
theorem q_116 : fW RX7 24 6 5 ∈ gT := qT 225 (by decide +kernel) (by decide +kernel)
set_option maxRecDepth 20000 in
theorem q_117 : fW RX3 35 6 5 ∈ gT := qT 226 (by decide +kernel) (by decide +kernel)
set_option maxRecDepth 20000 in
theorem q_118 : fW RX5 173 6 5 ∈ gT := qT 227 (by decide +kernel) (by decide +kernel)
set_option maxRecDepth 20000 in
theorem q_119 : fW RX7 27 6 6 ∈ gT := qT 228 (by decide +kernel) (by decide +kernel)
set_option maxRecDepth 20000 in
theorem q_120 : fW RX3 44 6 6 ∈ gT := qT 229 (by decide +kernel) (by decide +kernel)
set_option maxRecDepth 20000 in
theorem q_121 : fW RX5 176 6 6 ∈ gT := qT 230 (by decide +kernel) (by decide +kernel)
set_option maxRecDepth 20000 in
theorem q_122 : fW RX7 30 6 7 ∈ gT := qT 231 (by decide +kernel) (by decide +kernel)
set_option maxRecDepth 20000 in
theorem q_123 : fW RX3 81 6 7 ∈ gT := qT 232 (by decide +kernel) (by decide +kernel)
set_option maxRecDepth 20000 in
theorem q_124 : fW RX5 186 6 7 ∈ gT := qT 233 (by decide +kernel) (by decide +kernel)
set_option maxRecDepth 20000 in
theorem q_125 : fW RX9 383 6 7 ∈ gT := qT 234 (by decide +kernel) (by decide +kernel)
set_option maxRecDepth 20000 in
theorem q_126 : fW RX7 34 6 8 ∈ gT := qT 235 (by decide +kernel) (by decide +kernel)
set_option maxRecDepth 20000 in
theorem q_127 : fW RX3 91 6 8 ∈ gT := qT 236 (by decide +kernel) (by decide +kernel)
set_option maxRecDepth 20000 in
theorem q_128 : fW RX5 195 6 8 ∈ gT := qT 237 (by decide +kernel) (by decide +kernel)
set_option maxRecDepth 20000 in
theorem q_129 : fW RX9 310 6 8 ∈ gT := qT 238 (by decide +kernel) (by decide +kernel)
set_option maxRecDepth 20000 in
theorem q_130 : fW RX7 46 6 9 ∈ gT := qT 239 (by decide +kernel) (by decide +kernel)
set_option maxRecDepth 20000 in
theorem q_131 : fW RX3 95 6 9 ∈ gT := qT 240 (by decide +kernel) (by decide +kernel)
set_option maxRecDepth 20000 in
theorem q_132 : fW RX5 198 6 9 ∈ gT := qT 241 (by decide +kernel) (by decide +kernel)
set_option maxRecDepth 20000 in
theorem q_133 : fW RX9 384 6 9 ∈ gT := qT 242 (by decide +kernel) (by decide +kernel)
set_option maxRecDepth 20000 in
theorem q_134 : fW RX7 49 6 10 ∈ gT := qT 243 (by decide +kernel) (by decide +kernel)
set_option maxRecDepth 20000 in
theorem q_135 : fW RX5 202 6 10 ∈ gT := qT 244 (by decide +kernel) (by decide +kernel)
set_option maxRecDepth 20000 in
theorem q_136 : fW RX9 354 6 10 ∈ gT := qT 245 (by decide +kernel) (by decide +kernel)
set_option maxRecDepth 20000 in
theorem q_137 : fW RX7 52 6 11 ∈ gT := qT 246 (by decide +kernel) (by decide +kernel)
set_option maxRecDepth 20000 in
theorem q_138 : fW RX3 59 6 11 ∈ gT := qT 247 (by decide +kernel) (by decide +kernel)
set_option maxRecDepth 20000 in
theorem q_139 : fW RX5 118 6 11 ∈ gT := qT 248 (by decide +kernel) (by decide +kernel)
set_option maxRecDepth 20000 in
theorem q_140 : fW RX9 387 6 11 ∈ gT := qT 249 (by decide +kernel) (by decide +kernel)
set_option maxRecDepth 20000 in
theorem q_141 : fW RX7 55 6 12 ∈ gT := qT 250 (by decide +kernel) (by decide +kernel)
set_option maxRecDepth 20000 in
theorem q_142 : fW RX3 62 6 12 ∈ gT := qT 251 (by decide +kernel) (by decide +kernel)
set_option maxRecDepth 20000 in
theorem q_143 : fW RX5 131 6 12 ∈ gT := qT 252 (by decide +kernel) (by decide +kernel)
set_option maxRecDepth 20000 in
theorem q_144 : fW RX9 390 6 12 ∈ gT := qT 253 (by decide +kernel) (by decide +kernel)
set_option maxRecDepth 20000 in
theorem q_145 : fW RX7 37 6 13 ∈ gT := qT 254 (by decide +kernel) (by decide +kernel)
set_option maxRecDepth 20000 in
theorem q_146 : fW RX3 65 6 13 ∈ gT := qT 255 (by decide +kernel) (by decide +kernel)
set_option maxRecDepth 20000 in
theorem q_147 : fW RX7 58 6 14 ∈ gT := qT 256 (by decide +kernel) (by decide +kernel)
set_option maxRecDepth 20000 in
theorem q_148 : fW RX3 72 6 14 ∈ gT := qT 257 (by decide +kernel) (by decide +kernel)
set_option maxRecDepth 20000 in
theorem q_149 : fW RX5 137 6 14 ∈ gT := qT 258 (by decide +kernel) (by decide +kernel)
set_option maxRecDepth 20000 in
theorem q_150 : fW RX9 393 6 14 ∈ gT := qT 259 (by decide +kernel) (by decide +kernel)
set_option maxRecDepth 20000 in
theorem q_151 : fW RX7 40 6 15 ∈ gT := qT 260 (by decide +kernel) (by decide +kernel)
set_option maxRecDepth 20000 in
theorem q_152 : fW RX3 75 6 15 ∈ gT := qT 261 (by decide +kernel) (by decide +kernel)
set_option maxRecDepth 20000 in
theorem q_153 : u_lay RX7 TX7 0 ∈ gT := qT 262 (by decide +kernel) (by decide +kernel)
set_option maxRecDepth 20000 in
theorem q_155 : u_lay RX7 TX7 1 ∈ gT := qT 264 (by decide +kernel) (by decide +kernel)
set_option maxRecDepth 20000 in
theorem q_157 : u_lay RX7 TX7 2 ∈ gT := qT 266 (by decide +kernel) (by decide +kernel)
set_option maxRecDepth 20000 in
theorem q_159 : u_lay RX7 TX7 3 ∈ gT := qT 268 (by decide +kernel) (by decide +kernel)
set_option maxRecDepth 20000 in
theorem q_161 : u_lay RX7 TX7 4 ∈ gT := qT 270 (by decide +kernel) (by decide +kernel)
set_option maxRecDepth 20000 in
theorem q_163 : u_lay RX7 TX7 5 ∈ gT := qT 272 (by decide +kernel) (by decide +kernel)
set_option maxRecDepth 20000 in
theorem q_165 : u_lay RX7 TX7 6 ∈ gT := qT 274 (by decide +kernel) (by decide +kernel)
set_option maxRecDepth 20000 in
theorem q_167 : u_lay RX7 TX7 7 ∈ gT := qT 276 (by decide +kernel) (by decide +kernel)
set_option maxRecDepth 20000 in
theorem q_169 : u_lay RX7 TX7 8 ∈ gT := qT 278 (by decide +kernel) (by decide +kernel)
set_option maxRecDepth 20000 in
theorem q_171 : u_lay RX7 TX7 9 ∈ gT := qT 280 (by decide +kernel) (by decide +kernel)
set_option maxRecDepth 20000 in
theorem q_173 : u_lay RX7 TX7 10 ∈ gT := qT 282 (by decide +kernel) (by decide +kernel)
set_option maxRecDepth 20000 in
theorem q_175 : u_lay RX7 TX7 11 ∈ gT := qT 284 (by decide +kernel) (by decide +kernel)
set_option maxRecDepth 20000 in
theorem q_177 : u_lay RX7 TX7 12 ∈ gT := qT 286 (by decide +kernel) (by decide +kernel)
set_option maxRecDepth 20000 in
theorem q_179 : u_lay RX7 TX7 13 ∈ gT := qT 288 (by decide +kernel) (by decide +kernel)
set_option maxRecDepth 20000 in
theorem q_181 : u_lay RX7 TX7 14 ∈ gT := qT 290 (by decide +kernel) (by decide +kernel)
set_option maxRecDepth 20000 in
theorem q_183 : u_lay RX7 TX7 15 ∈ gT := qT 292 (by decide +kernel) (by decide +kernel)
set_option maxRecDepth 20000 in
theorem q_186 : Cond.arrayClass .int ∈ gT := qT 295 (by decide +kernel) (by decide +kernel)
set_option maxRecDepth 20000 in
theorem q_187 : Cond.classLink RX9 27 RX3 ∈ gT := qT 296 (by decide +kernel) (by decide +kernel)
set_option maxRecDepth 20000 in
theorem q_188 : Cond.instantiable RX3 3 ∈ gT := qT 297 (by decide +kernel) (by decide +kernel)
set_option maxRecDepth 20000 in
theorem q_190 : Cond.instanceMethod yX3_init ∈ gT := qT 299 (by decide +kernel) (by decide +kernel)
set_option maxRecDepth 20000 in
theorem q_191 : Cond.code yX3_init cX3_init 1 none ∈ gT := qT 300 (by decide +kernel) (by decide +kernel)
set_option maxRecDepth 20000 in
theorem q_192 : Cond.methodLink RX3 3 ⟨"java/lang/Object", "<init>", "()V"⟩ ∈ gT := qT 301 (by decide +kernel) (by decide +kernel)
set_option maxRecDepth 20000 in
theorem q_193 : Cond.classLink RX3 9 RX7 ∈ gT := qT 302 (by decide +kernel) (by decide +kernel)
set_option maxRecDepth 20000 in
theorem q_195 : Cond.classLink RX3 18 RX2 ∈ gT := qT 304 (by decide +kernel) (by decide +kernel)
set_option maxRecDepth 20000 in
theorem q_196 : Cond.instantiable RX2 12 ∈ gT := qT 305 (by decide +kernel) (by decide +kernel)
set_option maxRecDepth 20000 in
theorem q_197 : Cond.methodLink RX3 20 yX2_init ∈ gT := qT 306 (by decide +kernel) (by decide +kernel)
set_option maxRecDepth 20000 in
theorem q_198 : Cond.instanceMethod yX2_init ∈ gT := qT 307 (by decide +kernel) (by decide +kernel)
set_option maxRecDepth 20000 in
theorem q_199 : Cond.code yX2_init cX2_init 2 none ∈ gT := qT 308 (by decide +kernel) (by decide +kernel)
set_option maxRecDepth 20000 in
theorem q_200 : Cond.methodLink RX2 3 ⟨"java/lang/Object", "<init>", "()V"⟩ ∈ gT := qT 309 (by decide +kernel) (by decide +kernel)
set_option maxRecDepth 20000 in
theorem q_201 : Cond.classLink RX2 18 RX1 ∈ gT := qT 310 (by decide +kernel) (by decide +kernel)
set_option maxRecDepth 20000 in
theorem q_203 : Cond.instantiable RX1 19 ∈ gT := qT 312 (by decide +kernel) (by decide +kernel)
set_option maxRecDepth 20000 in
theorem q_205 : Cond.instanceMethod yX1_init ∈ gT := qT 314 (by decide +kernel) (by decide +kernel)
set_option maxRecDepth 20000 in
theorem q_206 : Cond.code yX1_init cX1_init 1 none ∈ gT := qT 315 (by decide +kernel) (by decide +kernel)
set_option maxRecDepth 20000 in
theorem q_207 : Cond.methodLink RX1 3 ⟨"java/lang/Object", "<init>", "()V"⟩ ∈ gT := qT 316 (by decide +kernel) (by decide +kernel)
set_option maxRecDepth 20000 in
theorem q_208 : fW RX1 24 0 0 ∈ gT := qT 317 (by decide +kernel) (by decide +kernel)
set_option maxRecDepth 20000 in
theorem q_209 : fW RX9 128 0 0 ∈ gT := qT 318 (by decide +kernel) (by decide +kernel)
set_option maxRecDepth 20000 in
theorem q_210 : fW RX3 200 0 0 ∈ gT := qT 319 (by decide +kernel) (by decide +kernel)
set_option maxRecDepth 20000 in
theorem q_211 : fW RX2 77 0 0 ∈ gT := qT 320 (by decide +kernel) (by decide +kernel)
set_option maxRecDepth 20000 in
theorem q_212 : fW RX1 28 0 1 ∈ gT := qT 321 (by decide +kernel) (by decide +kernel)
set_option maxRecDepth 20000 in
theorem q_213 : fW RX9 157 0 1 ∈ gT := qT 322 (by decide +kernel) (by decide +kernel)
set_option maxRecDepth 20000 in
theorem q_214 : fW RX3 237 0 1 ∈ gT := qT 323 (by decide +kernel) (by decide +kernel)
set_option maxRecDepth 20000 in
theorem q_215 : fW RX1 31 0 2 ∈ gT := qT 324 (by decide +kernel) (by decide +kernel)
set_option maxRecDepth 20000 in
theorem q_216 : fW RX9 133 0 2 ∈ gT := qT 325 (by decide +kernel) (by decide +kernel)
set_option maxRecDepth 20000 in
theorem q_217 : fW RX3 183 0 2 ∈ gT := qT 326 (by decide +kernel) (by decide +kernel)
set_option maxRecDepth 20000 in
theorem q_218 : fW RX1 34 0 3 ∈ gT := qT 327 (by decide +kernel) (by decide +kernel)
set_option maxRecDepth 20000 in
theorem q_219 : fW RX9 136 0 3 ∈ gT := qT 328 (by decide +kernel) (by decide +kernel)
set_option maxRecDepth 20000 in
theorem q_220 : fW RX3 265 0 3 ∈ gT := qT 329 (by decide +kernel) (by decide +kernel)
set_option maxRecDepth 20000 in
theorem q_221 : fW RX1 37 0 4 ∈ gT := qT 330 (by decide +kernel) (by decide +kernel)
set_option maxRecDepth 20000 in
theorem q_222 : fW RX9 139 0 4 ∈ gT := qT 331 (by decide +kernel) (by decide +kernel)
set_option maxRecDepth 20000 in
theorem q_223 : fW RX3 234 0 4 ∈ gT := qT 332 (by decide +kernel) (by decide +kernel)
set_option maxRecDepth 20000 in
theorem q_224 : fW RX1 40 0 5 ∈ gT := qT 333 (by decide +kernel) (by decide +kernel)
set_option maxRecDepth 20000 in
theorem q_225 : fW RX9 142 0 5 ∈ gT := qT 334 (by decide +kernel) (by decide +kernel)
set_option maxRecDepth 20000 in
theorem q_226 : fW RX1 43 0 6 ∈ gT := qT 335 (by decide +kernel) (by decide +kernel)
set_option maxRecDepth 20000 in
theorem q_227 : fW RX9 151 0 6 ∈ gT := qT 336 (by decide +kernel) (by decide +kernel)
set_option maxRecDepth 20000 in
theorem q_228 : fW RX3 227 0 6 ∈ gT := qT 337 (by decide +kernel) (by decide +kernel)
set_option maxRecDepth 20000 in
theorem q_229 : fW RX1 46 0 7 ∈ gT := qT 338 (by decide +kernel) (by decide +kernel)
set_option maxRecDepth 20000 in
theorem q_230 : fW RX9 195 0 7 ∈ gT := qT 339 (by decide +kernel) (by decide +kernel)
set_option maxRecDepth 20000 in
theorem q_231 : fW RX3 244 0 7 ∈ gT := qT 340 (by decide +kernel) (by decide +kernel)
set_option maxRecDepth 20000 in
theorem q_232 : fW RX1 49 0 8 ∈ gT := qT 341 (by decide +kernel) (by decide +kernel)
set_option maxRecDepth 20000 in
theorem q_233 : fW RX9 154 0 8 ∈ gT := qT 342 (by decide +kernel) (by decide +kernel)
set_option maxRecDepth 20000 in
theorem q_234 : fW RX3 192 0 8 ∈ gT := qT 343 (by decide +kernel) (by decide +kernel)
set_option maxRecDepth 20000 in
theorem q_235 : fW RX2 73 0 8 ∈ gT := qT 344 (by decide +kernel) (by decide +kernel)
set_option maxRecDepth 20000 in
theorem q_236 : fW RX1 53 0 9 ∈ gT := qT 345 (by decide +kernel) (by decide +kernel)
set_option maxRecDepth 20000 in
theorem q_237 : fW RX9 148 0 9 ∈ gT := qT 346 (by decide +kernel) (by decide +kernel)
set_option maxRecDepth 20000 in
theorem q_238 : fW RX3 210 0 9 ∈ gT := qT 347 (by decide +kernel) (by decide +kernel)
set_option maxRecDepth 20000 in
theorem q_239 : fW RX1 56 0 10 ∈ gT := qT 348 (by decide +kernel) (by decide +kernel)
set_option maxRecDepth 20000 in
theorem q_240 : fW RX9 160 0 10 ∈ gT := qT 349 (by decide +kernel) (by decide +kernel)
set_option maxRecDepth 20000 in
theorem q_241 : fW RX3 217 0 10 ∈ gT := qT 350 (by decide +kernel) (by decide +kernel)
set_option maxRecDepth 20000 in
theorem q_242 : fW RX1 59 0 11 ∈ gT := qT 351 (by decide +kernel) (by decide +kernel)
set_option maxRecDepth 20000 in
theorem q_243 : fW RX3 220 0 11 ∈ gT := qT 352 (by decide +kernel) (by decide +kernel)
set_option maxRecDepth 20000 in
theorem q_244 : fW RX9 256 0 11 ∈ gT := qT 353 (by decide +kernel) (by decide +kernel)
set_option maxRecDepth 20000 in
theorem q_245 : fW RX1 62 0 12 ∈ gT := qT 354 (by decide +kernel) (by decide +kernel)
set_option maxRecDepth 20000 in
theorem q_246 : fW RX3 247 0 12 ∈ gT := qT 355 (by decide +kernel) (by decide +kernel)
set_option maxRecDepth 20000 in
theorem q_247 : fW RX9 259 0 12 ∈ gT := qT 356 (by decide +kernel) (by decide +kernel)
set_option maxRecDepth 20000 in
theorem q_248 : fW RX1 65 0 13 ∈ gT := qT 357 (by decide +kernel) (by decide +kernel)
set_option maxRecDepth 20000 in
theorem q_249 : fW RX3 250 0 13 ∈ gT := qT 358 (by decide +kernel) (by decide +kernel)
set_option maxRecDepth 20000 in
theorem q_250 : fW RX9 262 0 13 ∈ gT := qT 359 (by decide +kernel) (by decide +kernel)
set_option maxRecDepth 20000 in
theorem q_251 : fW RX1 68 0 14 ∈ gT := qT 360 (by decide +kernel) (by decide +kernel)
set_option maxRecDepth 20000 in
theorem q_252 : fW RX9 145 0 14 ∈ gT := qT 361 (by decide +kernel) (by decide +kernel)
set_option maxRecDepth 20000 in
theorem q_253 : fW RX3 207 0 14 ∈ gT := qT 362 (by decide +kernel) (by decide +kernel)
set_option maxRecDepth 20000 in
theorem q_254 : fW RX1 9 0 15 ∈ gT := qT 363 (by decide +kernel) (by decide +kernel)
set_option maxRecDepth 20000 in
theorem q_255 : fW RX3 178 0 15 ∈ gT := qT 364 (by decide +kernel) (by decide +kernel)
set_option maxRecDepth 20000 in
theorem q_256 : fW RX1 15 0 16 ∈ gT := qT 365 (by decide +kernel) (by decide +kernel)
set_option maxRecDepth 20000 in
theorem q_257 : fW RX9 247 0 16 ∈ gT := qT 366 (by decide +kernel) (by decide +kernel)
set_option maxRecDepth 20000 in
theorem q_258 : fW RX1 18 0 17 ∈ gT := qT 367 (by decide +kernel) (by decide +kernel)
set_option maxRecDepth 20000 in
theorem q_259 : fW RX9 250 0 17 ∈ gT := qT 368 (by decide +kernel) (by decide +kernel)
set_option maxRecDepth 20000 in
theorem q_260 : fW RX1 21 0 18 ∈ gT := qT 369 (by decide +kernel) (by decide +kernel)
set_option maxRecDepth 20000 in
theorem q_261 : fW RX9 253 0 18 ∈ gT := qT 370 (by decide +kernel) (by decide +kernel)
set_option maxRecDepth 20000 in
theorem q_262 : u_lay RX1 TX1 0 ∈ gT := qT 371 (by decide +kernel) (by decide +kernel)
set_option maxRecDepth 20000 in
theorem q_264 : u_lay RX1 TX1 1 ∈ gT := qT 373 (by decide +kernel) (by decide +kernel)
set_option maxRecDepth 20000 in
theorem q_266 : u_lay RX1 TX1 2 ∈ gT := qT 375 (by decide +kernel) (by decide +kernel)
set_option maxRecDepth 20000 in
theorem q_268 : u_lay RX1 TX1 3 ∈ gT := qT 377 (by decide +kernel) (by decide +kernel)
set_option maxRecDepth 20000 in
theorem q_270 : u_lay RX1 TX1 4 ∈ gT := qT 379 (by decide +kernel) (by decide +kernel)
set_option maxRecDepth 20000 in
theorem q_272 : u_lay RX1 TX1 5 ∈ gT := qT 381 (by decide +kernel) (by decide +kernel)
set_option maxRecDepth 20000 in
theorem q_274 : u_lay RX1 TX1 6 ∈ gT := qT 383 (by decide +kernel) (by decide +kernel)
set_option maxRecDepth 20000 in
theorem q_276 : u_lay RX1 TX1 7 ∈ gT := qT 385 (by decide +kernel) (by decide +kernel)
set_option maxRecDepth 20000 in
theorem q_278 : u_lay RX1 TX1 8 ∈ gT := qT 387 (by decide +kernel) (by decide +kernel)
set_option maxRecDepth 20000 in
theorem q_280 : u_lay RX1 TX1 9 ∈ gT := qT 389 (by decide +kernel) (by decide +kernel)
set_option maxRecDepth 20000 in
theorem q_282 : u_lay RX1 TX1 10 ∈ gT := qT 391 (by decide +kernel) (by decide +kernel)
set_option maxRecDepth 20000 in
theorem q_284 : u_lay RX1 TX1 11 ∈ gT := qT 393 (by decide +kernel) (by decide +kernel)
set_option maxRecDepth 20000 in
theorem q_286 : u_lay RX1 TX1 12 ∈ gT := qT 395 (by decide +kernel) (by decide +kernel)
set_option maxRecDepth 20000 in
theorem q_288 : u_lay RX1 TX1 13 ∈ gT := qT 397 (by decide +kernel) (by decide +kernel)
set_option maxRecDepth 20000 in
theorem q_290 : u_lay RX1 TX1 14 ∈ gT := qT 399 (by decide +kernel) (by decide +kernel)
set_option maxRecDepth 20000 in
theorem q_292 : u_lay RX1 TX1 15 ∈ gT := qT 401 (by decide +kernel) (by decide +kernel)
set_option maxRecDepth 20000 in
theorem q_294 : u_lay RX1 TX1 16 ∈ gT := qT 403 (by decide +kernel) (by decide +kernel)
set_option maxRecDepth 20000 in
theorem q_296 : u_lay RX1 TX1 17 ∈ gT := qT 405 (by decide +kernel) (by decide +kernel)
set_option maxRecDepth 20000 in
theorem q_298 : u_lay RX1 TX1 18 ∈ gT := qT 407 (by decide +kernel) (by decide +kernel)
set_option maxRecDepth 20000 in
theorem q_301 : fW RX2 43 1 0 ∈ gT := qT 410 (by decide +kernel) (by decide +kernel)
set_option maxRecDepth 20000 in
theorem q_302 : fW RX3 55 1 0 ∈ gT := qT 411 (by decide +kernel) (by decide +kernel)
set_option maxRecDepth 20000 in
theorem q_303 : fW RX9 172 1 0 ∈ gT := qT 412 (by decide +kernel) (by decide +kernel)
set_option maxRecDepth 20000 in
theorem q_304 : fW RX2 47 1 1 ∈ gT := qT 413 (by decide +kernel) (by decide +kernel)
set_option maxRecDepth 20000 in
theorem q_305 : fW RX9 182 1 1 ∈ gT := qT 414 (by decide +kernel) (by decide +kernel)
set_option maxRecDepth 20000 in
theorem q_306 : fW RX3 174 1 1 ∈ gT := qT 415 (by decide +kernel) (by decide +kernel)
set_option maxRecDepth 20000 in
theorem q_307 : fW RX2 50 1 2 ∈ gT := qT 416 (by decide +kernel) (by decide +kernel)
set_option maxRecDepth 20000 in
theorem q_308 : fW RX9 205 1 2 ∈ gT := qT 417 (by decide +kernel) (by decide +kernel)
set_option maxRecDepth 20000 in
theorem q_309 : fW RX2 9 1 3 ∈ gT := qT 418 (by decide +kernel) (by decide +kernel)
set_option maxRecDepth 20000 in
theorem q_310 : fW RX3 39 1 3 ∈ gT := qT 419 (by decide +kernel) (by decide +kernel)
set_option maxRecDepth 20000 in
theorem q_311 : fW RX9 102 1 3 ∈ gT := qT 420 (by decide +kernel) (by decide +kernel)
set_option maxRecDepth 20000 in
theorem q_312 : fW RX2 15 1 4 ∈ gT := qT 421 (by decide +kernel) (by decide +kernel)
set_option maxRecDepth 20000 in
theorem q_313 : fW RX3 47 1 4 ∈ gT := qT 422 (by decide +kernel) (by decide +kernel)
set_option maxRecDepth 20000 in
theorem q_314 : fW RX9 107 1 4 ∈ gT := qT 423 (by decide +kernel) (by decide +kernel)
set_option maxRecDepth 20000 in
theorem q_315 : fW RX2 20 1 5 ∈ gT := qT 424 (by decide +kernel) (by decide +kernel)
set_option maxRecDepth 20000 in
theorem q_316 : fW RX9 124 1 5 ∈ gT := qT 425 (by decide +kernel) (by decide +kernel)
set_option maxRecDepth 20000 in
theorem q_317 : fW RX3 175 1 5 ∈ gT := qT 426 (by decide +kernel) (by decide +kernel)
set_option maxRecDepth 20000 in
theorem q_318 : fW RX2 24 1 6 ∈ gT := qT 427 (by decide +kernel) (by decide +kernel)
set_option maxRecDepth 20000 in
theorem q_319 : fW RX2 27 1 7 ∈ gT := qT 428 (by decide +kernel) (by decide +kernel)
set_option maxRecDepth 20000 in
theorem q_320 : fW RX2 30 1 8 ∈ gT := qT 429 (by decide +kernel) (by decide +kernel)
set_option maxRecDepth 20000 in
theorem q_321 : fW RX2 33 1 9 ∈ gT := qT 430 (by decide +kernel) (by decide +kernel)
set_option maxRecDepth 20000 in
theorem q_322 : fW RX2 36 1 10 ∈ gT := qT 431 (by decide +kernel) (by decide +kernel)
set_option maxRecDepth 20000 in
theorem q_323 : fW RX2 39 1 11 ∈ gT := qT 432 (by decide +kernel) (by decide +kernel)
set_option maxRecDepth 20000 in
theorem q_324 : u_lay RX2 TX2 0 ∈ gT := qT 433 (by decide +kernel) (by decide +kernel)
set_option maxRecDepth 20000 in
theorem q_326 : u_lay RX2 TX2 1 ∈ gT := qT 435 (by decide +kernel) (by decide +kernel)
set_option maxRecDepth 20000 in
theorem q_328 : u_lay RX2 TX2 2 ∈ gT := qT 437 (by decide +kernel) (by decide +kernel)
set_option maxRecDepth 20000 in
theorem q_330 : u_lay RX2 TX2 3 ∈ gT := qT 439 (by decide +kernel) (by decide +kernel)
set_option maxRecDepth 20000 in
theorem q_332 : u_lay RX2 TX2 4 ∈ gT := qT 441 (by decide +kernel) (by decide +kernel)
set_option maxRecDepth 20000 in
theorem q_334 : u_lay RX2 TX2 5 ∈ gT := qT 443 (by decide +kernel) (by decide +kernel)
set_option maxRecDepth 20000 in
theorem q_336 : u_lay RX2 TX2 6 ∈ gT := qT 445 (by decide +kernel) (by decide +kernel)
set_option maxRecDepth 20000 in
theorem q_338 : u_lay RX2 TX2 7 ∈ gT := qT 447 (by decide +kernel) (by decide +kernel)
set_option maxRecDepth 20000 in
theorem q_340 : u_lay RX2 TX2 8 ∈ gT := qT 449 (by decide +kernel) (by decide +kernel)
set_option maxRecDepth 20000 in
theorem q_342 : u_lay RX2 TX2 9 ∈ gT := qT 451 (by decide +kernel) (by decide +kernel)
set_option maxRecDepth 20000 in
theorem q_344 : u_lay RX2 TX2 10 ∈ gT := qT 453 (by decide +kernel) (by decide +kernel)
set_option maxRecDepth 20000 in
theorem q_346 : u_lay RX2 TX2 11 ∈ gT := qT 455 (by decide +kernel) (by decide +kernel)
set_option maxRecDepth 20000 in
theorem q_349 : Cond.classLink RX3 25 RX6 ∈ gT := qT 458 (by decide +kernel) (by decide +kernel)
set_option maxRecDepth 20000 in
theorem q_350 : Cond.instantiable RX6 7 ∈ gT := qT 459 (by decide +kernel) (by decide +kernel)
set_option maxRecDepth 20000 in
theorem q_352 : Cond.instanceMethod yX6_init ∈ gT := qT 461 (by decide +kernel) (by decide +kernel)
set_option maxRecDepth 20000 in
theorem q_353 : Cond.code yX6_init cX6_init 1 none ∈ gT := qT 462 (by decide +kernel) (by decide +kernel)
set_option maxRecDepth 20000 in
theorem q_354 : Cond.methodLink RX6 3 ⟨"java/lang/Object", "<init>", "()V"⟩ ∈ gT := qT 463 (by decide +kernel) (by decide +kernel)
set_option maxRecDepth 20000 in
theorem q_355 : fW RX6 9 5 0 ∈ gT := qT 464 (by decide +kernel) (by decide +kernel)
set_option maxRecDepth 20000 in
theorem q_356 : fW RX3 103 5 0 ∈ gT := qT 465 (by decide +kernel) (by decide +kernel)
set_option maxRecDepth 20000 in
theorem q_357 : fW RX9 318 5 0 ∈ gT := qT 466 (by decide +kernel) (by decide +kernel)
set_option maxRecDepth 20000 in
theorem q_358 : fW RX6 23 5 1 ∈ gT := qT 467 (by decide +kernel) (by decide +kernel)
set_option maxRecDepth 20000 in
theorem q_359 : fW RX3 99 5 1 ∈ gT := qT 468 (by decide +kernel) (by decide +kernel)
set_option maxRecDepth 20000 in
theorem q_360 : fW RX6 26 5 2 ∈ gT := qT 469 (by decide +kernel) (by decide +kernel)
set_option maxRecDepth 20000 in
theorem q_361 : fW RX3 101 5 2 ∈ gT := qT 470 (by decide +kernel) (by decide +kernel)
set_option maxRecDepth 20000 in
theorem q_362 : fW RX6 32 5 3 ∈ gT := qT 471 (by decide +kernel) (by decide +kernel)
set_option maxRecDepth 20000 in
theorem q_363 : fW RX3 84 5 3 ∈ gT := qT 472 (by decide +kernel) (by decide +kernel)
set_option maxRecDepth 20000 in
theorem q_364 : fW RX9 276 5 3 ∈ gT := qT 473 (by decide +kernel) (by decide +kernel)
set_option maxRecDepth 20000 in
theorem q_365 : fW RX6 15 5 4 ∈ gT := qT 474 (by decide +kernel) (by decide +kernel)
set_option maxRecDepth 20000 in
theorem q_366 : fW RX3 88 5 4 ∈ gT := qT 475 (by decide +kernel) (by decide +kernel)
set_option maxRecDepth 20000 in
theorem q_367 : fW RX9 279 5 4 ∈ gT := qT 476 (by decide +kernel) (by decide +kernel)
set_option maxRecDepth 20000 in
theorem q_368 : fW RX6 29 5 5 ∈ gT := qT 477 (by decide +kernel) (by decide +kernel)
set_option maxRecDepth 20000 in
theorem q_369 : fW RX3 94 5 5 ∈ gT := qT 478 (by decide +kernel) (by decide +kernel)
set_option maxRecDepth 20000 in
theorem q_370 : fW RX9 282 5 5 ∈ gT := qT 479 (by decide +kernel) (by decide +kernel)
set_option maxRecDepth 20000 in
theorem q_371 : fW RX3 98 5 6 ∈ gT := qT 480 (by decide +kernel) (by decide +kernel)
set_option maxRecDepth 20000 in
theorem q_372 : fW RX6 39 5 6 ∈ gT := qT 481 (by decide +kernel) (by decide +kernel)
set_option maxRecDepth 20000 in
theorem q_373 : u_lay RX6 TX6 0 ∈ gT := qT 482 (by decide +kernel) (by decide +kernel)
set_option maxRecDepth 20000 in
theorem q_375 : u_lay RX6 TX6 1 ∈ gT := qT 484 (by decide +kernel) (by decide +kernel)
set_option maxRecDepth 20000 in
theorem q_377 : u_lay RX6 TX6 2 ∈ gT := qT 486 (by decide +kernel) (by decide +kernel)
set_option maxRecDepth 20000 in
theorem q_379 : u_lay RX6 TX6 3 ∈ gT := qT 488 (by decide +kernel) (by decide +kernel)
set_option maxRecDepth 20000 in
theorem q_381 : u_lay RX6 TX6 4 ∈ gT := qT 490 (by decide +kernel) (by decide +kernel)
set_option maxRecDepth 20000 in
theorem q_383 : u_lay RX6 TX6 5 ∈ gT := qT 492 (by decide +kernel) (by decide +kernel)
set_option maxRecDepth 20000 in
theorem q_385 : u_lay RX6 TX6 6 ∈ gT := qT 494 (by decide +kernel) (by decide +kernel)
set_option maxRecDepth 20000 in
theorem q_388 : Cond.arrayClass .long ∈ gT := qT 497 (by decide +kernel) (by decide +kernel)
set_option maxRecDepth 20000 in
theorem q_389 : fW RX3 12 2 0 ∈ gT := qT 498 (by decide +kernel) (by decide +kernel)
set_option maxRecDepth 20000 in
theorem q_390 : fW RX9 56 2 0 ∈ gT := qT 499 (by decide +kernel) (by decide +kernel)
set_option maxRecDepth 20000 in
theorem q_391 : fW RX3 21 2 1 ∈ gT := qT 500 (by decide +kernel) (by decide +kernel)
set_option maxRecDepth 20000 in
theorem q_392 : fW RX9 98 2 1 ∈ gT := qT 501 (by decide +kernel) (by decide +kernel)
set_option maxRecDepth 20000 in
theorem q_393 : fW RX3 28 2 2 ∈ gT := qT 502 (by decide +kernel) (by decide +kernel)
set_option maxRecDepth 20000 in
theorem q_394 : u_lay RX3 TX3 0 ∈ gT := qT 503 (by decide +kernel) (by decide +kernel)
set_option maxRecDepth 20000 in
theorem q_396 : u_lay RX3 TX3 1 ∈ gT := qT 505 (by decide +kernel) (by decide +kernel)
set_option maxRecDepth 20000 in
theorem q_398 : u_lay RX3 TX3 2 ∈ gT := qT 507 (by decide +kernel) (by decide +kernel)
set_option maxRecDepth 20000 in
theorem q_401 : Cond.classLink RX9 37 RX4 ∈ gT := qT 510 (by decide +kernel) (by decide +kernel)
set_option maxRecDepth 20000 in
theorem q_402 : Cond.instantiable RX4 3 ∈ gT := qT 511 (by decide +kernel) (by decide +kernel)
set_option maxRecDepth 20000 in
theorem q_404 : Cond.instanceMethod yX4_init ∈ gT := qT 513 (by decide +kernel) (by decide +kernel)
set_option maxRecDepth 20000 in
theorem q_405 : Cond.code yX4_init cX4_init 1 none ∈ gT := qT 514 (by decide +kernel) (by decide +kernel)
set_option maxRecDepth 20000 in
theorem q_406 : Cond.methodLink RX4 3 ⟨"java/lang/Object", "<init>", "()V"⟩ ∈ gT := qT 515 (by decide +kernel) (by decide +kernel)
set_option maxRecDepth 20000 in
theorem q_407 : Cond.classLink RX4 9 RX2 ∈ gT := qT 516 (by decide +kernel) (by decide +kernel)
set_option maxRecDepth 20000 in
theorem q_409 : fW RX4 17 3 0 ∈ gT := qT 518 (by decide +kernel) (by decide +kernel)
set_option maxRecDepth 20000 in
theorem q_410 : fW RX9 370 3 0 ∈ gT := qT 519 (by decide +kernel) (by decide +kernel)
set_option maxRecDepth 20000 in
theorem q_411 : fW RX4 21 3 1 ∈ gT := qT 520 (by decide +kernel) (by decide +kernel)
set_option maxRecDepth 20000 in
theorem q_412 : fW RX4 11 3 2 ∈ gT := qT 521 (by decide +kernel) (by decide +kernel)
set_option maxRecDepth 20000 in
theorem q_413 : u_lay RX4 TX4 0 ∈ gT := qT 522 (by decide +kernel) (by decide +kernel)
set_option maxRecDepth 20000 in
theorem q_415 : u_lay RX4 TX4 1 ∈ gT := qT 524 (by decide +kernel) (by decide +kernel)
set_option maxRecDepth 20000 in
theorem q_417 : u_lay RX4 TX4 2 ∈ gT := qT 526 (by decide +kernel) (by decide +kernel)
set_option maxRecDepth 20000 in
theorem q_420 : fW RX9 9 7 0 ∈ gT := qT 529 (by decide +kernel) (by decide +kernel)
set_option maxRecDepth 20000 in
theorem q_421 : fW RX9 44 7 1 ∈ gT := qT 530 (by decide +kernel) (by decide +kernel)
set_option maxRecDepth 20000 in
theorem q_422 : fW RX9 16 7 2 ∈ gT := qT 531 (by decide +kernel) (by decide +kernel)
set_option maxRecDepth 20000 in
theorem q_423 : fW RX9 23 7 3 ∈ gT := qT 532 (by decide +kernel) (by decide +kernel)
set_option maxRecDepth 20000 in
theorem q_424 : fW RX9 30 7 4 ∈ gT := qT 533 (by decide +kernel) (by decide +kernel)
set_option maxRecDepth 20000 in
theorem q_425 : fW RX9 34 7 5 ∈ gT := qT 534 (by decide +kernel) (by decide +kernel)
set_option maxRecDepth 20000 in
theorem q_426 : fW RX9 40 7 6 ∈ gT := qT 535 (by decide +kernel) (by decide +kernel)
set_option maxRecDepth 20000 in
theorem q_427 : fW RX9 373 7 7 ∈ gT := qT 536 (by decide +kernel) (by decide +kernel)
set_option maxRecDepth 20000 in
theorem q_428 : fW RX9 66 7 8 ∈ gT := qT 537 (by decide +kernel) (by decide +kernel)
set_option maxRecDepth 20000 in
theorem q_429 : u_lay RX9 TX9 0 ∈ gT := qT 538 (by decide +kernel) (by decide +kernel)
set_option maxRecDepth 20000 in
theorem q_431 : u_lay RX9 TX9 1 ∈ gT := qT 540 (by decide +kernel) (by decide +kernel)
set_option maxRecDepth 20000 in
theorem q_433 : u_lay RX9 TX9 2 ∈ gT := qT 542 (by decide +kernel) (by decide +kernel)
set_option maxRecDepth 20000 in
theorem q_435 : u_lay RX9 TX9 3 ∈ gT := qT 544 (by decide +kernel) (by decide +kernel)
set_option maxRecDepth 20000 in
theorem q_437 : u_lay RX9 TX9 4 ∈ gT := qT 546 (by decide +kernel) (by decide +kernel)
set_option maxRecDepth 20000 in
theorem q_439 : u_lay RX9 TX9 5 ∈ gT := qT 548 (by decide +kernel) (by decide +kernel)
set_option maxRecDepth 20000 in
theorem q_441 : u_lay RX9 TX9 6 ∈ gT := qT 550 (by decide +kernel) (by decide +kernel)
set_option maxRecDepth 20000 in
theorem q_443 : u_lay RX9 TX9 7 ∈ gT := qT 552 (by decide +kernel) (by decide +kernel)
set_option maxRecDepth 20000 in
theorem q_445 : u_lay RX9 TX9 8 ∈ gT := qT 554 (by decide +kernel) (by decide +kernel)
set_option maxRecDepth 20000 in
theorem q_448 : Cond.methodLink RL 21 yX9_feed ∈ gT := qT 557 (by decide +kernel) (by decide +kernel)
set_option maxRecDepth 20000 in
theorem q_449 : Cond.instanceMethod yX9_feed ∈ gT := qT 558 (by decide +kernel) (by decide +kernel)
set_option maxRecDepth 20000 in
theorem q_450 : Cond.selects RX9 yX9_feed yX9_feed ∈ gT := qT 559 (by decide +kernel) (by decide +kernel)
set_option maxRecDepth 20000 in
theorem q_451 : Cond.code yX9_feed cX9_feed 6 (some .int) ∈ gT := qT 560 (by decide +kernel) (by decide +kernel)
set_option maxRecDepth 20000 in
theorem q_452 : Cond.methodLink RX9 48 yX9_addFourBytes ∈ gT := qT 561 (by decide +kernel) (by decide +kernel)
set_option maxRecDepth 20000 in
theorem q_454 : Cond.instanceMethod yX9_addFourBytes ∈ gT := qT 563 (by decide +kernel) (by decide +kernel)
set_option maxRecDepth 20000 in
theorem q_455 : Cond.code yX9_addFourBytes cX9_addFourBytes 3 none ∈ gT := qT 564 (by decide +kernel) (by decide +kernel)
set_option maxRecDepth 20000 in
theorem q_456 : Cond.methodLink RL 26 yX9_text ∈ gT := qT 565 (by decide +kernel) (by decide +kernel)
set_option maxRecDepth 20000 in
theorem q_457 : Cond.instanceMethod yX9_text ∈ gT := qT 566 (by decide +kernel) (by decide +kernel)
set_option maxRecDepth 20000 in
theorem q_458 : Cond.selects RX9 yX9_text yX9_text ∈ gT := qT 567 (by decide +kernel) (by decide +kernel)
set_option maxRecDepth 20000 in
theorem q_459 : Cond.code yX9_text cX9_text 4 (some .int) ∈ gT := qT 568 (by decide +kernel) (by decide +kernel)
set_option maxRecDepth 20000 in
theorem q_460 : Cond.methodLink RX9 52 yX5_read ∈ gT := qT 569 (by decide +kernel) (by decide +kernel)
set_option maxRecDepth 20000 in
theorem q_461 : Cond.instanceMethod yX5_read ∈ gT := qT 570 (by decide +kernel) (by decide +kernel)
set_option maxRecDepth 20000 in
theorem q_462 : Cond.selects RX5 yX5_read yX5_read ∈ gT := qT 571 (by decide +kernel) (by decide +kernel)
set_option maxRecDepth 20000 in
theorem q_463 : Cond.code yX5_read cX5_read 5 (some .int) ∈ gT := qT 572 (by decide +kernel) (by decide +kernel)
set_option maxRecDepth 20000 in
theorem q_464 : Cond.methodLink RX5 19 yX5_begin ∈ gT := qT 573 (by decide +kernel) (by decide +kernel)
set_option maxRecDepth 20000 in
theorem q_466 : Cond.instanceMethod yX5_begin ∈ gT := qT 575 (by decide +kernel) (by decide +kernel)
set_option maxRecDepth 20000 in
theorem q_467 : Cond.code yX5_begin cX5_begin 4 none ∈ gT := qT 576 (by decide +kernel) (by decide +kernel)
set_option maxRecDepth 20000 in
theorem q_468 : Cond.methodLink RX5 37 yJ9_min_7cf53 ∈ gT := qT 577 (by decide +kernel) (by decide +kernel)
set_option maxRecDepth 20000 in
theorem q_469 : Cond.static yJ9_min_7cf53 ∈ gT := qT 578 (by decide +kernel) (by decide +kernel)
set_option maxRecDepth 20000 in
theorem q_470 : Cond.code yJ9_min_7cf53 cJ9_min_7cf53 2 (some .int) ∈ gT := qT 579 (by decide +kernel) (by decide +kernel)
set_option maxRecDepth 20000 in
theorem q_471 : Cond.methodLink RX5 50 yX7_clear ∈ gT := qT 580 (by decide +kernel) (by decide +kernel)
set_option maxRecDepth 20000 in
theorem q_472 : Cond.instanceMethod yX7_clear ∈ gT := qT 581 (by decide +kernel) (by decide +kernel)
set_option maxRecDepth 20000 in
theorem q_473 : Cond.selects RX7 yX7_clear yX7_clear ∈ gT := qT 582 (by decide +kernel) (by decide +kernel)
set_option maxRecDepth 20000 in
theorem q_474 : Cond.code yX7_clear cX7_clear 1 none ∈ gT := qT 583 (by decide +kernel) (by decide +kernel)
set_option maxRecDepth 20000 in
theorem q_475 : Cond.methodLink RX5 23 yX5_takeToken ∈ gT := qT 584 (by decide +kernel) (by decide +kernel)
set_option maxRecDepth 20000 in
theorem q_477 : Cond.instanceMethod yX5_takeToken ∈ gT := qT 586 (by decide +kernel) (by decide +kernel)
set_option maxRecDepth 20000 in
theorem q_478 : Cond.code yX5_takeToken cX5_takeToken 2 none ∈ gT := qT 587 (by decide +kernel) (by decide +kernel)
set_option maxRecDepth 20000 in
theorem q_479 : Cond.methodLink RX5 229 yX5_isBlank ∈ gT := qT 588 (by decide +kernel) (by decide +kernel)
set_option maxRecDepth 20000 in
theorem q_480 : Cond.static yX5_isBlank ∈ gT := qT 589 (by decide +kernel) (by decide +kernel)
set_option maxRecDepth 20000 in
theorem q_481 : Cond.code yX5_isBlank cX5_isBlank 1 (some .boolean) ∈ gT := qT 590 (by decide +kernel) (by decide +kernel)
set_option maxRecDepth 20000 in
theorem q_482 : Cond.methodLink RX5 233 yX5_isLetter ∈ gT := qT 591 (by decide +kernel) (by decide +kernel)
set_option maxRecDepth 20000 in
theorem q_483 : Cond.static yX5_isLetter ∈ gT := qT 592 (by decide +kernel) (by decide +kernel)
set_option maxRecDepth 20000 in
theorem q_484 : Cond.code yX5_isLetter cX5_isLetter 1 (some .boolean) ∈ gT := qT 593 (by decide +kernel) (by decide +kernel)
set_option maxRecDepth 20000 in
theorem q_485 : Cond.methodLink RX5 236 yX5_isDigit ∈ gT := qT 594 (by decide +kernel) (by decide +kernel)
set_option maxRecDepth 20000 in
theorem q_486 : Cond.static yX5_isDigit ∈ gT := qT 595 (by decide +kernel) (by decide +kernel)
set_option maxRecDepth 20000 in
theorem q_487 : Cond.code yX5_isDigit cX5_isDigit 1 (some .boolean) ∈ gT := qT 596 (by decide +kernel) (by decide +kernel)
set_option maxRecDepth 20000 in
theorem q_488 : Cond.constant RX5 239 (1000000) ∈ gT := qT 597 (by decide +kernel) (by decide +kernel)
set_option maxRecDepth 20000 in
theorem q_489 : Cond.methodLink RX5 29 yX5_readLine ∈ gT := qT 598 (by decide +kernel) (by decide +kernel)
set_option maxRecDepth 20000 in
theorem q_491 : Cond.instanceMethod yX5_readLine ∈ gT := qT 600 (by decide +kernel) (by decide +kernel)
set_option maxRecDepth 20000 in
theorem q_492 : Cond.code yX5_readLine cX5_readLine 3 (some .boolean) ∈ gT := qT 601 (by decide +kernel) (by decide +kernel)
set_option maxRecDepth 20000 in
theorem q_493 : Cond.methodLink RX5 77 yX8_at ∈ gT := qT 602 (by decide +kernel) (by decide +kernel)
set_option maxRecDepth 20000 in
theorem q_494 : Cond.static yX8_at ∈ gT := qT 603 (by decide +kernel) (by decide +kernel)
set_option maxRecDepth 20000 in
theorem q_495 : Cond.code yX8_at cX8_at 9 (some (.object "ExemptDesk$Word")) ∈ gT := qT 604 (by decide +kernel) (by decide +kernel)
set_option maxRecDepth 20000 in
theorem q_496 : Cond.fieldLink RX8 66 RX8 "ALL" "[LExemptDesk$Word;" ∈ gT := qT 605 (by decide +kernel) (by decide +kernel)
set_option maxRecDepth 20000 in
theorem q_498 : Cond.methodLink RX8 69 yJ0_length_8abf5 ∈ gT := qT 607 (by decide +kernel) (by decide +kernel)
set_option maxRecDepth 20000 in
theorem q_499 : Cond.instanceMethod yJ0_length_8abf5 ∈ gT := qT 608 (by decide +kernel) (by decide +kernel)
set_option maxRecDepth 20000 in
theorem q_500 : Cond.selects RJ0 yJ0_length_8abf5 yJ0_length_8abf5 ∈ gT := qT 609 (by decide +kernel) (by decide +kernel)
set_option maxRecDepth 20000 in
theorem q_501 : Cond.code yJ0_length_8abf5 cJ0_length_8abf5 1 (some .int) ∈ gT := qT 610 (by decide +kernel) (by decide +kernel)
set_option maxRecDepth 20000 in
theorem q_502 : Cond.methodLink RJ0 335 yJ0_coder_7d493 ∈ gT := qT 611 (by decide +kernel) (by decide +kernel)
set_option maxRecDepth 20000 in
theorem q_503 : Cond.instanceMethod yJ0_coder_7d493 ∈ gT := qT 612 (by decide +kernel) (by decide +kernel)
set_option maxRecDepth 20000 in
theorem q_504 : Cond.selects RJ0 yJ0_coder_7d493 yJ0_coder_7d493 ∈ gT := qT 613 (by decide +kernel) (by decide +kernel)
set_option maxRecDepth 20000 in
theorem q_505 : Cond.code yJ0_coder_7d493 cJ0_coder_7d493 1 (some .byte) ∈ gT := qT 614 (by decide +kernel) (by decide +kernel)
set_option maxRecDepth 20000 in
theorem q_506 : Cond.fieldLink RJ0 38 RJ0 "COMPACT_STRINGS" "Z" ∈ gT := qT 615 (by decide +kernel) (by decide +kernel)
set_option maxRecDepth 20000 in
theorem q_508 : Cond.methodLink RX8 75 yJ0_charAt_5068e ∈ gT := qT 617 (by decide +kernel) (by decide +kernel)
set_option maxRecDepth 20000 in
theorem q_509 : Cond.instanceMethod yJ0_charAt_5068e ∈ gT := qT 618 (by decide +kernel) (by decide +kernel)
set_option maxRecDepth 20000 in
theorem q_510 : Cond.selects RJ0 yJ0_charAt_5068e yJ0_charAt_5068e ∈ gT := qT 619 (by decide +kernel) (by decide +kernel)
set_option maxRecDepth 20000 in
theorem q_511 : Cond.code yJ0_charAt_5068e cJ0_charAt_5068e 2 (some .char) ∈ gT := qT 620 (by decide +kernel) (by decide +kernel)
set_option maxRecDepth 20000 in
theorem q_512 : Cond.methodLink RJ0 492 yJ0_isLatin1_aae02 ∈ gT := qT 621 (by decide +kernel) (by decide +kernel)
set_option maxRecDepth 20000 in
theorem q_513 : Cond.instanceMethod yJ0_isLatin1_aae02 ∈ gT := qT 622 (by decide +kernel) (by decide +kernel)
set_option maxRecDepth 20000 in
theorem q_514 : Cond.selects RJ0 yJ0_isLatin1_aae02 yJ0_isLatin1_aae02 ∈ gT := qT 623 (by decide +kernel) (by decide +kernel)
set_option maxRecDepth 20000 in
theorem q_515 : Cond.code yJ0_isLatin1_aae02 cJ0_isLatin1_aae02 1 (some .boolean) ∈ gT := qT 624 (by decide +kernel) (by decide +kernel)
set_option maxRecDepth 20000 in
theorem q_516 : Cond.methodLink RJ0 495 yJ1_charAt_3b067 ∈ gT := qT 625 (by decide +kernel) (by decide +kernel)
set_option maxRecDepth 20000 in
theorem q_517 : Cond.static yJ1_charAt_3b067 ∈ gT := qT 626 (by decide +kernel) (by decide +kernel)
set_option maxRecDepth 20000 in
theorem q_518 : Cond.code yJ1_charAt_3b067 cJ1_charAt_3b067 2 (some .char) ∈ gT := qT 627 (by decide +kernel) (by decide +kernel)
set_option maxRecDepth 20000 in
theorem q_519 : Cond.methodLink RJ1 9 yJ0_checkIndex_df160 ∈ gT := qT 628 (by decide +kernel) (by decide +kernel)
set_option maxRecDepth 20000 in
theorem q_520 : Cond.static yJ0_checkIndex_df160 ∈ gT := qT 629 (by decide +kernel) (by decide +kernel)
set_option maxRecDepth 20000 in
theorem q_521 : Cond.code yJ0_checkIndex_df160 cJ0_checkIndex_df160 2 none ∈ gT := qT 630 (by decide +kernel) (by decide +kernel)
set_option maxRecDepth 20000 in
theorem q_522 : Cond.fieldLink RJ0 1053 RJ3 "SIOOBE_FORMATTER" "Ljava/util/function/BiFunction;" ∈ gT := qT 631 (by decide +kernel) (by decide +kernel)
set_option maxRecDepth 20000 in
theorem q_524 : Cond.methodLink RJ0 1059 yJ3_checkIndex_8e157 ∈ gT := qT 633 (by decide +kernel) (by decide +kernel)
set_option maxRecDepth 20000 in
theorem q_525 : Cond.static yJ3_checkIndex_8e157 ∈ gT := qT 634 (by decide +kernel) (by decide +kernel)
set_option maxRecDepth 20000 in
theorem q_526 : Cond.code yJ3_checkIndex_8e157 cJ3_checkIndex_8e157 3 (some .int) ∈ gT := qT 635 (by decide +kernel) (by decide +kernel)
set_option maxRecDepth 20000 in
theorem q_527 : Cond.methodLink RJ0 498 yJ2_charAt_3b067 ∈ gT := qT 636 (by decide +kernel) (by decide +kernel)
set_option maxRecDepth 20000 in
theorem q_528 : Cond.static yJ2_charAt_3b067 ∈ gT := qT 637 (by decide +kernel) (by decide +kernel)
set_option maxRecDepth 20000 in
theorem q_529 : Cond.code yJ2_charAt_3b067 cJ2_charAt_3b067 2 (some .char) ∈ gT := qT 638 (by decide +kernel) (by decide +kernel)
set_option maxRecDepth 20000 in
theorem q_530 : Cond.methodLink RJ2 67 yJ2_checkIndex_2214a ∈ gT := qT 639 (by decide +kernel) (by decide +kernel)
set_option maxRecDepth 20000 in
theorem q_531 : Cond.static yJ2_checkIndex_2214a ∈ gT := qT 640 (by decide +kernel) (by decide +kernel)
set_option maxRecDepth 20000 in
theorem q_532 : Cond.code yJ2_checkIndex_2214a cJ2_checkIndex_2214a 2 none ∈ gT := qT 641 (by decide +kernel) (by decide +kernel)
set_option maxRecDepth 20000 in
theorem q_533 : Cond.methodLink RJ2 48 yJ2_length_9d52b ∈ gT := qT 642 (by decide +kernel) (by decide +kernel)
set_option maxRecDepth 20000 in
theorem q_534 : Cond.static yJ2_length_9d52b ∈ gT := qT 643 (by decide +kernel) (by decide +kernel)
set_option maxRecDepth 20000 in
theorem q_535 : Cond.code yJ2_length_9d52b cJ2_length_9d52b 1 (some .int) ∈ gT := qT 644 (by decide +kernel) (by decide +kernel)
set_option maxRecDepth 20000 in
theorem q_536 : Cond.methodLink RJ2 414 yJ0_checkIndex_df160 ∈ gT := qT 645 (by decide +kernel) (by decide +kernel)
set_option maxRecDepth 20000 in
theorem q_537 : Cond.methodLink RJ2 71 yJ2_getChar_3b067 ∈ gT := qT 646 (by decide +kernel) (by decide +kernel)
set_option maxRecDepth 20000 in
theorem q_538 : Cond.static yJ2_getChar_3b067 ∈ gT := qT 647 (by decide +kernel) (by decide +kernel)
set_option maxRecDepth 20000 in
theorem q_539 : Cond.code yJ2_getChar_3b067 cJ2_getChar_3b067 2 (some .char) ∈ gT := qT 648 (by decide +kernel) (by decide +kernel)
set_option maxRecDepth 20000 in
theorem q_540 : Cond.fieldLink RJ2 44 RJ2 "$assertionsDisabled" "Z" ∈ gT := qT 649 (by decide +kernel) (by decide +kernel)
set_option maxRecDepth 20000 in
theorem q_542 : Cond.fieldLink RJ2 59 RJ2 "HI_BYTE_SHIFT" "I" ∈ gT := qT 651 (by decide +kernel) (by decide +kernel)
set_option maxRecDepth 20000 in
theorem q_544 : Cond.fieldLink RJ2 63 RJ2 "LO_BYTE_SHIFT" "I" ∈ gT := qT 653 (by decide +kernel) (by decide +kernel)
set_option maxRecDepth 20000 in
theorem q_546 : Cond.methodLink RX5 83 yX5_fail ∈ gT := qT 655 (by decide +kernel) (by decide +kernel)
set_option maxRecDepth 20000 in
theorem q_548 : Cond.instanceMethod yX5_fail ∈ gT := qT 657 (by decide +kernel) (by decide +kernel)
set_option maxRecDepth 20000 in
theorem q_549 : Cond.code yX5_fail cX5_fail 3 (some .boolean) ∈ gT := qT 658 (by decide +kernel) (by decide +kernel)
set_option maxRecDepth 20000 in
theorem q_550 : Cond.fieldLink RX5 87 RX0 "$SwitchMap$ExemptDesk$Word" "[I" ∈ gT := qT 659 (by decide +kernel) (by decide +kernel)
set_option maxRecDepth 20000 in
theorem q_552 : Cond.methodLink RX5 93 ⟨"ExemptDesk$Word", "ordinal", "()I"⟩ ∈ gT := qT 661 (by decide +kernel) (by decide +kernel)
set_option maxRecDepth 20000 in
theorem q_555 : Cond.selects RX8 ⟨"ExemptDesk$Word", "ordinal", "()I"⟩ yJx29ce0_ordinal_8abf5 ∈ gT := qT 664 (by decide +kernel) (by decide +kernel)
set_option maxRecDepth 20000 in
theorem q_556 : Cond.instanceMethod yJx29ce0_ordinal_8abf5 ∈ gT := qT 665 (by decide +kernel) (by decide +kernel)
set_option maxRecDepth 20000 in
theorem q_557 : Cond.code yJx29ce0_ordinal_8abf5 cJx29ce0_ordinal_8abf5 1 (some .int) ∈ gT := qT 666 (by decide +kernel) (by decide +kernel)
set_option maxRecDepth 20000 in
theorem q_558 : Cond.methodLink RX5 97 yX5_readTrader ∈ gT := qT 667 (by decide +kernel) (by decide +kernel)
set_option maxRecDepth 20000 in
theorem q_560 : Cond.instanceMethod yX5_readTrader ∈ gT := qT 669 (by decide +kernel) (by decide +kernel)
set_option maxRecDepth 20000 in
theorem q_561 : Cond.code yX5_readTrader cX5_readTrader 3 (some .boolean) ∈ gT := qT 670 (by decide +kernel) (by decide +kernel)
set_option maxRecDepth 20000 in
theorem q_562 : Cond.methodLink RX5 121 yX5_isRoom ∈ gT := qT 671 (by decide +kernel) (by decide +kernel)
set_option maxRecDepth 20000 in
theorem q_564 : Cond.instanceMethod yX5_isRoom ∈ gT := qT 673 (by decide +kernel) (by decide +kernel)
set_option maxRecDepth 20000 in
theorem q_565 : Cond.code yX5_isRoom cX5_isRoom 3 (some .boolean) ∈ gT := qT 674 (by decide +kernel) (by decide +kernel)
set_option maxRecDepth 20000 in
theorem q_566 : Cond.methodLink RX5 146 yX5_takeName ∈ gT := qT 675 (by decide +kernel) (by decide +kernel)
set_option maxRecDepth 20000 in
theorem q_568 : Cond.instanceMethod yX5_takeName ∈ gT := qT 677 (by decide +kernel) (by decide +kernel)
set_option maxRecDepth 20000 in
theorem q_569 : Cond.code yX5_takeName cX5_takeName 1 (some .boolean) ∈ gT := qT 678 (by decide +kernel) (by decide +kernel)
set_option maxRecDepth 20000 in
theorem q_570 : Cond.methodLink RX5 152 yX7_traderNamed ∈ gT := qT 679 (by decide +kernel) (by decide +kernel)
set_option maxRecDepth 20000 in
theorem q_571 : Cond.instanceMethod yX7_traderNamed ∈ gT := qT 680 (by decide +kernel) (by decide +kernel)
set_option maxRecDepth 20000 in
theorem q_572 : Cond.selects RX7 yX7_traderNamed yX7_traderNamed ∈ gT := qT 681 (by decide +kernel) (by decide +kernel)
set_option maxRecDepth 20000 in
theorem q_573 : Cond.code yX7_traderNamed cX7_traderNamed 3 (some .int) ∈ gT := qT 682 (by decide +kernel) (by decide +kernel)
set_option maxRecDepth 20000 in
theorem q_574 : Cond.methodLink RX5 156 yX5_isNew ∈ gT := qT 683 (by decide +kernel) (by decide +kernel)
set_option maxRecDepth 20000 in
theorem q_576 : Cond.instanceMethod yX5_isNew ∈ gT := qT 685 (by decide +kernel) (by decide +kernel)
set_option maxRecDepth 20000 in
theorem q_577 : Cond.code yX5_isNew cX5_isNew 2 (some .boolean) ∈ gT := qT 686 (by decide +kernel) (by decide +kernel)
set_option maxRecDepth 20000 in
theorem q_578 : Cond.methodLink RX5 160 yX5_takeNumber ∈ gT := qT 687 (by decide +kernel) (by decide +kernel)
set_option maxRecDepth 20000 in
theorem q_580 : Cond.instanceMethod yX5_takeNumber ∈ gT := qT 689 (by decide +kernel) (by decide +kernel)
set_option maxRecDepth 20000 in
theorem q_581 : Cond.code yX5_takeNumber cX5_takeNumber 3 (some .boolean) ∈ gT := qT 690 (by decide +kernel) (by decide +kernel)
set_option maxRecDepth 20000 in
theorem q_583 : Cond.static yX9_isIn ∈ gT := qT 692 (by decide +kernel) (by decide +kernel)
set_option maxRecDepth 20000 in
theorem q_584 : Cond.code yX9_isIn cX9_isIn 3 (some .boolean) ∈ gT := qT 693 (by decide +kernel) (by decide +kernel)
set_option maxRecDepth 20000 in
theorem q_585 : Cond.methodLink RX5 163 yX7_addTrader ∈ gT := qT 694 (by decide +kernel) (by decide +kernel)
set_option maxRecDepth 20000 in
theorem q_586 : Cond.instanceMethod yX7_addTrader ∈ gT := qT 695 (by decide +kernel) (by decide +kernel)
set_option maxRecDepth 20000 in
theorem q_587 : Cond.selects RX7 yX7_addTrader yX7_addTrader ∈ gT := qT 696 (by decide +kernel) (by decide +kernel)
set_option maxRecDepth 20000 in
theorem q_588 : Cond.code yX7_addTrader cX7_addTrader 4 none ∈ gT := qT 697 (by decide +kernel) (by decide +kernel)
set_option maxRecDepth 20000 in
theorem q_589 : Cond.methodLink RX5 100 yX5_readHead ∈ gT := qT 698 (by decide +kernel) (by decide +kernel)
set_option maxRecDepth 20000 in
theorem q_591 : Cond.instanceMethod yX5_readHead ∈ gT := qT 700 (by decide +kernel) (by decide +kernel)
set_option maxRecDepth 20000 in
theorem q_592 : Cond.code yX5_readHead cX5_readHead 2 (some .boolean) ∈ gT := qT 701 (by decide +kernel) (by decide +kernel)
set_option maxRecDepth 20000 in
theorem q_593 : Cond.methodLink RX5 167 yX5_takeTrader ∈ gT := qT 702 (by decide +kernel) (by decide +kernel)
set_option maxRecDepth 20000 in
theorem q_595 : Cond.instanceMethod yX5_takeTrader ∈ gT := qT 704 (by decide +kernel) (by decide +kernel)
set_option maxRecDepth 20000 in
theorem q_596 : Cond.code yX5_takeTrader cX5_takeTrader 1 (some .boolean) ∈ gT := qT 705 (by decide +kernel) (by decide +kernel)
set_option maxRecDepth 20000 in
theorem q_597 : Cond.methodLink RX5 103 yX5_readStart ∈ gT := qT 706 (by decide +kernel) (by decide +kernel)
set_option maxRecDepth 20000 in
theorem q_599 : Cond.instanceMethod yX5_readStart ∈ gT := qT 708 (by decide +kernel) (by decide +kernel)
set_option maxRecDepth 20000 in
theorem q_600 : Cond.code yX5_readStart cX5_readStart 1 (some .boolean) ∈ gT := qT 709 (by decide +kernel) (by decide +kernel)
set_option maxRecDepth 20000 in
theorem q_601 : Cond.methodLink RX5 106 yX5_readRound ∈ gT := qT 710 (by decide +kernel) (by decide +kernel)
set_option maxRecDepth 20000 in
theorem q_603 : Cond.instanceMethod yX5_readRound ∈ gT := qT 712 (by decide +kernel) (by decide +kernel)
set_option maxRecDepth 20000 in
theorem q_604 : Cond.code yX5_readRound cX5_readRound 2 (some .boolean) ∈ gT := qT 713 (by decide +kernel) (by decide +kernel)
set_option maxRecDepth 20000 in
theorem q_605 : Cond.fieldLink RX5 182 RX8 "DOWNWARDS" "LExemptDesk$Word;" ∈ gT := qT 714 (by decide +kernel) (by decide +kernel)
set_option maxRecDepth 20000 in
theorem q_607 : Cond.fieldLink RX5 189 RX8 "UPWARDS" "LExemptDesk$Word;" ∈ gT := qT 716 (by decide +kernel) (by decide +kernel)
set_option maxRecDepth 20000 in
theorem q_609 : Cond.fieldLink RX5 192 RX8 "NEAREST" "LExemptDesk$Word;" ∈ gT := qT 718 (by decide +kernel) (by decide +kernel)
set_option maxRecDepth 20000 in
theorem q_611 : Cond.methodLink RX5 109 yX5_readStep ∈ gT := qT 720 (by decide +kernel) (by decide +kernel)
set_option maxRecDepth 20000 in
theorem q_613 : Cond.instanceMethod yX5_readStep ∈ gT := qT 722 (by decide +kernel) (by decide +kernel)
set_option maxRecDepth 20000 in
theorem q_614 : Cond.code yX5_readStep cX5_readStep 1 (some .boolean) ∈ gT := qT 723 (by decide +kernel) (by decide +kernel)
set_option maxRecDepth 20000 in
theorem q_615 : Cond.methodLink RX5 112 yX5_readLimit ∈ gT := qT 724 (by decide +kernel) (by decide +kernel)
set_option maxRecDepth 20000 in
theorem q_617 : Cond.instanceMethod yX5_readLimit ∈ gT := qT 726 (by decide +kernel) (by decide +kernel)
set_option maxRecDepth 20000 in
theorem q_618 : Cond.code yX5_readLimit cX5_readLimit 1 (some .boolean) ∈ gT := qT 727 (by decide +kernel) (by decide +kernel)
set_option maxRecDepth 20000 in
theorem q_619 : Cond.methodLink RX5 115 yX5_readSeed ∈ gT := qT 728 (by decide +kernel) (by decide +kernel)
set_option maxRecDepth 20000 in
theorem q_621 : Cond.instanceMethod yX5_readSeed ∈ gT := qT 730 (by decide +kernel) (by decide +kernel)
set_option maxRecDepth 20000 in
theorem q_622 : Cond.code yX5_readSeed cX5_readSeed 1 (some .boolean) ∈ gT := qT 731 (by decide +kernel) (by decide +kernel)
set_option maxRecDepth 20000 in
theorem q_623 : Cond.constant RX5 201 (99999) ∈ gT := qT 732 (by decide +kernel) (by decide +kernel)
set_option maxRecDepth 20000 in
theorem q_624 : Cond.methodLink RX5 124 yX5_takeDeal ∈ gT := qT 733 (by decide +kernel) (by decide +kernel)
set_option maxRecDepth 20000 in
theorem q_626 : Cond.instanceMethod yX5_takeDeal ∈ gT := qT 735 (by decide +kernel) (by decide +kernel)
set_option maxRecDepth 20000 in
theorem q_627 : Cond.code yX5_takeDeal cX5_takeDeal 2 (some .boolean) ∈ gT := qT 736 (by decide +kernel) (by decide +kernel)
set_option maxRecDepth 20000 in
theorem q_628 : Cond.methodLink RX5 128 yX5_endSale ∈ gT := qT 737 (by decide +kernel) (by decide +kernel)
set_option maxRecDepth 20000 in
theorem q_630 : Cond.instanceMethod yX5_endSale ∈ gT := qT 739 (by decide +kernel) (by decide +kernel)
set_option maxRecDepth 20000 in
theorem q_631 : Cond.code yX5_endSale cX5_endSale 1 (some .boolean) ∈ gT := qT 740 (by decide +kernel) (by decide +kernel)
set_option maxRecDepth 20000 in
theorem q_632 : Cond.methodLink RX5 211 yX7_addSale ∈ gT := qT 741 (by decide +kernel) (by decide +kernel)
set_option maxRecDepth 20000 in
theorem q_633 : Cond.instanceMethod yX7_addSale ∈ gT := qT 742 (by decide +kernel) (by decide +kernel)
set_option maxRecDepth 20000 in
theorem q_634 : Cond.selects RX7 yX7_addSale yX7_addSale ∈ gT := qT 743 (by decide +kernel) (by decide +kernel)
set_option maxRecDepth 20000 in
theorem q_635 : Cond.code yX7_addSale cX7_addSale 5 none ∈ gT := qT 744 (by decide +kernel) (by decide +kernel)
set_option maxRecDepth 20000 in
theorem q_636 : Cond.methodLink RX7 61 yX7_addMove ∈ gT := qT 745 (by decide +kernel) (by decide +kernel)
set_option maxRecDepth 20000 in
theorem q_638 : Cond.instanceMethod yX7_addMove ∈ gT := qT 747 (by decide +kernel) (by decide +kernel)
set_option maxRecDepth 20000 in
theorem q_639 : Cond.code yX7_addMove cX7_addMove 6 none ∈ gT := qT 748 (by decide +kernel) (by decide +kernel)
set_option maxRecDepth 20000 in
theorem q_640 : Cond.methodLink RX5 134 yX5_endBuy ∈ gT := qT 749 (by decide +kernel) (by decide +kernel)
set_option maxRecDepth 20000 in
theorem q_642 : Cond.instanceMethod yX5_endBuy ∈ gT := qT 751 (by decide +kernel) (by decide +kernel)
set_option maxRecDepth 20000 in
theorem q_643 : Cond.code yX5_endBuy cX5_endBuy 1 (some .boolean) ∈ gT := qT 752 (by decide +kernel) (by decide +kernel)
set_option maxRecDepth 20000 in
theorem q_644 : Cond.methodLink RX5 215 yX7_addBuy ∈ gT := qT 753 (by decide +kernel) (by decide +kernel)
set_option maxRecDepth 20000 in
theorem q_645 : Cond.instanceMethod yX7_addBuy ∈ gT := qT 754 (by decide +kernel) (by decide +kernel)
set_option maxRecDepth 20000 in
theorem q_646 : Cond.selects RX7 yX7_addBuy yX7_addBuy ∈ gT := qT 755 (by decide +kernel) (by decide +kernel)
set_option maxRecDepth 20000 in
theorem q_647 : Cond.code yX7_addBuy cX7_addBuy 5 none ∈ gT := qT 756 (by decide +kernel) (by decide +kernel)
set_option maxRecDepth 20000 in
theorem q_648 : Cond.methodLink RX5 140 yX5_endAsset ∈ gT := qT 757 (by decide +kernel) (by decide +kernel)
set_option maxRecDepth 20000 in
theorem q_650 : Cond.instanceMethod yX5_endAsset ∈ gT := qT 759 (by decide +kernel) (by decide +kernel)
set_option maxRecDepth 20000 in
theorem q_651 : Cond.code yX5_endAsset cX5_endAsset 2 (some .boolean) ∈ gT := qT 760 (by decide +kernel) (by decide +kernel)
set_option maxRecDepth 20000 in
theorem q_653 : Cond.static yX9_isIntervals ∈ gT := qT 762 (by decide +kernel) (by decide +kernel)
set_option maxRecDepth 20000 in
theorem q_654 : Cond.code yX9_isIntervals cX9_isIntervals 1 (some .boolean) ∈ gT := qT 763 (by decide +kernel) (by decide +kernel)
set_option maxRecDepth 20000 in
theorem q_655 : Cond.methodLink RX5 221 yX7_addAsset ∈ gT := qT 764 (by decide +kernel) (by decide +kernel)
set_option maxRecDepth 20000 in
theorem q_656 : Cond.instanceMethod yX7_addAsset ∈ gT := qT 765 (by decide +kernel) (by decide +kernel)
set_option maxRecDepth 20000 in
theorem q_657 : Cond.selects RX7 yX7_addAsset yX7_addAsset ∈ gT := qT 766 (by decide +kernel) (by decide +kernel)
set_option maxRecDepth 20000 in
theorem q_658 : Cond.code yX7_addAsset cX7_addAsset 7 none ∈ gT := qT 767 (by decide +kernel) (by decide +kernel)
set_option maxRecDepth 20000 in
theorem q_659 : Cond.methodLink RX9 59 yX3_open ∈ gT := qT 768 (by decide +kernel) (by decide +kernel)
set_option maxRecDepth 20000 in
theorem q_660 : Cond.instanceMethod yX3_open ∈ gT := qT 769 (by decide +kernel) (by decide +kernel)
set_option maxRecDepth 20000 in
theorem q_661 : Cond.selects RX3 yX3_open yX3_open ∈ gT := qT 770 (by decide +kernel) (by decide +kernel)
set_option maxRecDepth 20000 in
theorem q_662 : Cond.code yX3_open cX3_open 2 none ∈ gT := qT 771 (by decide +kernel) (by decide +kernel)
set_option maxRecDepth 20000 in
theorem q_663 : Cond.methodLink RX3 32 yX2_clear ∈ gT := qT 772 (by decide +kernel) (by decide +kernel)
set_option maxRecDepth 20000 in
theorem q_664 : Cond.instanceMethod yX2_clear ∈ gT := qT 773 (by decide +kernel) (by decide +kernel)
set_option maxRecDepth 20000 in
theorem q_665 : Cond.selects RX2 yX2_clear yX2_clear ∈ gT := qT 774 (by decide +kernel) (by decide +kernel)
set_option maxRecDepth 20000 in
theorem q_666 : Cond.code yX2_clear cX2_clear 1 none ∈ gT := qT 775 (by decide +kernel) (by decide +kernel)
set_option maxRecDepth 20000 in
theorem q_667 : Cond.methodLink RX2 53 yX2_clearRow ∈ gT := qT 776 (by decide +kernel) (by decide +kernel)
set_option maxRecDepth 20000 in
theorem q_668 : Cond.static yX2_clearRow ∈ gT := qT 777 (by decide +kernel) (by decide +kernel)
set_option maxRecDepth 20000 in
theorem q_669 : Cond.code yX2_clearRow cX2_clearRow 2 none ∈ gT := qT 778 (by decide +kernel) (by decide +kernel)
set_option maxRecDepth 20000 in
theorem q_671 : Cond.static yX9_copyRow ∈ gT := qT 780 (by decide +kernel) (by decide +kernel)
set_option maxRecDepth 20000 in
theorem q_672 : Cond.code yX9_copyRow cX9_copyRow 2 none ∈ gT := qT 781 (by decide +kernel) (by decide +kernel)
set_option maxRecDepth 20000 in
theorem q_673 : Cond.methodLink RX9 265 yJ9_min_7cf53 ∈ gT := qT 782 (by decide +kernel) (by decide +kernel)
set_option maxRecDepth 20000 in
theorem q_674 : Cond.methodLink RX9 406 ⟨"java/lang/System", "arraycopy", "(Ljava/lang/Object;ILjava/lang/Object;II)V"⟩ ∈ gT := qT 783 (by decide +kernel) (by decide +kernel)
set_option maxRecDepth 20000 in
theorem q_675 : Cond.static ⟨"java/lang/System", "arraycopy", "(Ljava/lang/Object;ILjava/lang/Object;II)V"⟩ ∈ gT := qT 784 (by decide +kernel) (by decide +kernel)
set_option maxRecDepth 20000 in
theorem q_676 : Cond.native ⟨"java/lang/System", "arraycopy", "(Ljava/lang/Object;ILjava/lang/Object;II)V"⟩ ∈ gT := qT 785 (by decide +kernel) (by decide +kernel)
set_option maxRecDepth 20000 in
theorem q_677 : Cond.methodLink RX3 48 yX3_bringTold ∈ gT := qT 786 (by decide +kernel) (by decide +kernel)
set_option maxRecDepth 20000 in
theorem q_679 : Cond.instanceMethod yX3_bringTold ∈ gT := qT 788 (by decide +kernel) (by decide +kernel)
set_option maxRecDepth 20000 in
theorem q_680 : Cond.code yX3_bringTold cX3_bringTold 3 none ∈ gT := qT 789 (by decide +kernel) (by decide +kernel)
set_option maxRecDepth 20000 in
theorem q_681 : Cond.methodLink RX3 68 yX2_addToSum ∈ gT := qT 790 (by decide +kernel) (by decide +kernel)
set_option maxRecDepth 20000 in
theorem q_682 : Cond.instanceMethod yX2_addToSum ∈ gT := qT 791 (by decide +kernel) (by decide +kernel)
set_option maxRecDepth 20000 in
theorem q_683 : Cond.selects RX2 yX2_addToSum yX2_addToSum ∈ gT := qT 792 (by decide +kernel) (by decide +kernel)
set_option maxRecDepth 20000 in
theorem q_684 : Cond.code yX2_addToSum cX2_addToSum 6 (some .int) ∈ gT := qT 793 (by decide +kernel) (by decide +kernel)
set_option maxRecDepth 20000 in
theorem q_685 : Cond.methodLink RX3 78 yX2_addAsset ∈ gT := qT 794 (by decide +kernel) (by decide +kernel)
set_option maxRecDepth 20000 in
theorem q_686 : Cond.instanceMethod yX2_addAsset ∈ gT := qT 795 (by decide +kernel) (by decide +kernel)
set_option maxRecDepth 20000 in
theorem q_687 : Cond.selects RX2 yX2_addAsset yX2_addAsset ∈ gT := qT 796 (by decide +kernel) (by decide +kernel)
set_option maxRecDepth 20000 in
theorem q_688 : Cond.code yX2_addAsset cX2_addAsset 5 (some .int) ∈ gT := qT 797 (by decide +kernel) (by decide +kernel)
set_option maxRecDepth 20000 in
theorem q_689 : Cond.methodLink RX2 65 yX1_begin ∈ gT := qT 798 (by decide +kernel) (by decide +kernel)
set_option maxRecDepth 20000 in
theorem q_690 : Cond.instanceMethod yX1_begin ∈ gT := qT 799 (by decide +kernel) (by decide +kernel)
set_option maxRecDepth 20000 in
theorem q_691 : Cond.selects RX1 yX1_begin yX1_begin ∈ gT := qT 800 (by decide +kernel) (by decide +kernel)
set_option maxRecDepth 20000 in
theorem q_692 : Cond.code yX1_begin cX1_begin 6 none ∈ gT := qT 801 (by decide +kernel) (by decide +kernel)
set_option maxRecDepth 20000 in
theorem q_693 : Cond.methodLink RX2 69 yX2_addToSum ∈ gT := qT 802 (by decide +kernel) (by decide +kernel)
set_option maxRecDepth 20000 in
theorem q_694 : Cond.methodLink RX9 63 yX4_clear ∈ gT := qT 803 (by decide +kernel) (by decide +kernel)
set_option maxRecDepth 20000 in
theorem q_695 : Cond.instanceMethod yX4_clear ∈ gT := qT 804 (by decide +kernel) (by decide +kernel)
set_option maxRecDepth 20000 in
theorem q_696 : Cond.selects RX4 yX4_clear yX4_clear ∈ gT := qT 805 (by decide +kernel) (by decide +kernel)
set_option maxRecDepth 20000 in
theorem q_697 : Cond.code yX4_clear cX4_clear 1 none ∈ gT := qT 806 (by decide +kernel) (by decide +kernel)
set_option maxRecDepth 20000 in
theorem q_698 : Cond.methodLink RL 31 yX9_fault ∈ gT := qT 807 (by decide +kernel) (by decide +kernel)
set_option maxRecDepth 20000 in
theorem q_699 : Cond.instanceMethod yX9_fault ∈ gT := qT 808 (by decide +kernel) (by decide +kernel)
set_option maxRecDepth 20000 in
theorem q_700 : Cond.selects RX9 yX9_fault yX9_fault ∈ gT := qT 809 (by decide +kernel) (by decide +kernel)
set_option maxRecDepth 20000 in
theorem q_701 : Cond.code yX9_fault cX9_fault 2 (some .int) ∈ gT := qT 810 (by decide +kernel) (by decide +kernel)
set_option maxRecDepth 20000 in
theorem q_702 : Cond.methodLink RL 35 yX9_named ∈ gT := qT 811 (by decide +kernel) (by decide +kernel)
set_option maxRecDepth 20000 in
theorem q_703 : Cond.instanceMethod yX9_named ∈ gT := qT 812 (by decide +kernel) (by decide +kernel)
set_option maxRecDepth 20000 in
theorem q_704 : Cond.selects RX9 yX9_named yX9_named ∈ gT := qT 813 (by decide +kernel) (by decide +kernel)
set_option maxRecDepth 20000 in
theorem q_705 : Cond.code yX9_named cX9_named 2 (some .int) ∈ gT := qT 814 (by decide +kernel) (by decide +kernel)
set_option maxRecDepth 20000 in
theorem q_706 : Cond.methodLink RX9 76 yX7_traderNamed ∈ gT := qT 815 (by decide +kernel) (by decide +kernel)
set_option maxRecDepth 20000 in
theorem q_707 : Cond.methodLink RL 49 yX9_asset ∈ gT := qT 816 (by decide +kernel) (by decide +kernel)
set_option maxRecDepth 20000 in
theorem q_708 : Cond.instanceMethod yX9_asset ∈ gT := qT 817 (by decide +kernel) (by decide +kernel)
set_option maxRecDepth 20000 in
theorem q_709 : Cond.selects RX9 yX9_asset yX9_asset ∈ gT := qT 818 (by decide +kernel) (by decide +kernel)
set_option maxRecDepth 20000 in
theorem q_710 : Cond.code yX9_asset cX9_asset 4 (some .int) ∈ gT := qT 819 (by decide +kernel) (by decide +kernel)
set_option maxRecDepth 20000 in
theorem q_711 : Cond.methodLink RX9 121 yX9_isAsset ∈ gT := qT 820 (by decide +kernel) (by decide +kernel)
set_option maxRecDepth 20000 in
theorem q_713 : Cond.instanceMethod yX9_isAsset ∈ gT := qT 822 (by decide +kernel) (by decide +kernel)
set_option maxRecDepth 20000 in
theorem q_714 : Cond.code yX9_isAsset cX9_isAsset 2 (some .boolean) ∈ gT := qT 823 (by decide +kernel) (by decide +kernel)
set_option maxRecDepth 20000 in
theorem q_715 : Cond.methodLink RX9 163 yX9_isIn ∈ gT := qT 824 (by decide +kernel) (by decide +kernel)
set_option maxRecDepth 20000 in
theorem q_716 : Cond.methodLink RL 53 yX9_sale ∈ gT := qT 825 (by decide +kernel) (by decide +kernel)
set_option maxRecDepth 20000 in
theorem q_717 : Cond.instanceMethod yX9_sale ∈ gT := qT 826 (by decide +kernel) (by decide +kernel)
set_option maxRecDepth 20000 in
theorem q_718 : Cond.selects RX9 yX9_sale yX9_sale ∈ gT := qT 827 (by decide +kernel) (by decide +kernel)
set_option maxRecDepth 20000 in
theorem q_719 : Cond.code yX9_sale cX9_sale 4 (some .int) ∈ gT := qT 828 (by decide +kernel) (by decide +kernel)
set_option maxRecDepth 20000 in
theorem q_720 : Cond.methodLink RX9 80 yX9_isTrader ∈ gT := qT 829 (by decide +kernel) (by decide +kernel)
set_option maxRecDepth 20000 in
theorem q_722 : Cond.instanceMethod yX9_isTrader ∈ gT := qT 831 (by decide +kernel) (by decide +kernel)
set_option maxRecDepth 20000 in
theorem q_723 : Cond.code yX9_isTrader cX9_isTrader 2 (some .boolean) ∈ gT := qT 832 (by decide +kernel) (by decide +kernel)
set_option maxRecDepth 20000 in
theorem q_724 : Cond.constant RX9 167 (99999) ∈ gT := qT 833 (by decide +kernel) (by decide +kernel)
set_option maxRecDepth 20000 in
theorem q_725 : Cond.methodLink RX9 168 yX4_add ∈ gT := qT 834 (by decide +kernel) (by decide +kernel)
set_option maxRecDepth 20000 in
theorem q_726 : Cond.instanceMethod yX4_add ∈ gT := qT 835 (by decide +kernel) (by decide +kernel)
set_option maxRecDepth 20000 in
theorem q_727 : Cond.selects RX4 yX4_add yX4_add ∈ gT := qT 836 (by decide +kernel) (by decide +kernel)
set_option maxRecDepth 20000 in
theorem q_728 : Cond.code yX4_add cX4_add 3 none ∈ gT := qT 837 (by decide +kernel) (by decide +kernel)
set_option maxRecDepth 20000 in
theorem q_729 : Cond.methodLink RX4 24 yX2_init ∈ gT := qT 838 (by decide +kernel) (by decide +kernel)
set_option maxRecDepth 20000 in
theorem q_730 : Cond.methodLink RX4 25 yX2_copyFrom ∈ gT := qT 839 (by decide +kernel) (by decide +kernel)
set_option maxRecDepth 20000 in
theorem q_731 : Cond.instanceMethod yX2_copyFrom ∈ gT := qT 840 (by decide +kernel) (by decide +kernel)
set_option maxRecDepth 20000 in
theorem q_732 : Cond.selects RX2 yX2_copyFrom yX2_copyFrom ∈ gT := qT 841 (by decide +kernel) (by decide +kernel)
set_option maxRecDepth 20000 in
theorem q_733 : Cond.code yX2_copyFrom cX2_copyFrom 3 none ∈ gT := qT 842 (by decide +kernel) (by decide +kernel)
set_option maxRecDepth 20000 in
theorem q_735 : Cond.methodLink RX2 61 yX1_copyFrom ∈ gT := qT 844 (by decide +kernel) (by decide +kernel)
set_option maxRecDepth 20000 in
theorem q_736 : Cond.instanceMethod yX1_copyFrom ∈ gT := qT 845 (by decide +kernel) (by decide +kernel)
set_option maxRecDepth 20000 in
theorem q_737 : Cond.selects RX1 yX1_copyFrom yX1_copyFrom ∈ gT := qT 846 (by decide +kernel) (by decide +kernel)
set_option maxRecDepth 20000 in
theorem q_738 : Cond.code yX1_copyFrom cX1_copyFrom 2 none ∈ gT := qT 847 (by decide +kernel) (by decide +kernel)
set_option maxRecDepth 20000 in
theorem q_740 : Cond.methodLink RX9 175 yX2_addToSum ∈ gT := qT 849 (by decide +kernel) (by decide +kernel)
set_option maxRecDepth 20000 in
theorem q_741 : Cond.methodLink RL 58 yX9_buy ∈ gT := qT 850 (by decide +kernel) (by decide +kernel)
set_option maxRecDepth 20000 in
theorem q_742 : Cond.instanceMethod yX9_buy ∈ gT := qT 851 (by decide +kernel) (by decide +kernel)
set_option maxRecDepth 20000 in
theorem q_743 : Cond.selects RX9 yX9_buy yX9_buy ∈ gT := qT 852 (by decide +kernel) (by decide +kernel)
set_option maxRecDepth 20000 in
theorem q_744 : Cond.code yX9_buy cX9_buy 4 (some .int) ∈ gT := qT 853 (by decide +kernel) (by decide +kernel)
set_option maxRecDepth 20000 in
theorem q_745 : Cond.methodLink RL 62 yX9_late ∈ gT := qT 854 (by decide +kernel) (by decide +kernel)
set_option maxRecDepth 20000 in
theorem q_746 : Cond.instanceMethod yX9_late ∈ gT := qT 855 (by decide +kernel) (by decide +kernel)
set_option maxRecDepth 20000 in
theorem q_747 : Cond.selects RX9 yX9_late yX9_late ∈ gT := qT 856 (by decide +kernel) (by decide +kernel)
set_option maxRecDepth 20000 in
theorem q_748 : Cond.code yX9_late cX9_late 6 (some .int) ∈ gT := qT 857 (by decide +kernel) (by decide +kernel)
set_option maxRecDepth 20000 in
theorem q_749 : Cond.methodLink RL 67 yX9_heads ∈ gT := qT 858 (by decide +kernel) (by decide +kernel)
set_option maxRecDepth 20000 in
theorem q_750 : Cond.instanceMethod yX9_heads ∈ gT := qT 859 (by decide +kernel) (by decide +kernel)
set_option maxRecDepth 20000 in
theorem q_751 : Cond.selects RX9 yX9_heads yX9_heads ∈ gT := qT 860 (by decide +kernel) (by decide +kernel)
set_option maxRecDepth 20000 in
theorem q_752 : Cond.code yX9_heads cX9_heads 4 (some .boolean) ∈ gT := qT 861 (by decide +kernel) (by decide +kernel)
set_option maxRecDepth 20000 in
theorem q_753 : Cond.methodLink RL 72 yX9_acquire ∈ gT := qT 862 (by decide +kernel) (by decide +kernel)
set_option maxRecDepth 20000 in
theorem q_754 : Cond.instanceMethod yX9_acquire ∈ gT := qT 863 (by decide +kernel) (by decide +kernel)
set_option maxRecDepth 20000 in
theorem q_755 : Cond.selects RX9 yX9_acquire yX9_acquire ∈ gT := qT 864 (by decide +kernel) (by decide +kernel)
set_option maxRecDepth 20000 in
theorem q_756 : Cond.code yX9_acquire cX9_acquire 5 (some .int) ∈ gT := qT 865 (by decide +kernel) (by decide +kernel)
set_option maxRecDepth 20000 in
theorem q_757 : Cond.methodLink RX9 179 yX9_isIntervals ∈ gT := qT 866 (by decide +kernel) (by decide +kernel)
set_option maxRecDepth 20000 in
theorem q_758 : Cond.methodLink RX9 185 yX2_addAsset ∈ gT := qT 867 (by decide +kernel) (by decide +kernel)
set_option maxRecDepth 20000 in
theorem q_759 : Cond.methodLink RL 76 yX9_use ∈ gT := qT 868 (by decide +kernel) (by decide +kernel)
set_option maxRecDepth 20000 in
theorem q_760 : Cond.instanceMethod yX9_use ∈ gT := qT 869 (by decide +kernel) (by decide +kernel)
set_option maxRecDepth 20000 in
theorem q_761 : Cond.selects RX9 yX9_use yX9_use ∈ gT := qT 870 (by decide +kernel) (by decide +kernel)
set_option maxRecDepth 20000 in
theorem q_762 : Cond.code yX9_use cX9_use 3 (some .boolean) ∈ gT := qT 871 (by decide +kernel) (by decide +kernel)
set_option maxRecDepth 20000 in
theorem q_763 : Cond.methodLink RX9 188 yX1_usesMayChange ∈ gT := qT 872 (by decide +kernel) (by decide +kernel)
set_option maxRecDepth 20000 in
theorem q_764 : Cond.instanceMethod yX1_usesMayChange ∈ gT := qT 873 (by decide +kernel) (by decide +kernel)
set_option maxRecDepth 20000 in
theorem q_765 : Cond.selects RX1 yX1_usesMayChange yX1_usesMayChange ∈ gT := qT 874 (by decide +kernel) (by decide +kernel)
set_option maxRecDepth 20000 in
theorem q_766 : Cond.code yX1_usesMayChange cX1_usesMayChange 1 (some .boolean) ∈ gT := qT 875 (by decide +kernel) (by decide +kernel)
set_option maxRecDepth 20000 in
theorem q_767 : Cond.methodLink RX1 75 yX1_isFree ∈ gT := qT 876 (by decide +kernel) (by decide +kernel)
set_option maxRecDepth 20000 in
theorem q_768 : Cond.instanceMethod yX1_isFree ∈ gT := qT 877 (by decide +kernel) (by decide +kernel)
set_option maxRecDepth 20000 in
theorem q_769 : Cond.selects RX1 yX1_isFree yX1_isFree ∈ gT := qT 878 (by decide +kernel) (by decide +kernel)
set_option maxRecDepth 20000 in
theorem q_770 : Cond.code yX1_isFree cX1_isFree 1 (some .boolean) ∈ gT := qT 879 (by decide +kernel) (by decide +kernel)
set_option maxRecDepth 20000 in
theorem q_771 : Cond.methodLink RL 81 yX9_sell ∈ gT := qT 880 (by decide +kernel) (by decide +kernel)
set_option maxRecDepth 20000 in
theorem q_772 : Cond.instanceMethod yX9_sell ∈ gT := qT 881 (by decide +kernel) (by decide +kernel)
set_option maxRecDepth 20000 in
theorem q_773 : Cond.selects RX9 yX9_sell yX9_sell ∈ gT := qT 882 (by decide +kernel) (by decide +kernel)
set_option maxRecDepth 20000 in
theorem q_774 : Cond.code yX9_sell cX9_sell 5 (some .int) ∈ gT := qT 883 (by decide +kernel) (by decide +kernel)
set_option maxRecDepth 20000 in
theorem q_775 : Cond.methodLink RX9 192 yX1_isFree ∈ gT := qT 884 (by decide +kernel) (by decide +kernel)
set_option maxRecDepth 20000 in
theorem q_776 : Cond.methodLink RX9 198 yX1_intervalsBehind ∈ gT := qT 885 (by decide +kernel) (by decide +kernel)
set_option maxRecDepth 20000 in
theorem q_777 : Cond.instanceMethod yX1_intervalsBehind ∈ gT := qT 886 (by decide +kernel) (by decide +kernel)
set_option maxRecDepth 20000 in
theorem q_778 : Cond.selects RX1 yX1_intervalsBehind yX1_intervalsBehind ∈ gT := qT 887 (by decide +kernel) (by decide +kernel)
set_option maxRecDepth 20000 in
theorem q_779 : Cond.code yX1_intervalsBehind cX1_intervalsBehind 1 (some .int) ∈ gT := qT 888 (by decide +kernel) (by decide +kernel)
set_option maxRecDepth 20000 in
theorem q_780 : Cond.methodLink RL 85 yX9_hand ∈ gT := qT 889 (by decide +kernel) (by decide +kernel)
set_option maxRecDepth 20000 in
theorem q_781 : Cond.instanceMethod yX9_hand ∈ gT := qT 890 (by decide +kernel) (by decide +kernel)
set_option maxRecDepth 20000 in
theorem q_782 : Cond.selects RX9 yX9_hand yX9_hand ∈ gT := qT 891 (by decide +kernel) (by decide +kernel)
set_option maxRecDepth 20000 in
theorem q_783 : Cond.code yX9_hand cX9_hand 5 (some .int) ∈ gT := qT 892 (by decide +kernel) (by decide +kernel)
set_option maxRecDepth 20000 in
theorem q_784 : Cond.methodLink RL 89 yX9_close ∈ gT := qT 893 (by decide +kernel) (by decide +kernel)
set_option maxRecDepth 20000 in
theorem q_785 : Cond.instanceMethod yX9_close ∈ gT := qT 894 (by decide +kernel) (by decide +kernel)
set_option maxRecDepth 20000 in
theorem q_786 : Cond.selects RX9 yX9_close yX9_close ∈ gT := qT 895 (by decide +kernel) (by decide +kernel)
set_option maxRecDepth 20000 in
theorem q_787 : Cond.code yX9_close cX9_close 4 (some .int) ∈ gT := qT 896 (by decide +kernel) (by decide +kernel)
set_option maxRecDepth 20000 in
theorem q_788 : Cond.methodLink RX9 202 yX9_mayEnd ∈ gT := qT 897 (by decide +kernel) (by decide +kernel)
set_option maxRecDepth 20000 in
theorem q_790 : Cond.instanceMethod yX9_mayEnd ∈ gT := qT 899 (by decide +kernel) (by decide +kernel)
set_option maxRecDepth 20000 in
theorem q_791 : Cond.code yX9_mayEnd cX9_mayEnd 2 (some .boolean) ∈ gT := qT 900 (by decide +kernel) (by decide +kernel)
set_option maxRecDepth 20000 in
theorem q_792 : Cond.methodLink RX9 208 yX3_endQuarter ∈ gT := qT 901 (by decide +kernel) (by decide +kernel)
set_option maxRecDepth 20000 in
theorem q_793 : Cond.instanceMethod yX3_endQuarter ∈ gT := qT 902 (by decide +kernel) (by decide +kernel)
set_option maxRecDepth 20000 in
theorem q_794 : Cond.selects RX3 yX3_endQuarter yX3_endQuarter ∈ gT := qT 903 (by decide +kernel) (by decide +kernel)
set_option maxRecDepth 20000 in
theorem q_795 : Cond.code yX3_endQuarter cX3_endQuarter 4 none ∈ gT := qT 904 (by decide +kernel) (by decide +kernel)
set_option maxRecDepth 20000 in
theorem q_796 : Cond.methodLink RX3 164 yX3_fractionByBasis ∈ gT := qT 905 (by decide +kernel) (by decide +kernel)
set_option maxRecDepth 20000 in
theorem q_797 : Cond.instanceMethod yX3_fractionByBasis ∈ gT := qT 906 (by decide +kernel) (by decide +kernel)
set_option maxRecDepth 20000 in
theorem q_798 : Cond.selects RX3 yX3_fractionByBasis yX3_fractionByBasis ∈ gT := qT 907 (by decide +kernel) (by decide +kernel)
set_option maxRecDepth 20000 in
theorem q_799 : Cond.code yX3_fractionByBasis cX3_fractionByBasis 5 (some .int) ∈ gT := qT 908 (by decide +kernel) (by decide +kernel)
set_option maxRecDepth 20000 in
theorem q_800 : Cond.methodLink RX3 123 yX2_keptAnnual ∈ gT := qT 909 (by decide +kernel) (by decide +kernel)
set_option maxRecDepth 20000 in
theorem q_801 : Cond.instanceMethod yX2_keptAnnual ∈ gT := qT 910 (by decide +kernel) (by decide +kernel)
set_option maxRecDepth 20000 in
theorem q_802 : Cond.selects RX2 yX2_keptAnnual yX2_keptAnnual ∈ gT := qT 911 (by decide +kernel) (by decide +kernel)
set_option maxRecDepth 20000 in
theorem q_803 : Cond.code yX2_keptAnnual cX2_keptAnnual 3 (some .int) ∈ gT := qT 912 (by decide +kernel) (by decide +kernel)
set_option maxRecDepth 20000 in
theorem q_804 : Cond.methodLink RX3 150 yJ9_min_7cf53 ∈ gT := qT 913 (by decide +kernel) (by decide +kernel)
set_option maxRecDepth 20000 in
theorem q_805 : Cond.methodLink RX3 155 yX3_ofQuarter ∈ gT := qT 914 (by decide +kernel) (by decide +kernel)
set_option maxRecDepth 20000 in
theorem q_806 : Cond.instanceMethod yX3_ofQuarter ∈ gT := qT 915 (by decide +kernel) (by decide +kernel)
set_option maxRecDepth 20000 in
theorem q_807 : Cond.selects RX3 yX3_ofQuarter yX3_ofQuarter ∈ gT := qT 916 (by decide +kernel) (by decide +kernel)
set_option maxRecDepth 20000 in
theorem q_808 : Cond.code yX3_ofQuarter cX3_ofQuarter 3 (some (.object "ExemptDesk$Reckoning")) ∈ gT := qT 917 (by decide +kernel) (by decide +kernel)
set_option maxRecDepth 20000 in
theorem q_809 : Cond.methodLink RX3 111 yX3_beginReckoning ∈ gT := qT 918 (by decide +kernel) (by decide +kernel)
set_option maxRecDepth 20000 in
theorem q_811 : Cond.instanceMethod yX3_beginReckoning ∈ gT := qT 920 (by decide +kernel) (by decide +kernel)
set_option maxRecDepth 20000 in
theorem q_812 : Cond.code yX3_beginReckoning cX3_beginReckoning 3 none ∈ gT := qT 921 (by decide +kernel) (by decide +kernel)
set_option maxRecDepth 20000 in
theorem q_813 : Cond.methodLink RX3 115 yX3_addQuarters ∈ gT := qT 922 (by decide +kernel) (by decide +kernel)
set_option maxRecDepth 20000 in
theorem q_815 : Cond.instanceMethod yX3_addQuarters ∈ gT := qT 924 (by decide +kernel) (by decide +kernel)
set_option maxRecDepth 20000 in
theorem q_816 : Cond.code yX3_addQuarters cX3_addQuarters 6 none ∈ gT := qT 925 (by decide +kernel) (by decide +kernel)
set_option maxRecDepth 20000 in
theorem q_817 : Cond.methodLink RX3 107 yX2_sumOf ∈ gT := qT 926 (by decide +kernel) (by decide +kernel)
set_option maxRecDepth 20000 in
theorem q_818 : Cond.instanceMethod yX2_sumOf ∈ gT := qT 927 (by decide +kernel) (by decide +kernel)
set_option maxRecDepth 20000 in
theorem q_819 : Cond.selects RX2 yX2_sumOf yX2_sumOf ∈ gT := qT 928 (by decide +kernel) (by decide +kernel)
set_option maxRecDepth 20000 in
theorem q_820 : Cond.code yX2_sumOf cX2_sumOf 4 (some .int) ∈ gT := qT 929 (by decide +kernel) (by decide +kernel)
set_option maxRecDepth 20000 in
theorem q_821 : Cond.methodLink RX3 131 yX6_fraction ∈ gT := qT 930 (by decide +kernel) (by decide +kernel)
set_option maxRecDepth 20000 in
theorem q_822 : Cond.instanceMethod yX6_fraction ∈ gT := qT 931 (by decide +kernel) (by decide +kernel)
set_option maxRecDepth 20000 in
theorem q_823 : Cond.selects RX6 yX6_fraction yX6_fraction ∈ gT := qT 932 (by decide +kernel) (by decide +kernel)
set_option maxRecDepth 20000 in
theorem q_824 : Cond.code yX6_fraction cX6_fraction 1 (some .int) ∈ gT := qT 933 (by decide +kernel) (by decide +kernel)
set_option maxRecDepth 20000 in
theorem q_825 : Cond.methodLink RX6 19 yX6_fractionOf ∈ gT := qT 934 (by decide +kernel) (by decide +kernel)
set_option maxRecDepth 20000 in
theorem q_827 : Cond.instanceMethod yX6_fractionOf ∈ gT := qT 936 (by decide +kernel) (by decide +kernel)
set_option maxRecDepth 20000 in
theorem q_828 : Cond.code yX6_fractionOf cX6_fractionOf 5 (some .int) ∈ gT := qT 937 (by decide +kernel) (by decide +kernel)
set_option maxRecDepth 20000 in
theorem q_830 : Cond.static yX9_cut ∈ gT := qT 939 (by decide +kernel) (by decide +kernel)
set_option maxRecDepth 20000 in
theorem q_831 : Cond.code yX9_cut cX9_cut 5 (some .long) ∈ gT := qT 940 (by decide +kernel) (by decide +kernel)
set_option maxRecDepth 20000 in
theorem q_832 : Cond.methodLink RX9 394 yJ9_floorDiv_f86c9 ∈ gT := qT 941 (by decide +kernel) (by decide +kernel)
set_option maxRecDepth 20000 in
theorem q_833 : Cond.static yJ9_floorDiv_f86c9 ∈ gT := qT 942 (by decide +kernel) (by decide +kernel)
set_option maxRecDepth 20000 in
theorem q_834 : Cond.code yJ9_floorDiv_f86c9 cJ9_floorDiv_f86c9 6 (some .long) ∈ gT := qT 943 (by decide +kernel) (by decide +kernel)
set_option maxRecDepth 20000 in
theorem q_835 : Cond.constantLong RX9 398 (2) ∈ gT := qT 944 (by decide +kernel) (by decide +kernel)
set_option maxRecDepth 20000 in
theorem q_836 : Cond.methodLink RX3 137 yX6_backBy ∈ gT := qT 945 (by decide +kernel) (by decide +kernel)
set_option maxRecDepth 20000 in
theorem q_837 : Cond.instanceMethod yX6_backBy ∈ gT := qT 946 (by decide +kernel) (by decide +kernel)
set_option maxRecDepth 20000 in
theorem q_838 : Cond.selects RX6 yX6_backBy yX6_backBy ∈ gT := qT 947 (by decide +kernel) (by decide +kernel)
set_option maxRecDepth 20000 in
theorem q_839 : Cond.code yX6_backBy cX6_backBy 4 (some .int) ∈ gT := qT 948 (by decide +kernel) (by decide +kernel)
set_option maxRecDepth 20000 in
theorem q_840 : Cond.methodLink RX6 48 yX6_leftBy ∈ gT := qT 949 (by decide +kernel) (by decide +kernel)
set_option maxRecDepth 20000 in
theorem q_842 : Cond.instanceMethod yX6_leftBy ∈ gT := qT 951 (by decide +kernel) (by decide +kernel)
set_option maxRecDepth 20000 in
theorem q_843 : Cond.code yX6_leftBy cX6_leftBy 4 (some .long) ∈ gT := qT 952 (by decide +kernel) (by decide +kernel)
set_option maxRecDepth 20000 in
theorem q_844 : Cond.methodLink RX6 52 yX6_isSmallLeft ∈ gT := qT 953 (by decide +kernel) (by decide +kernel)
set_option maxRecDepth 20000 in
theorem q_846 : Cond.instanceMethod yX6_isSmallLeft ∈ gT := qT 955 (by decide +kernel) (by decide +kernel)
set_option maxRecDepth 20000 in
theorem q_847 : Cond.code yX6_isSmallLeft cX6_isSmallLeft 3 (some .boolean) ∈ gT := qT 956 (by decide +kernel) (by decide +kernel)
set_option maxRecDepth 20000 in
theorem q_848 : Cond.constantLong RX6 42 (2) ∈ gT := qT 957 (by decide +kernel) (by decide +kernel)
set_option maxRecDepth 20000 in
theorem q_849 : Cond.methodLink RX6 44 yX6_allTax ∈ gT := qT 958 (by decide +kernel) (by decide +kernel)
set_option maxRecDepth 20000 in
theorem q_851 : Cond.instanceMethod yX6_allTax ∈ gT := qT 960 (by decide +kernel) (by decide +kernel)
set_option maxRecDepth 20000 in
theorem q_852 : Cond.code yX6_allTax cX6_allTax 1 (some .long) ∈ gT := qT 961 (by decide +kernel) (by decide +kernel)
set_option maxRecDepth 20000 in
theorem q_853 : Cond.methodLink RX3 167 yX2_keepProvisional ∈ gT := qT 962 (by decide +kernel) (by decide +kernel)
set_option maxRecDepth 20000 in
theorem q_854 : Cond.instanceMethod yX2_keepProvisional ∈ gT := qT 963 (by decide +kernel) (by decide +kernel)
set_option maxRecDepth 20000 in
theorem q_855 : Cond.selects RX2 yX2_keepProvisional yX2_keepProvisional ∈ gT := qT 964 (by decide +kernel) (by decide +kernel)
set_option maxRecDepth 20000 in
theorem q_856 : Cond.code yX2_keepProvisional cX2_keepProvisional 4 none ∈ gT := qT 965 (by decide +kernel) (by decide +kernel)
set_option maxRecDepth 20000 in
theorem q_857 : Cond.methodLink RX3 170 yX2_enter ∈ gT := qT 966 (by decide +kernel) (by decide +kernel)
set_option maxRecDepth 20000 in
theorem q_858 : Cond.instanceMethod yX2_enter ∈ gT := qT 967 (by decide +kernel) (by decide +kernel)
set_option maxRecDepth 20000 in
theorem q_859 : Cond.selects RX2 yX2_enter yX2_enter ∈ gT := qT 968 (by decide +kernel) (by decide +kernel)
set_option maxRecDepth 20000 in
theorem q_860 : Cond.code yX2_enter cX2_enter 6 none ∈ gT := qT 969 (by decide +kernel) (by decide +kernel)
set_option maxRecDepth 20000 in
theorem q_861 : Cond.methodLink RX3 186 yX3_endYear ∈ gT := qT 970 (by decide +kernel) (by decide +kernel)
set_option maxRecDepth 20000 in
theorem q_863 : Cond.instanceMethod yX3_endYear ∈ gT := qT 972 (by decide +kernel) (by decide +kernel)
set_option maxRecDepth 20000 in
theorem q_864 : Cond.code yX3_endYear cX3_endYear 6 none ∈ gT := qT 973 (by decide +kernel) (by decide +kernel)
set_option maxRecDepth 20000 in
theorem q_865 : Cond.methodLink RX3 119 yX3_thisYear ∈ gT := qT 974 (by decide +kernel) (by decide +kernel)
set_option maxRecDepth 20000 in
theorem q_866 : Cond.instanceMethod yX3_thisYear ∈ gT := qT 975 (by decide +kernel) (by decide +kernel)
set_option maxRecDepth 20000 in
theorem q_867 : Cond.selects RX3 yX3_thisYear yX3_thisYear ∈ gT := qT 976 (by decide +kernel) (by decide +kernel)
set_option maxRecDepth 20000 in
theorem q_868 : Cond.code yX3_thisYear cX3_thisYear 1 (some .int) ∈ gT := qT 977 (by decide +kernel) (by decide +kernel)
set_option maxRecDepth 20000 in
theorem q_869 : Cond.methodLink RX3 127 yX3_ofYear ∈ gT := qT 978 (by decide +kernel) (by decide +kernel)
set_option maxRecDepth 20000 in
theorem q_870 : Cond.instanceMethod yX3_ofYear ∈ gT := qT 979 (by decide +kernel) (by decide +kernel)
set_option maxRecDepth 20000 in
theorem q_871 : Cond.selects RX3 yX3_ofYear yX3_ofYear ∈ gT := qT 980 (by decide +kernel) (by decide +kernel)
set_option maxRecDepth 20000 in
theorem q_872 : Cond.code yX3_ofYear cX3_ofYear 3 (some (.object "ExemptDesk$Reckoning")) ∈ gT := qT 981 (by decide +kernel) (by decide +kernel)
set_option maxRecDepth 20000 in
theorem q_873 : Cond.methodLink RX3 189 yX2_keepAnnual ∈ gT := qT 982 (by decide +kernel) (by decide +kernel)
set_option maxRecDepth 20000 in
theorem q_874 : Cond.instanceMethod yX2_keepAnnual ∈ gT := qT 983 (by decide +kernel) (by decide +kernel)
set_option maxRecDepth 20000 in
theorem q_875 : Cond.selects RX2 yX2_keepAnnual yX2_keepAnnual ∈ gT := qT 984 (by decide +kernel) (by decide +kernel)
set_option maxRecDepth 20000 in
theorem q_876 : Cond.code yX2_keepAnnual cX2_keepAnnual 4 none ∈ gT := qT 985 (by decide +kernel) (by decide +kernel)
set_option maxRecDepth 20000 in
theorem q_877 : Cond.methodLink RX3 144 yX2_recoveredInYear ∈ gT := qT 986 (by decide +kernel) (by decide +kernel)
set_option maxRecDepth 20000 in
theorem q_878 : Cond.instanceMethod yX2_recoveredInYear ∈ gT := qT 987 (by decide +kernel) (by decide +kernel)
set_option maxRecDepth 20000 in
theorem q_879 : Cond.selects RX2 yX2_recoveredInYear yX2_recoveredInYear ∈ gT := qT 988 (by decide +kernel) (by decide +kernel)
set_option maxRecDepth 20000 in
theorem q_880 : Cond.code yX2_recoveredInYear cX2_recoveredInYear 5 (some .int) ∈ gT := qT 989 (by decide +kernel) (by decide +kernel)
set_option maxRecDepth 20000 in
theorem q_881 : Cond.methodLink RX3 196 yX3_endInterval ∈ gT := qT 990 (by decide +kernel) (by decide +kernel)
set_option maxRecDepth 20000 in
theorem q_883 : Cond.instanceMethod yX3_endInterval ∈ gT := qT 992 (by decide +kernel) (by decide +kernel)
set_option maxRecDepth 20000 in
theorem q_884 : Cond.code yX3_endInterval cX3_endInterval 6 none ∈ gT := qT 993 (by decide +kernel) (by decide +kernel)
set_option maxRecDepth 20000 in
theorem q_885 : Cond.methodLink RX3 203 yX3_worthBy ∈ gT := qT 994 (by decide +kernel) (by decide +kernel)
set_option maxRecDepth 20000 in
theorem q_887 : Cond.instanceMethod yX3_worthBy ∈ gT := qT 996 (by decide +kernel) (by decide +kernel)
set_option maxRecDepth 20000 in
theorem q_888 : Cond.code yX3_worthBy cX3_worthBy 7 (some .int) ∈ gT := qT 997 (by decide +kernel) (by decide +kernel)
set_option maxRecDepth 20000 in
theorem q_889 : Cond.methodLink RX3 253 yX3_quarterWorth ∈ gT := qT 998 (by decide +kernel) (by decide +kernel)
set_option maxRecDepth 20000 in
theorem q_891 : Cond.instanceMethod yX3_quarterWorth ∈ gT := qT 1000 (by decide +kernel) (by decide +kernel)
set_option maxRecDepth 20000 in
theorem q_892 : Cond.code yX3_quarterWorth cX3_quarterWorth 3 (some .int) ∈ gT := qT 1001 (by decide +kernel) (by decide +kernel)
set_option maxRecDepth 20000 in
theorem q_893 : Cond.constantLong RX3 256 (4) ∈ gT := qT 1002 (by decide +kernel) (by decide +kernel)
set_option maxRecDepth 20000 in
theorem q_895 : Cond.methodLink RX3 213 yX3_firstBy ∈ gT := qT 1004 (by decide +kernel) (by decide +kernel)
set_option maxRecDepth 20000 in
theorem q_896 : Cond.instanceMethod yX3_firstBy ∈ gT := qT 1005 (by decide +kernel) (by decide +kernel)
set_option maxRecDepth 20000 in
theorem q_897 : Cond.selects RX3 yX3_firstBy yX3_firstBy ∈ gT := qT 1006 (by decide +kernel) (by decide +kernel)
set_option maxRecDepth 20000 in
theorem q_898 : Cond.code yX3_firstBy cX3_firstBy 3 (some .int) ∈ gT := qT 1007 (by decide +kernel) (by decide +kernel)
set_option maxRecDepth 20000 in
theorem q_899 : Cond.methodLink RX3 223 yX1_endInterval ∈ gT := qT 1008 (by decide +kernel) (by decide +kernel)
set_option maxRecDepth 20000 in
theorem q_900 : Cond.instanceMethod yX1_endInterval ∈ gT := qT 1009 (by decide +kernel) (by decide +kernel)
set_option maxRecDepth 20000 in
theorem q_901 : Cond.selects RX1 yX1_endInterval yX1_endInterval ∈ gT := qT 1010 (by decide +kernel) (by decide +kernel)
set_option maxRecDepth 20000 in
theorem q_902 : Cond.code yX1_endInterval cX1_endInterval 3 none ∈ gT := qT 1011 (by decide +kernel) (by decide +kernel)
set_option maxRecDepth 20000 in
theorem q_903 : Cond.methodLink RX3 224 yX3_adjustedBy ∈ gT := qT 1012 (by decide +kernel) (by decide +kernel)
set_option maxRecDepth 20000 in
theorem q_904 : Cond.instanceMethod yX3_adjustedBy ∈ gT := qT 1013 (by decide +kernel) (by decide +kernel)
set_option maxRecDepth 20000 in
theorem q_905 : Cond.selects RX3 yX3_adjustedBy yX3_adjustedBy ∈ gT := qT 1014 (by decide +kernel) (by decide +kernel)
set_option maxRecDepth 20000 in
theorem q_906 : Cond.code yX3_adjustedBy cX3_adjustedBy 4 (some .int) ∈ gT := qT 1015 (by decide +kernel) (by decide +kernel)
set_option maxRecDepth 20000 in
theorem q_907 : Cond.methodLink RX3 230 yX3_bookFinal ∈ gT := qT 1016 (by decide +kernel) (by decide +kernel)
set_option maxRecDepth 20000 in
theorem q_909 : Cond.instanceMethod yX3_bookFinal ∈ gT := qT 1018 (by decide +kernel) (by decide +kernel)
set_option maxRecDepth 20000 in
theorem q_910 : Cond.code yX3_bookFinal cX3_bookFinal 4 none ∈ gT := qT 1019 (by decide +kernel) (by decide +kernel)
set_option maxRecDepth 20000 in
theorem q_911 : Cond.methodLink RX3 240 yX3_finalFor ∈ gT := qT 1020 (by decide +kernel) (by decide +kernel)
set_option maxRecDepth 20000 in
theorem q_912 : Cond.instanceMethod yX3_finalFor ∈ gT := qT 1021 (by decide +kernel) (by decide +kernel)
set_option maxRecDepth 20000 in
theorem q_913 : Cond.selects RX3 yX3_finalFor yX3_finalFor ∈ gT := qT 1022 (by decide +kernel) (by decide +kernel)
set_option maxRecDepth 20000 in
theorem q_914 : Cond.code yX3_finalFor cX3_finalFor 6 (some .int) ∈ gT := qT 1023 (by decide +kernel) (by decide +kernel)
set_option maxRecDepth 20000 in
theorem q_915 : Cond.methodLink RL 93 yX9_sum ∈ gT := qT 1024 (by decide +kernel) (by decide +kernel)
set_option maxRecDepth 20000 in
theorem q_916 : Cond.instanceMethod yX9_sum ∈ gT := qT 1025 (by decide +kernel) (by decide +kernel)
set_option maxRecDepth 20000 in
theorem q_917 : Cond.selects RX9 yX9_sum yX9_sum ∈ gT := qT 1026 (by decide +kernel) (by decide +kernel)
set_option maxRecDepth 20000 in
theorem q_918 : Cond.code yX9_sum cX9_sum 4 (some .int) ∈ gT := qT 1027 (by decide +kernel) (by decide +kernel)
set_option maxRecDepth 20000 in
theorem q_919 : Cond.methodLink RX9 211 yX2_sumOf ∈ gT := qT 1028 (by decide +kernel) (by decide +kernel)
set_option maxRecDepth 20000 in
theorem q_920 : Cond.methodLink RL 97 yX9_provisional ∈ gT := qT 1029 (by decide +kernel) (by decide +kernel)
set_option maxRecDepth 20000 in
theorem q_921 : Cond.instanceMethod yX9_provisional ∈ gT := qT 1030 (by decide +kernel) (by decide +kernel)
set_option maxRecDepth 20000 in
theorem q_922 : Cond.selects RX9 yX9_provisional yX9_provisional ∈ gT := qT 1031 (by decide +kernel) (by decide +kernel)
set_option maxRecDepth 20000 in
theorem q_923 : Cond.code yX9_provisional cX9_provisional 3 (some .int) ∈ gT := qT 1032 (by decide +kernel) (by decide +kernel)
set_option maxRecDepth 20000 in
theorem q_924 : Cond.methodLink RX9 215 yX2_keptProvisional ∈ gT := qT 1033 (by decide +kernel) (by decide +kernel)
set_option maxRecDepth 20000 in
theorem q_925 : Cond.instanceMethod yX2_keptProvisional ∈ gT := qT 1034 (by decide +kernel) (by decide +kernel)
set_option maxRecDepth 20000 in
theorem q_926 : Cond.selects RX2 yX2_keptProvisional yX2_keptProvisional ∈ gT := qT 1035 (by decide +kernel) (by decide +kernel)
set_option maxRecDepth 20000 in
theorem q_927 : Cond.code yX2_keptProvisional cX2_keptProvisional 3 (some .int) ∈ gT := qT 1036 (by decide +kernel) (by decide +kernel)
set_option maxRecDepth 20000 in
theorem q_928 : Cond.methodLink RX9 219 yX3_fractionByBasis ∈ gT := qT 1037 (by decide +kernel) (by decide +kernel)
set_option maxRecDepth 20000 in
theorem q_929 : Cond.methodLink RL 101 yX9_recovered ∈ gT := qT 1038 (by decide +kernel) (by decide +kernel)
set_option maxRecDepth 20000 in
theorem q_930 : Cond.instanceMethod yX9_recovered ∈ gT := qT 1039 (by decide +kernel) (by decide +kernel)
set_option maxRecDepth 20000 in
theorem q_931 : Cond.selects RX9 yX9_recovered yX9_recovered ∈ gT := qT 1040 (by decide +kernel) (by decide +kernel)
set_option maxRecDepth 20000 in
theorem q_932 : Cond.code yX9_recovered cX9_recovered 3 (some .int) ∈ gT := qT 1041 (by decide +kernel) (by decide +kernel)
set_option maxRecDepth 20000 in
theorem q_933 : Cond.methodLink RX9 222 yX2_recoveredIn ∈ gT := qT 1042 (by decide +kernel) (by decide +kernel)
set_option maxRecDepth 20000 in
theorem q_934 : Cond.instanceMethod yX2_recoveredIn ∈ gT := qT 1043 (by decide +kernel) (by decide +kernel)
set_option maxRecDepth 20000 in
theorem q_935 : Cond.selects RX2 yX2_recoveredIn yX2_recoveredIn ∈ gT := qT 1044 (by decide +kernel) (by decide +kernel)
set_option maxRecDepth 20000 in
theorem q_936 : Cond.code yX2_recoveredIn cX2_recoveredIn 3 (some .int) ∈ gT := qT 1045 (by decide +kernel) (by decide +kernel)
set_option maxRecDepth 20000 in
theorem q_937 : Cond.methodLink RL 105 yX9_annual ∈ gT := qT 1046 (by decide +kernel) (by decide +kernel)
set_option maxRecDepth 20000 in
theorem q_938 : Cond.instanceMethod yX9_annual ∈ gT := qT 1047 (by decide +kernel) (by decide +kernel)
set_option maxRecDepth 20000 in
theorem q_939 : Cond.selects RX9 yX9_annual yX9_annual ∈ gT := qT 1048 (by decide +kernel) (by decide +kernel)
set_option maxRecDepth 20000 in
theorem q_940 : Cond.code yX9_annual cX9_annual 5 (some .int) ∈ gT := qT 1049 (by decide +kernel) (by decide +kernel)
set_option maxRecDepth 20000 in
theorem q_941 : Cond.methodLink RX9 225 yX9_isBegun ∈ gT := qT 1050 (by decide +kernel) (by decide +kernel)
set_option maxRecDepth 20000 in
theorem q_943 : Cond.instanceMethod yX9_isBegun ∈ gT := qT 1052 (by decide +kernel) (by decide +kernel)
set_option maxRecDepth 20000 in
theorem q_944 : Cond.code yX9_isBegun cX9_isBegun 2 (some .boolean) ∈ gT := qT 1053 (by decide +kernel) (by decide +kernel)
set_option maxRecDepth 20000 in
theorem q_945 : Cond.methodLink RX9 311 yX3_thisYear ∈ gT := qT 1054 (by decide +kernel) (by decide +kernel)
set_option maxRecDepth 20000 in
theorem q_946 : Cond.constant RX9 228 (-999999) ∈ gT := qT 1055 (by decide +kernel) (by decide +kernel)
set_option maxRecDepth 20000 in
theorem q_947 : Cond.methodLink RX9 229 yX3_annualFraction ∈ gT := qT 1056 (by decide +kernel) (by decide +kernel)
set_option maxRecDepth 20000 in
theorem q_948 : Cond.instanceMethod yX3_annualFraction ∈ gT := qT 1057 (by decide +kernel) (by decide +kernel)
set_option maxRecDepth 20000 in
theorem q_949 : Cond.selects RX3 yX3_annualFraction yX3_annualFraction ∈ gT := qT 1058 (by decide +kernel) (by decide +kernel)
set_option maxRecDepth 20000 in
theorem q_950 : Cond.code yX3_annualFraction cX3_annualFraction 3 (some .int) ∈ gT := qT 1059 (by decide +kernel) (by decide +kernel)
set_option maxRecDepth 20000 in
theorem q_951 : Cond.methodLink RX9 232 yX3_ofYear ∈ gT := qT 1060 (by decide +kernel) (by decide +kernel)
set_option maxRecDepth 20000 in
theorem q_952 : Cond.methodLink RX9 236 yX6_backBy ∈ gT := qT 1061 (by decide +kernel) (by decide +kernel)
set_option maxRecDepth 20000 in
theorem q_953 : Cond.methodLink RX9 241 yX6_isSmall ∈ gT := qT 1062 (by decide +kernel) (by decide +kernel)
set_option maxRecDepth 20000 in
theorem q_954 : Cond.instanceMethod yX6_isSmall ∈ gT := qT 1063 (by decide +kernel) (by decide +kernel)
set_option maxRecDepth 20000 in
theorem q_955 : Cond.selects RX6 yX6_isSmall yX6_isSmall ∈ gT := qT 1064 (by decide +kernel) (by decide +kernel)
set_option maxRecDepth 20000 in
theorem q_956 : Cond.code yX6_isSmall cX6_isSmall 2 (some .boolean) ∈ gT := qT 1065 (by decide +kernel) (by decide +kernel)
set_option maxRecDepth 20000 in
theorem q_957 : Cond.methodLink RX9 244 yX3_trued ∈ gT := qT 1066 (by decide +kernel) (by decide +kernel)
set_option maxRecDepth 20000 in
theorem q_958 : Cond.instanceMethod yX3_trued ∈ gT := qT 1067 (by decide +kernel) (by decide +kernel)
set_option maxRecDepth 20000 in
theorem q_959 : Cond.selects RX3 yX3_trued yX3_trued ∈ gT := qT 1068 (by decide +kernel) (by decide +kernel)
set_option maxRecDepth 20000 in
theorem q_960 : Cond.code yX3_trued cX3_trued 3 (some .int) ∈ gT := qT 1069 (by decide +kernel) (by decide +kernel)
set_option maxRecDepth 20000 in
theorem q_961 : Cond.methodLink RX3 141 yX3_yearBack ∈ gT := qT 1070 (by decide +kernel) (by decide +kernel)
set_option maxRecDepth 20000 in
theorem q_962 : Cond.instanceMethod yX3_yearBack ∈ gT := qT 1071 (by decide +kernel) (by decide +kernel)
set_option maxRecDepth 20000 in
theorem q_963 : Cond.selects RX3 yX3_yearBack yX3_yearBack ∈ gT := qT 1072 (by decide +kernel) (by decide +kernel)
set_option maxRecDepth 20000 in
theorem q_964 : Cond.code yX3_yearBack cX3_yearBack 4 (some .int) ∈ gT := qT 1073 (by decide +kernel) (by decide +kernel)
set_option maxRecDepth 20000 in
theorem q_965 : Cond.methodLink RX3 134 yX3_annualFraction ∈ gT := qT 1074 (by decide +kernel) (by decide +kernel)
set_option maxRecDepth 20000 in
theorem q_966 : Cond.methodLink RL 109 yX9_interval ∈ gT := qT 1075 (by decide +kernel) (by decide +kernel)
set_option maxRecDepth 20000 in
theorem q_967 : Cond.instanceMethod yX9_interval ∈ gT := qT 1076 (by decide +kernel) (by decide +kernel)
set_option maxRecDepth 20000 in
theorem q_968 : Cond.selects RX9 yX9_interval yX9_interval ∈ gT := qT 1077 (by decide +kernel) (by decide +kernel)
set_option maxRecDepth 20000 in
theorem q_969 : Cond.code yX9_interval cX9_interval 5 (some .int) ∈ gT := qT 1078 (by decide +kernel) (by decide +kernel)
set_option maxRecDepth 20000 in
theorem q_970 : Cond.methodLink RL 113 yX9_taken ∈ gT := qT 1079 (by decide +kernel) (by decide +kernel)
set_option maxRecDepth 20000 in
theorem q_971 : Cond.instanceMethod yX9_taken ∈ gT := qT 1080 (by decide +kernel) (by decide +kernel)
set_option maxRecDepth 20000 in
theorem q_972 : Cond.selects RX9 yX9_taken yX9_taken ∈ gT := qT 1081 (by decide +kernel) (by decide +kernel)
set_option maxRecDepth 20000 in
theorem q_973 : Cond.code yX9_taken cX9_taken 2 (some .int) ∈ gT := qT 1082 (by decide +kernel) (by decide +kernel)
set_option maxRecDepth 20000 in
theorem q_974 : Cond.methodLink RL 117 yX9_last ∈ gT := qT 1083 (by decide +kernel) (by decide +kernel)
set_option maxRecDepth 20000 in
theorem q_975 : Cond.instanceMethod yX9_last ∈ gT := qT 1084 (by decide +kernel) (by decide +kernel)
set_option maxRecDepth 20000 in
theorem q_976 : Cond.selects RX9 yX9_last yX9_last ∈ gT := qT 1085 (by decide +kernel) (by decide +kernel)
set_option maxRecDepth 20000 in
theorem q_977 : Cond.code yX9_last cX9_last 2 (some .int) ∈ gT := qT 1086 (by decide +kernel) (by decide +kernel)
set_option maxRecDepth 20000 in
theorem q_978 : Cond.methodLink RL 121 yX9_booked ∈ gT := qT 1087 (by decide +kernel) (by decide +kernel)
set_option maxRecDepth 20000 in
theorem q_979 : Cond.instanceMethod yX9_booked ∈ gT := qT 1088 (by decide +kernel) (by decide +kernel)
set_option maxRecDepth 20000 in
theorem q_980 : Cond.selects RX9 yX9_booked yX9_booked ∈ gT := qT 1089 (by decide +kernel) (by decide +kernel)
set_option maxRecDepth 20000 in
theorem q_981 : Cond.code yX9_booked cX9_booked 4 (some .int) ∈ gT := qT 1090 (by decide +kernel) (by decide +kernel)
set_option maxRecDepth 20000 in
theorem q_982 : Cond.methodLink RX9 270 yX2_entryPart ∈ gT := qT 1091 (by decide +kernel) (by decide +kernel)
set_option maxRecDepth 20000 in
theorem q_983 : Cond.instanceMethod yX2_entryPart ∈ gT := qT 1092 (by decide +kernel) (by decide +kernel)
set_option maxRecDepth 20000 in
theorem q_984 : Cond.selects RX2 yX2_entryPart yX2_entryPart ∈ gT := qT 1093 (by decide +kernel) (by decide +kernel)
set_option maxRecDepth 20000 in
theorem q_985 : Cond.code yX2_entryPart cX2_entryPart 3 (some .int) ∈ gT := qT 1094 (by decide +kernel) (by decide +kernel)
set_option maxRecDepth 20000 in
theorem q_986 : Cond.methodLink RL 125 yX9_total ∈ gT := qT 1095 (by decide +kernel) (by decide +kernel)
set_option maxRecDepth 20000 in
theorem q_987 : Cond.instanceMethod yX9_total ∈ gT := qT 1096 (by decide +kernel) (by decide +kernel)
set_option maxRecDepth 20000 in
theorem q_988 : Cond.selects RX9 yX9_total yX9_total ∈ gT := qT 1097 (by decide +kernel) (by decide +kernel)
set_option maxRecDepth 20000 in
theorem q_989 : Cond.code yX9_total cX9_total 3 (some .int) ∈ gT := qT 1098 (by decide +kernel) (by decide +kernel)
set_option maxRecDepth 20000 in
theorem q_990 : Cond.methodLink RX9 273 yX2_totalOf ∈ gT := qT 1099 (by decide +kernel) (by decide +kernel)
set_option maxRecDepth 20000 in
theorem q_991 : Cond.instanceMethod yX2_totalOf ∈ gT := qT 1100 (by decide +kernel) (by decide +kernel)
set_option maxRecDepth 20000 in
theorem q_992 : Cond.selects RX2 yX2_totalOf yX2_totalOf ∈ gT := qT 1101 (by decide +kernel) (by decide +kernel)
set_option maxRecDepth 20000 in
theorem q_993 : Cond.code yX2_totalOf cX2_totalOf 3 (some .int) ∈ gT := qT 1102 (by decide +kernel) (by decide +kernel)
set_option maxRecDepth 20000 in
theorem q_994 : Cond.methodLink RL 129 yX9_by ∈ gT := qT 1103 (by decide +kernel) (by decide +kernel)
set_option maxRecDepth 20000 in
theorem q_995 : Cond.instanceMethod yX9_by ∈ gT := qT 1104 (by decide +kernel) (by decide +kernel)
set_option maxRecDepth 20000 in
theorem q_996 : Cond.selects RX9 yX9_by yX9_by ∈ gT := qT 1105 (by decide +kernel) (by decide +kernel)
set_option maxRecDepth 20000 in
theorem q_997 : Cond.code yX9_by cX9_by 7 (some .int) ∈ gT := qT 1106 (by decide +kernel) (by decide +kernel)
set_option maxRecDepth 20000 in
theorem q_998 : Cond.methodLink RX9 285 yX6_fraction ∈ gT := qT 1107 (by decide +kernel) (by decide +kernel)
set_option maxRecDepth 20000 in
theorem q_999 : Cond.methodLink RL 133 yX9_bestMethod ∈ gT := qT 1108 (by decide +kernel) (by decide +kernel)
set_option maxRecDepth 20000 in
theorem q_1000 : Cond.instanceMethod yX9_bestMethod ∈ gT := qT 1109 (by decide +kernel) (by decide +kernel)
set_option maxRecDepth 20000 in
theorem q_1001 : Cond.selects RX9 yX9_bestMethod yX9_bestMethod ∈ gT := qT 1110 (by decide +kernel) (by decide +kernel)
set_option maxRecDepth 20000 in
theorem q_1002 : Cond.code yX9_bestMethod cX9_bestMethod 8 (some .int) ∈ gT := qT 1111 (by decide +kernel) (by decide +kernel)
set_option maxRecDepth 20000 in
theorem q_1003 : Cond.methodLink RX9 288 yX9_isYear ∈ gT := qT 1112 (by decide +kernel) (by decide +kernel)
set_option maxRecDepth 20000 in
theorem q_1004 : Cond.static yX9_isYear ∈ gT := qT 1113 (by decide +kernel) (by decide +kernel)
set_option maxRecDepth 20000 in
theorem q_1005 : Cond.code yX9_isYear cX9_isYear 1 (some .boolean) ∈ gT := qT 1114 (by decide +kernel) (by decide +kernel)
set_option maxRecDepth 20000 in
theorem q_1006 : Cond.methodLink RL 137 yX9_bestStep ∈ gT := qT 1115 (by decide +kernel) (by decide +kernel)
set_option maxRecDepth 20000 in
theorem q_1007 : Cond.instanceMethod yX9_bestStep ∈ gT := qT 1116 (by decide +kernel) (by decide +kernel)
set_option maxRecDepth 20000 in
theorem q_1008 : Cond.selects RX9 yX9_bestStep yX9_bestStep ∈ gT := qT 1117 (by decide +kernel) (by decide +kernel)
set_option maxRecDepth 20000 in
theorem q_1009 : Cond.code yX9_bestStep cX9_bestStep 8 (some .int) ∈ gT := qT 1118 (by decide +kernel) (by decide +kernel)
set_option maxRecDepth 20000 in
theorem q_1010 : Cond.methodLink RL 141 yX9_joint ∈ gT := qT 1119 (by decide +kernel) (by decide +kernel)
set_option maxRecDepth 20000 in
theorem q_1011 : Cond.instanceMethod yX9_joint ∈ gT := qT 1120 (by decide +kernel) (by decide +kernel)
set_option maxRecDepth 20000 in
theorem q_1012 : Cond.selects RX9 yX9_joint yX9_joint ∈ gT := qT 1121 (by decide +kernel) (by decide +kernel)
set_option maxRecDepth 20000 in
theorem q_1013 : Cond.code yX9_joint cX9_joint 5 (some .int) ∈ gT := qT 1122 (by decide +kernel) (by decide +kernel)
set_option maxRecDepth 20000 in
theorem q_1014 : Cond.methodLink RX9 291 yX3_joinYear ∈ gT := qT 1123 (by decide +kernel) (by decide +kernel)
set_option maxRecDepth 20000 in
theorem q_1015 : Cond.instanceMethod yX3_joinYear ∈ gT := qT 1124 (by decide +kernel) (by decide +kernel)
set_option maxRecDepth 20000 in
theorem q_1016 : Cond.selects RX3 yX3_joinYear yX3_joinYear ∈ gT := qT 1125 (by decide +kernel) (by decide +kernel)
set_option maxRecDepth 20000 in
theorem q_1017 : Cond.code yX3_joinYear cX3_joinYear 3 none ∈ gT := qT 1126 (by decide +kernel) (by decide +kernel)
set_option maxRecDepth 20000 in
theorem q_1018 : Cond.methodLink RL 145 yX9_limitFor ∈ gT := qT 1127 (by decide +kernel) (by decide +kernel)
set_option maxRecDepth 20000 in
theorem q_1019 : Cond.instanceMethod yX9_limitFor ∈ gT := qT 1128 (by decide +kernel) (by decide +kernel)
set_option maxRecDepth 20000 in
theorem q_1020 : Cond.selects RX9 yX9_limitFor yX9_limitFor ∈ gT := qT 1129 (by decide +kernel) (by decide +kernel)
set_option maxRecDepth 20000 in
theorem q_1021 : Cond.code yX9_limitFor cX9_limitFor 4 (some .int) ∈ gT := qT 1130 (by decide +kernel) (by decide +kernel)
set_option maxRecDepth 20000 in
theorem q_1022 : Cond.methodLink RX9 295 yX6_leastLimit ∈ gT := qT 1131 (by decide +kernel) (by decide +kernel)
set_option maxRecDepth 20000 in
theorem q_1023 : Cond.instanceMethod yX6_leastLimit ∈ gT := qT 1132 (by decide +kernel) (by decide +kernel)
set_option maxRecDepth 20000 in
theorem q_1024 : Cond.selects RX6 yX6_leastLimit yX6_leastLimit ∈ gT := qT 1133 (by decide +kernel) (by decide +kernel)
set_option maxRecDepth 20000 in
theorem q_1025 : Cond.code yX6_leastLimit cX6_leastLimit 4 (some .int) ∈ gT := qT 1134 (by decide +kernel) (by decide +kernel)
set_option maxRecDepth 20000 in
theorem q_1026 : Cond.methodLink RL 149 yX9_byBasis ∈ gT := qT 1135 (by decide +kernel) (by decide +kernel)
set_option maxRecDepth 20000 in
theorem q_1027 : Cond.instanceMethod yX9_byBasis ∈ gT := qT 1136 (by decide +kernel) (by decide +kernel)
set_option maxRecDepth 20000 in
theorem q_1028 : Cond.selects RX9 yX9_byBasis yX9_byBasis ∈ gT := qT 1137 (by decide +kernel) (by decide +kernel)
set_option maxRecDepth 20000 in
theorem q_1029 : Cond.code yX9_byBasis cX9_byBasis 5 (some .int) ∈ gT := qT 1138 (by decide +kernel) (by decide +kernel)
set_option maxRecDepth 20000 in
theorem q_1030 : Cond.methodLink RX9 298 yX3_ofQuarter ∈ gT := qT 1139 (by decide +kernel) (by decide +kernel)
set_option maxRecDepth 20000 in
theorem q_1031 : Cond.methodLink RL 153 yX9_leader ∈ gT := qT 1140 (by decide +kernel) (by decide +kernel)
set_option maxRecDepth 20000 in
theorem q_1032 : Cond.instanceMethod yX9_leader ∈ gT := qT 1141 (by decide +kernel) (by decide +kernel)
set_option maxRecDepth 20000 in
theorem q_1033 : Cond.selects RX9 yX9_leader yX9_leader ∈ gT := qT 1142 (by decide +kernel) (by decide +kernel)
set_option maxRecDepth 20000 in
theorem q_1034 : Cond.code yX9_leader cX9_leader 6 (some .int) ∈ gT := qT 1143 (by decide +kernel) (by decide +kernel)
set_option maxRecDepth 20000 in
theorem q_1035 : Cond.methodLink RX9 304 yX3_yearBack ∈ gT := qT 1144 (by decide +kernel) (by decide +kernel)
set_option maxRecDepth 20000 in
theorem q_1036 : Cond.methodLink RL 157 yX9_rise ∈ gT := qT 1145 (by decide +kernel) (by decide +kernel)
set_option maxRecDepth 20000 in
theorem q_1037 : Cond.instanceMethod yX9_rise ∈ gT := qT 1146 (by decide +kernel) (by decide +kernel)
set_option maxRecDepth 20000 in
theorem q_1038 : Cond.selects RX9 yX9_rise yX9_rise ∈ gT := qT 1147 (by decide +kernel) (by decide +kernel)
set_option maxRecDepth 20000 in
theorem q_1039 : Cond.code yX9_rise cX9_rise 7 (some .int) ∈ gT := qT 1148 (by decide +kernel) (by decide +kernel)
set_option maxRecDepth 20000 in
theorem q_1040 : Cond.methodLink RX9 307 yJ9_max_7cf53 ∈ gT := qT 1149 (by decide +kernel) (by decide +kernel)
set_option maxRecDepth 20000 in
theorem q_1041 : Cond.static yJ9_max_7cf53 ∈ gT := qT 1150 (by decide +kernel) (by decide +kernel)
set_option maxRecDepth 20000 in
theorem q_1042 : Cond.code yJ9_max_7cf53 cJ9_max_7cf53 2 (some .int) ∈ gT := qT 1151 (by decide +kernel) (by decide +kernel)
set_option maxRecDepth 20000 in
theorem q_1043 : Cond.methodLink RL 161 yX9_need ∈ gT := qT 1152 (by decide +kernel) (by decide +kernel)
set_option maxRecDepth 20000 in
theorem q_1044 : Cond.instanceMethod yX9_need ∈ gT := qT 1153 (by decide +kernel) (by decide +kernel)
set_option maxRecDepth 20000 in
theorem q_1045 : Cond.selects RX9 yX9_need yX9_need ∈ gT := qT 1154 (by decide +kernel) (by decide +kernel)
set_option maxRecDepth 20000 in
theorem q_1046 : Cond.code yX9_need cX9_need 8 (some .int) ∈ gT := qT 1155 (by decide +kernel) (by decide +kernel)
set_option maxRecDepth 20000 in
theorem q_1047 : Cond.constant RX9 314 (99999999) ∈ gT := qT 1156 (by decide +kernel) (by decide +kernel)
set_option maxRecDepth 20000 in
theorem q_1048 : Cond.methodLink RX9 315 yX6_fractionWithSales ∈ gT := qT 1157 (by decide +kernel) (by decide +kernel)
set_option maxRecDepth 20000 in
theorem q_1049 : Cond.instanceMethod yX6_fractionWithSales ∈ gT := qT 1158 (by decide +kernel) (by decide +kernel)
set_option maxRecDepth 20000 in
theorem q_1050 : Cond.selects RX6 yX6_fractionWithSales yX6_fractionWithSales ∈ gT := qT 1159 (by decide +kernel) (by decide +kernel)
set_option maxRecDepth 20000 in
theorem q_1051 : Cond.code yX6_fractionWithSales cX6_fractionWithSales 2 (some .int) ∈ gT := qT 1160 (by decide +kernel) (by decide +kernel)
set_option maxRecDepth 20000 in
theorem q_1052 : Cond.methodLink RL 165 yX9_room ∈ gT := qT 1161 (by decide +kernel) (by decide +kernel)
set_option maxRecDepth 20000 in
theorem q_1053 : Cond.instanceMethod yX9_room ∈ gT := qT 1162 (by decide +kernel) (by decide +kernel)
set_option maxRecDepth 20000 in
theorem q_1054 : Cond.selects RX9 yX9_room yX9_room ∈ gT := qT 1163 (by decide +kernel) (by decide +kernel)
set_option maxRecDepth 20000 in
theorem q_1055 : Cond.code yX9_room cX9_room 5 (some .int) ∈ gT := qT 1164 (by decide +kernel) (by decide +kernel)
set_option maxRecDepth 20000 in
theorem q_1056 : Cond.methodLink RL 169 yX9_would ∈ gT := qT 1165 (by decide +kernel) (by decide +kernel)
set_option maxRecDepth 20000 in
theorem q_1057 : Cond.instanceMethod yX9_would ∈ gT := qT 1166 (by decide +kernel) (by decide +kernel)
set_option maxRecDepth 20000 in
theorem q_1058 : Cond.selects RX9 yX9_would yX9_would ∈ gT := qT 1167 (by decide +kernel) (by decide +kernel)
set_option maxRecDepth 20000 in
theorem q_1059 : Cond.code yX9_would cX9_would 4 (some .int) ∈ gT := qT 1168 (by decide +kernel) (by decide +kernel)
set_option maxRecDepth 20000 in
theorem q_1060 : Cond.methodLink RX9 322 yX9_isFreeAsset ∈ gT := qT 1169 (by decide +kernel) (by decide +kernel)
set_option maxRecDepth 20000 in
theorem q_1062 : Cond.instanceMethod yX9_isFreeAsset ∈ gT := qT 1171 (by decide +kernel) (by decide +kernel)
set_option maxRecDepth 20000 in
theorem q_1063 : Cond.code yX9_isFreeAsset cX9_isFreeAsset 2 (some .boolean) ∈ gT := qT 1172 (by decide +kernel) (by decide +kernel)
set_option maxRecDepth 20000 in
theorem q_1064 : Cond.methodLink RX9 325 yX3_baseNow ∈ gT := qT 1173 (by decide +kernel) (by decide +kernel)
set_option maxRecDepth 20000 in
theorem q_1065 : Cond.instanceMethod yX3_baseNow ∈ gT := qT 1174 (by decide +kernel) (by decide +kernel)
set_option maxRecDepth 20000 in
theorem q_1066 : Cond.selects RX3 yX3_baseNow yX3_baseNow ∈ gT := qT 1175 (by decide +kernel) (by decide +kernel)
set_option maxRecDepth 20000 in
theorem q_1067 : Cond.code yX3_baseNow cX3_baseNow 2 (some .int) ∈ gT := qT 1176 (by decide +kernel) (by decide +kernel)
set_option maxRecDepth 20000 in
theorem q_1068 : Cond.methodLink RX3 262 yX3_worthNow ∈ gT := qT 1177 (by decide +kernel) (by decide +kernel)
set_option maxRecDepth 20000 in
theorem q_1069 : Cond.instanceMethod yX3_worthNow ∈ gT := qT 1178 (by decide +kernel) (by decide +kernel)
set_option maxRecDepth 20000 in
theorem q_1070 : Cond.selects RX3 yX3_worthNow yX3_worthNow ∈ gT := qT 1179 (by decide +kernel) (by decide +kernel)
set_option maxRecDepth 20000 in
theorem q_1071 : Cond.code yX3_worthNow cX3_worthNow 3 (some .int) ∈ gT := qT 1180 (by decide +kernel) (by decide +kernel)
set_option maxRecDepth 20000 in
theorem q_1072 : Cond.methodLink RX9 329 yX3_finalFor ∈ gT := qT 1181 (by decide +kernel) (by decide +kernel)
set_option maxRecDepth 20000 in
theorem q_1073 : Cond.methodLink RL 173 yX9_bestWait ∈ gT := qT 1182 (by decide +kernel) (by decide +kernel)
set_option maxRecDepth 20000 in
theorem q_1074 : Cond.instanceMethod yX9_bestWait ∈ gT := qT 1183 (by decide +kernel) (by decide +kernel)
set_option maxRecDepth 20000 in
theorem q_1075 : Cond.selects RX9 yX9_bestWait yX9_bestWait ∈ gT := qT 1184 (by decide +kernel) (by decide +kernel)
set_option maxRecDepth 20000 in
theorem q_1076 : Cond.code yX9_bestWait cX9_bestWait 10 (some .int) ∈ gT := qT 1185 (by decide +kernel) (by decide +kernel)
set_option maxRecDepth 20000 in
theorem q_1077 : Cond.methodLink RX9 333 yX3_worthNow ∈ gT := qT 1186 (by decide +kernel) (by decide +kernel)
set_option maxRecDepth 20000 in
theorem q_1078 : Cond.methodLink RX9 337 yX3_adjustedBy ∈ gT := qT 1187 (by decide +kernel) (by decide +kernel)
set_option maxRecDepth 20000 in
theorem q_1079 : Cond.methodLink RL 177 yX9_project ∈ gT := qT 1188 (by decide +kernel) (by decide +kernel)
set_option maxRecDepth 20000 in
theorem q_1080 : Cond.instanceMethod yX9_project ∈ gT := qT 1189 (by decide +kernel) (by decide +kernel)
set_option maxRecDepth 20000 in
theorem q_1081 : Cond.selects RX9 yX9_project yX9_project ∈ gT := qT 1190 (by decide +kernel) (by decide +kernel)
set_option maxRecDepth 20000 in
theorem q_1082 : Cond.code yX9_project cX9_project 5 (some .int) ∈ gT := qT 1191 (by decide +kernel) (by decide +kernel)
set_option maxRecDepth 20000 in
theorem q_1083 : Cond.methodLink RX9 341 yX3_firstBy ∈ gT := qT 1192 (by decide +kernel) (by decide +kernel)
set_option maxRecDepth 20000 in
theorem q_1084 : Cond.methodLink RL 181 yX9_ifUse ∈ gT := qT 1193 (by decide +kernel) (by decide +kernel)
set_option maxRecDepth 20000 in
theorem q_1085 : Cond.instanceMethod yX9_ifUse ∈ gT := qT 1194 (by decide +kernel) (by decide +kernel)
set_option maxRecDepth 20000 in
theorem q_1086 : Cond.selects RX9 yX9_ifUse yX9_ifUse ∈ gT := qT 1195 (by decide +kernel) (by decide +kernel)
set_option maxRecDepth 20000 in
theorem q_1087 : Cond.code yX9_ifUse cX9_ifUse 3 (some .int) ∈ gT := qT 1196 (by decide +kernel) (by decide +kernel)
set_option maxRecDepth 20000 in
theorem q_1088 : Cond.methodLink RL 185 yX9_owners ∈ gT := qT 1197 (by decide +kernel) (by decide +kernel)
set_option maxRecDepth 20000 in
theorem q_1089 : Cond.instanceMethod yX9_owners ∈ gT := qT 1198 (by decide +kernel) (by decide +kernel)
set_option maxRecDepth 20000 in
theorem q_1090 : Cond.selects RX9 yX9_owners yX9_owners ∈ gT := qT 1199 (by decide +kernel) (by decide +kernel)
set_option maxRecDepth 20000 in
theorem q_1091 : Cond.code yX9_owners cX9_owners 5 (some .int) ∈ gT := qT 1200 (by decide +kernel) (by decide +kernel)
set_option maxRecDepth 20000 in
theorem q_1092 : Cond.methodLink RX9 344 yJ6_bitCount_0f7a4 ∈ gT := qT 1201 (by decide +kernel) (by decide +kernel)
set_option maxRecDepth 20000 in
theorem q_1093 : Cond.static yJ6_bitCount_0f7a4 ∈ gT := qT 1202 (by decide +kernel) (by decide +kernel)
set_option maxRecDepth 20000 in
theorem q_1094 : Cond.code yJ6_bitCount_0f7a4 cJ6_bitCount_0f7a4 1 (some .int) ∈ gT := qT 1203 (by decide +kernel) (by decide +kernel)
set_option maxRecDepth 20000 in
theorem q_1095 : Cond.constant RJ6 265 (1431655765) ∈ gT := qT 1204 (by decide +kernel) (by decide +kernel)
set_option maxRecDepth 20000 in
theorem q_1096 : Cond.constant RJ6 266 (858993459) ∈ gT := qT 1205 (by decide +kernel) (by decide +kernel)
set_option maxRecDepth 20000 in
theorem q_1097 : Cond.constant RJ6 267 (252645135) ∈ gT := qT 1206 (by decide +kernel) (by decide +kernel)
set_option maxRecDepth 20000 in
theorem q_1098 : Cond.methodLink RL 189 yX9_even ∈ gT := qT 1207 (by decide +kernel) (by decide +kernel)
set_option maxRecDepth 20000 in
theorem q_1099 : Cond.instanceMethod yX9_even ∈ gT := qT 1208 (by decide +kernel) (by decide +kernel)
set_option maxRecDepth 20000 in
theorem q_1100 : Cond.selects RX9 yX9_even yX9_even ∈ gT := qT 1209 (by decide +kernel) (by decide +kernel)
set_option maxRecDepth 20000 in
theorem q_1101 : Cond.code yX9_even cX9_even 5 (some .int) ∈ gT := qT 1210 (by decide +kernel) (by decide +kernel)
set_option maxRecDepth 20000 in
theorem q_1102 : Cond.constant RX9 349 (-99999) ∈ gT := qT 1211 (by decide +kernel) (by decide +kernel)
set_option maxRecDepth 20000 in
theorem q_1103 : Cond.methodLink RL 193 yX9_worth ∈ gT := qT 1212 (by decide +kernel) (by decide +kernel)
set_option maxRecDepth 20000 in
theorem q_1104 : Cond.instanceMethod yX9_worth ∈ gT := qT 1213 (by decide +kernel) (by decide +kernel)
set_option maxRecDepth 20000 in
theorem q_1105 : Cond.selects RX9 yX9_worth yX9_worth ∈ gT := qT 1214 (by decide +kernel) (by decide +kernel)
set_option maxRecDepth 20000 in
theorem q_1106 : Cond.code yX9_worth cX9_worth 3 (some .int) ∈ gT := qT 1215 (by decide +kernel) (by decide +kernel)
set_option maxRecDepth 20000 in
theorem q_1107 : Cond.methodLink RL 197 yX9_tried ∈ gT := qT 1216 (by decide +kernel) (by decide +kernel)
set_option maxRecDepth 20000 in
theorem q_1108 : Cond.instanceMethod yX9_tried ∈ gT := qT 1217 (by decide +kernel) (by decide +kernel)
set_option maxRecDepth 20000 in
theorem q_1109 : Cond.selects RX9 yX9_tried yX9_tried ∈ gT := qT 1218 (by decide +kernel) (by decide +kernel)
set_option maxRecDepth 20000 in
theorem q_1110 : Cond.code yX9_tried cX9_tried 5 (some .int) ∈ gT := qT 1219 (by decide +kernel) (by decide +kernel)
set_option maxRecDepth 20000 in
theorem q_1111 : Cond.methodLink RX9 350 yX3_imitate ∈ gT := qT 1220 (by decide +kernel) (by decide +kernel)
set_option maxRecDepth 20000 in
theorem q_1112 : Cond.instanceMethod yX3_imitate ∈ gT := qT 1221 (by decide +kernel) (by decide +kernel)
set_option maxRecDepth 20000 in
theorem q_1113 : Cond.selects RX3 yX3_imitate yX3_imitate ∈ gT := qT 1222 (by decide +kernel) (by decide +kernel)
set_option maxRecDepth 20000 in
theorem q_1114 : Cond.code yX3_imitate cX3_imitate 2 none ∈ gT := qT 1223 (by decide +kernel) (by decide +kernel)
set_option maxRecDepth 20000 in
theorem q_1115 : Cond.methodLink RX3 51 yX2_copyFrom ∈ gT := qT 1224 (by decide +kernel) (by decide +kernel)
set_option maxRecDepth 20000 in
theorem q_1116 : Cond.methodLink RL 201 yX9_chance ∈ gT := qT 1225 (by decide +kernel) (by decide +kernel)
set_option maxRecDepth 20000 in
theorem q_1117 : Cond.instanceMethod yX9_chance ∈ gT := qT 1226 (by decide +kernel) (by decide +kernel)
set_option maxRecDepth 20000 in
theorem q_1118 : Cond.selects RX9 yX9_chance yX9_chance ∈ gT := qT 1227 (by decide +kernel) (by decide +kernel)
set_option maxRecDepth 20000 in
theorem q_1119 : Cond.code yX9_chance cX9_chance 8 (some .int) ∈ gT := qT 1228 (by decide +kernel) (by decide +kernel)
set_option maxRecDepth 20000 in
theorem q_1120 : Cond.methodLink RX9 357 yX9_numberBehind ∈ gT := qT 1229 (by decide +kernel) (by decide +kernel)
set_option maxRecDepth 20000 in
theorem q_1121 : Cond.static yX9_numberBehind ∈ gT := qT 1230 (by decide +kernel) (by decide +kernel)
set_option maxRecDepth 20000 in
theorem q_1122 : Cond.code yX9_numberBehind cX9_numberBehind 2 (some .long) ∈ gT := qT 1231 (by decide +kernel) (by decide +kernel)
set_option maxRecDepth 20000 in
theorem q_1123 : Cond.constantLong RX9 400 (1103515245) ∈ gT := qT 1232 (by decide +kernel) (by decide +kernel)
set_option maxRecDepth 20000 in
theorem q_1124 : Cond.constantLong RX9 402 (12345) ∈ gT := qT 1233 (by decide +kernel) (by decide +kernel)
set_option maxRecDepth 20000 in
theorem q_1125 : Cond.constantLong RX9 404 (2147483647) ∈ gT := qT 1234 (by decide +kernel) (by decide +kernel)
set_option maxRecDepth 20000 in
theorem q_1126 : Cond.constantLong RX9 361 (1000) ∈ gT := qT 1235 (by decide +kernel) (by decide +kernel)
set_option maxRecDepth 20000 in
theorem q_1127 : Cond.methodLink RL 205 yX9_farthest ∈ gT := qT 1236 (by decide +kernel) (by decide +kernel)
set_option maxRecDepth 20000 in
theorem q_1128 : Cond.instanceMethod yX9_farthest ∈ gT := qT 1237 (by decide +kernel) (by decide +kernel)
set_option maxRecDepth 20000 in
theorem q_1129 : Cond.selects RX9 yX9_farthest yX9_farthest ∈ gT := qT 1238 (by decide +kernel) (by decide +kernel)
set_option maxRecDepth 20000 in
theorem q_1130 : Cond.code yX9_farthest cX9_farthest 6 (some .int) ∈ gT := qT 1239 (by decide +kernel) (by decide +kernel)
set_option maxRecDepth 20000 in
theorem q_1131 : Cond.methodLink RX9 363 yJ9_abs_0f7a4 ∈ gT := qT 1240 (by decide +kernel) (by decide +kernel)
set_option maxRecDepth 20000 in
theorem q_1132 : Cond.static yJ9_abs_0f7a4 ∈ gT := qT 1241 (by decide +kernel) (by decide +kernel)
set_option maxRecDepth 20000 in
theorem q_1133 : Cond.code yJ9_abs_0f7a4 cJ9_abs_0f7a4 1 (some .int) ∈ gT := qT 1242 (by decide +kernel) (by decide +kernel)
set_option maxRecDepth 20000 in
theorem q_1134 : Cond.methodLink RL 209 yX9_undo ∈ gT := qT 1243 (by decide +kernel) (by decide +kernel)
set_option maxRecDepth 20000 in
theorem q_1135 : Cond.instanceMethod yX9_undo ∈ gT := qT 1244 (by decide +kernel) (by decide +kernel)
set_option maxRecDepth 20000 in
theorem q_1136 : Cond.selects RX9 yX9_undo yX9_undo ∈ gT := qT 1245 (by decide +kernel) (by decide +kernel)
set_option maxRecDepth 20000 in
theorem q_1137 : Cond.code yX9_undo cX9_undo 1 (some .int) ∈ gT := qT 1246 (by decide +kernel) (by decide +kernel)
set_option maxRecDepth 20000 in
theorem q_1138 : Cond.methodLink RX9 366 yX4_bringBack ∈ gT := qT 1247 (by decide +kernel) (by decide +kernel)
set_option maxRecDepth 20000 in
theorem q_1139 : Cond.instanceMethod yX4_bringBack ∈ gT := qT 1248 (by decide +kernel) (by decide +kernel)
set_option maxRecDepth 20000 in
theorem q_1140 : Cond.selects RX4 yX4_bringBack yX4_bringBack ∈ gT := qT 1249 (by decide +kernel) (by decide +kernel)
set_option maxRecDepth 20000 in
theorem q_1141 : Cond.code yX4_bringBack cX4_bringBack 3 (some .boolean) ∈ gT := qT 1250 (by decide +kernel) (by decide +kernel)
set_option maxRecDepth 20000 in
theorem q_1142 : Cond.methodLink RL 213 yX9_keep ∈ gT := qT 1251 (by decide +kernel) (by decide +kernel)
set_option maxRecDepth 20000 in
theorem q_1143 : Cond.instanceMethod yX9_keep ∈ gT := qT 1252 (by decide +kernel) (by decide +kernel)
set_option maxRecDepth 20000 in
theorem q_1144 : Cond.selects RX9 yX9_keep yX9_keep ∈ gT := qT 1253 (by decide +kernel) (by decide +kernel)
set_option maxRecDepth 20000 in
theorem q_1145 : Cond.code yX9_keep cX9_keep 1 (some .int) ∈ gT := qT 1254 (by decide +kernel) (by decide +kernel)
set_option maxRecDepth 20000 in
theorem q_1146 : Cond.classLink RX9 103 RX2 ∈ gT := qT 1255 (by decide +kernel) (by decide +kernel)
set_option maxRecDepth 20000 in
theorem q_1147 : Cond.methodLink RX9 376 yX2_init ∈ gT := qT 1256 (by decide +kernel) (by decide +kernel)
set_option maxRecDepth 20000 in
theorem q_1148 : Cond.methodLink RX9 377 yX2_copyFrom ∈ gT := qT 1257 (by decide +kernel) (by decide +kernel)
set_option maxRecDepth 20000 in
theorem q_1149 : Cond.methodLink RL 217 yX9_back ∈ gT := qT 1258 (by decide +kernel) (by decide +kernel)
set_option maxRecDepth 20000 in
theorem q_1150 : Cond.instanceMethod yX9_back ∈ gT := qT 1259 (by decide +kernel) (by decide +kernel)
set_option maxRecDepth 20000 in
theorem q_1151 : Cond.selects RX9 yX9_back yX9_back ∈ gT := qT 1260 (by decide +kernel) (by decide +kernel)
set_option maxRecDepth 20000 in
theorem q_1152 : Cond.code yX9_back cX9_back 1 (some .int) ∈ gT := qT 1261 (by decide +kernel) (by decide +kernel)
set_option maxRecDepth 20000 in
theorem q_1153 : Cond.methodLink RL 221 yX9_count ∈ gT := qT 1262 (by decide +kernel) (by decide +kernel)
set_option maxRecDepth 20000 in
theorem q_1154 : Cond.instanceMethod yX9_count ∈ gT := qT 1263 (by decide +kernel) (by decide +kernel)
set_option maxRecDepth 20000 in
theorem q_1155 : Cond.selects RX9 yX9_count yX9_count ∈ gT := qT 1264 (by decide +kernel) (by decide +kernel)
set_option maxRecDepth 20000 in
theorem q_1156 : Cond.code yX9_count cX9_count 2 (some .int) ∈ gT := qT 1265 (by decide +kernel) (by decide +kernel)
set_option maxRecDepth 20000 in
theorem q_1157 : Cond.methodLink RX9 380 yX2_shutAssets ∈ gT := qT 1266 (by decide +kernel) (by decide +kernel)
set_option maxRecDepth 20000 in
theorem q_1158 : Cond.instanceMethod yX2_shutAssets ∈ gT := qT 1267 (by decide +kernel) (by decide +kernel)
set_option maxRecDepth 20000 in
theorem q_1159 : Cond.selects RX2 yX2_shutAssets yX2_shutAssets ∈ gT := qT 1268 (by decide +kernel) (by decide +kernel)
set_option maxRecDepth 20000 in
theorem q_1160 : Cond.code yX2_shutAssets cX2_shutAssets 3 (some .int) ∈ gT := qT 1269 (by decide +kernel) (by decide +kernel)
set_option maxRecDepth 20000 in
theorem q_1161 : Cond.methodLink RL 39 yL_trader ∈ gT := qT 1270 (by decide +kernel) (by decide +kernel)
set_option maxRecDepth 20000 in
theorem q_1162 : Cond.static yL_trader ∈ gT := qT 1271 (by decide +kernel) (by decide +kernel)
set_option maxRecDepth 20000 in
theorem q_1164 : Cond.classLink RL 13 "java/lang/IndexOutOfBoundsException" ∈ gT := qT 1273 (by decide +kernel) (by decide +kernel)
set_option maxRecDepth 20000 in
theorem q_1165 : Cond.classLink RL 15 "java/util/NoSuchElementException" ∈ gT := qT 1274 (by decide +kernel) (by decide +kernel)
set_option maxRecDepth 20000 in
theorem q_1166 : Cond.methodLink RL 7 yX9_trader ∈ gT := qT 1275 (by decide +kernel) (by decide +kernel)
set_option maxRecDepth 20000 in
theorem q_1167 : Cond.instanceMethod yX9_trader ∈ gT := qT 1276 (by decide +kernel) (by decide +kernel)
set_option maxRecDepth 20000 in
theorem q_1168 : Cond.selects RX9 yX9_trader yX9_trader ∈ gT := qT 1277 (by decide +kernel) (by decide +kernel)
set_option maxRecDepth 20000 in
theorem q_1169 : Cond.code yX9_trader cX9_trader 3 (some .int) ∈ gT := qT 1278 (by decide +kernel) (by decide +kernel)
set_option maxRecDepth 20000 in
theorem q_1170 : Cond.classLink RX9 84 "java/lang/IndexOutOfBoundsException" ∈ gT := qT 1279 (by decide +kernel) (by decide +kernel)
set_option maxRecDepth 20000 in
theorem q_1171 : Cond.instantiable "java/lang/IndexOutOfBoundsException" 6 ∈ gT := qT 1280 (by decide +kernel) (by decide +kernel)
set_option maxRecDepth 20000 in
theorem q_1179 : Cond.selects "java/lang/IndexOutOfBoundsException" ⟨"java/lang/Throwable", "fillInStackTrace", "(I)Ljava/lang/Throwable;"⟩ ⟨"java/lang/Throwable", "fillInStackTrace", "(I)Ljava/lang/Throwable;"⟩ ∈ gT := qT 1288 (by decide +kernel) (by decide +kernel)
set_option maxRecDepth 20000 in
theorem q_1180 : Cond.selects "java/lang/IndexOutOfBoundsException" ⟨"java/lang/Throwable", "fillInStackTrace", "()Ljava/lang/Throwable;"⟩ ⟨"java/lang/Throwable", "fillInStackTrace", "()Ljava/lang/Throwable;"⟩ ∈ gT := qT 1289 (by decide +kernel) (by decide +kernel)
set_option maxRecDepth 20000 in
theorem q_1191 : Cond.fieldLink "java/lang/Throwable" 198 "java/lang/Throwable" "backtrace" "Ljava/lang/Object;" ∈ gT := qT 1300 (by decide +kernel) (by decide +kernel)
set_option maxRecDepth 20000 in
theorem q_1193 : Cond.instanceMethod ⟨"java/lang/Throwable", "<init>", "()V"⟩ ∈ gT := qT 1302 (by decide +kernel) (by decide +kernel)
set_option maxRecDepth 20000 in
theorem q_1194 : Cond.code ⟨"java/lang/Throwable", "<init>", "()V"⟩ prog_26_method_1_code 1 none ∈ gT := qT 1303 (by decide +kernel) (by decide +kernel)
set_option maxRecDepth 20000 in
theorem q_1195 : Cond.methodLink "java/lang/Throwable" 1 ⟨"java/lang/Object", "<init>", "()V"⟩ ∈ gT := qT 1304 (by decide +kernel) (by decide +kernel)
set_option maxRecDepth 20000 in
theorem q_1196 : Cond.fieldLink "java/lang/Throwable" 13 "java/lang/Throwable" "UNASSIGNED_STACK" "[Ljava/lang/StackTraceElement;" ∈ gT := qT 1305 (by decide +kernel) (by decide +kernel)
set_option maxRecDepth 20000 in
theorem q_1198 : Cond.fieldLink "java/lang/Throwable" 20 "java/lang/Throwable" "SUPPRESSED_SENTINEL" "Ljava/util/List;" ∈ gT := qT 1307 (by decide +kernel) (by decide +kernel)
set_option maxRecDepth 20000 in
theorem q_1200 : Cond.methodLink "java/lang/Throwable" 27 ⟨"java/lang/Throwable", "fillInStackTrace", "()Ljava/lang/Throwable;"⟩ ∈ gT := qT 1309 (by decide +kernel) (by decide +kernel)
set_option maxRecDepth 20000 in
theorem q_1201 : Cond.instanceMethod ⟨"java/lang/Throwable", "fillInStackTrace", "()Ljava/lang/Throwable;"⟩ ∈ gT := qT 1310 (by decide +kernel) (by decide +kernel)
set_option maxRecDepth 20000 in
theorem q_1203 : Cond.selects "java/util/NoSuchElementException" ⟨"java/lang/Throwable", "fillInStackTrace", "()Ljava/lang/Throwable;"⟩ ⟨"java/lang/Throwable", "fillInStackTrace", "()Ljava/lang/Throwable;"⟩ ∈ gT := qT 1312 (by decide +kernel) (by decide +kernel)
set_option maxRecDepth 20000 in
theorem q_1205 : Cond.methodLink "java/lang/Throwable" 202 ⟨"java/lang/Throwable", "fillInStackTrace", "(I)Ljava/lang/Throwable;"⟩ ∈ gT := qT 1314 (by decide +kernel) (by decide +kernel)
set_option maxRecDepth 20000 in
theorem q_1207 : Cond.instanceMethod ⟨"java/lang/Throwable", "fillInStackTrace", "(I)Ljava/lang/Throwable;"⟩ ∈ gT := qT 1316 (by decide +kernel) (by decide +kernel)
set_option maxRecDepth 20000 in
theorem q_1208 : Cond.instantiable "java/lang/Throwable" 6 ∈ gT := qT 1317 (by decide +kernel) (by decide +kernel)
set_option maxRecDepth 20000 in
theorem q_1209 : Cond.native ⟨"java/lang/Throwable", "fillInStackTrace", "(I)Ljava/lang/Throwable;"⟩ ∈ gT := qT 1318 (by decide +kernel) (by decide +kernel)
set_option maxRecDepth 20000 in
theorem q_1211 : Cond.methodLink RX9 88 ⟨"java/lang/IndexOutOfBoundsException", "<init>", "(Ljava/lang/String;)V"⟩ ∈ gT := qT 1320 (by decide +kernel) (by decide +kernel)
set_option maxRecDepth 20000 in
theorem q_1212 : Cond.instanceMethod ⟨"java/lang/IndexOutOfBoundsException", "<init>", "(Ljava/lang/String;)V"⟩ ∈ gT := qT 1321 (by decide +kernel) (by decide +kernel)
set_option maxRecDepth 20000 in
theorem q_1213 : Cond.code ⟨"java/lang/IndexOutOfBoundsException", "<init>", "(Ljava/lang/String;)V"⟩ prog_18_method_2_code 2 none ∈ gT := qT 1322 (by decide +kernel) (by decide +kernel)
set_option maxRecDepth 20000 in
theorem q_1214 : Cond.methodLink "java/lang/IndexOutOfBoundsException" 7 ⟨"java/lang/RuntimeException", "<init>", "(Ljava/lang/String;)V"⟩ ∈ gT := qT 1323 (by decide +kernel) (by decide +kernel)
set_option maxRecDepth 20000 in
theorem q_1215 : Cond.instanceMethod ⟨"java/lang/RuntimeException", "<init>", "(Ljava/lang/String;)V"⟩ ∈ gT := qT 1324 (by decide +kernel) (by decide +kernel)
set_option maxRecDepth 20000 in
theorem q_1216 : Cond.code ⟨"java/lang/RuntimeException", "<init>", "(Ljava/lang/String;)V"⟩ prog_21_method_2_code 2 none ∈ gT := qT 1325 (by decide +kernel) (by decide +kernel)
set_option maxRecDepth 20000 in
theorem q_1217 : Cond.methodLink "java/lang/RuntimeException" 7 ⟨"java/lang/Exception", "<init>", "(Ljava/lang/String;)V"⟩ ∈ gT := qT 1326 (by decide +kernel) (by decide +kernel)
set_option maxRecDepth 20000 in
theorem q_1218 : Cond.instanceMethod ⟨"java/lang/Exception", "<init>", "(Ljava/lang/String;)V"⟩ ∈ gT := qT 1327 (by decide +kernel) (by decide +kernel)
set_option maxRecDepth 20000 in
theorem q_1219 : Cond.code ⟨"java/lang/Exception", "<init>", "(Ljava/lang/String;)V"⟩ prog_17_method_2_code 2 none ∈ gT := qT 1328 (by decide +kernel) (by decide +kernel)
set_option maxRecDepth 20000 in
theorem q_1220 : Cond.methodLink "java/lang/Exception" 7 ⟨"java/lang/Throwable", "<init>", "(Ljava/lang/String;)V"⟩ ∈ gT := qT 1329 (by decide +kernel) (by decide +kernel)
set_option maxRecDepth 20000 in
theorem q_1221 : Cond.instanceMethod ⟨"java/lang/Throwable", "<init>", "(Ljava/lang/String;)V"⟩ ∈ gT := qT 1330 (by decide +kernel) (by decide +kernel)
set_option maxRecDepth 20000 in
theorem q_1222 : Cond.code ⟨"java/lang/Throwable", "<init>", "(Ljava/lang/String;)V"⟩ prog_26_method_2_code 2 none ∈ gT := qT 1331 (by decide +kernel) (by decide +kernel)
set_option maxRecDepth 20000 in
theorem q_1224 : Cond.fieldLink "java/lang/Throwable" 31 "java/lang/Throwable" "detailMessage" "Ljava/lang/String;" ∈ gT := qT 1333 (by decide +kernel) (by decide +kernel)
set_option maxRecDepth 20000 in
theorem q_1225 : Cond.fieldLink "java/lang/Throwable" 7 "java/lang/Throwable" "cause" "Ljava/lang/Throwable;" ∈ gT := qT 1334 (by decide +kernel) (by decide +kernel)
set_option maxRecDepth 20000 in
theorem q_1226 : Cond.fieldLink "java/lang/Throwable" 17 "java/lang/Throwable" "stackTrace" "[Ljava/lang/StackTraceElement;" ∈ gT := qT 1335 (by decide +kernel) (by decide +kernel)
set_option maxRecDepth 20000 in
theorem q_1227 : Cond.fieldLink "java/lang/Throwable" 24 "java/lang/Throwable" "suppressedExceptions" "Ljava/util/List;" ∈ gT := qT 1336 (by decide +kernel) (by decide +kernel)
set_option maxRecDepth 20000 in
theorem q_1236 : Cond.methodLink RX9 113 yX2_openAssetsOf ∈ gT := qT 1345 (by decide +kernel) (by decide +kernel)
set_option maxRecDepth 20000 in
theorem q_1237 : Cond.instanceMethod yX2_openAssetsOf ∈ gT := qT 1346 (by decide +kernel) (by decide +kernel)
set_option maxRecDepth 20000 in
theorem q_1238 : Cond.selects RX2 yX2_openAssetsOf yX2_openAssetsOf ∈ gT := qT 1347 (by decide +kernel) (by decide +kernel)
set_option maxRecDepth 20000 in
theorem q_1239 : Cond.code yX2_openAssetsOf cX2_openAssetsOf 4 (some .int) ∈ gT := qT 1348 (by decide +kernel) (by decide +kernel)
set_option maxRecDepth 20000 in
theorem q_1240 : Cond.classLink RX9 116 "java/util/NoSuchElementException" ∈ gT := qT 1349 (by decide +kernel) (by decide +kernel)
set_option maxRecDepth 20000 in
theorem q_1241 : Cond.instantiable "java/util/NoSuchElementException" 6 ∈ gT := qT 1350 (by decide +kernel) (by decide +kernel)
set_option maxRecDepth 20000 in
theorem q_1243 : Cond.selects "java/util/NoSuchElementException" ⟨"java/lang/Throwable", "fillInStackTrace", "(I)Ljava/lang/Throwable;"⟩ ⟨"java/lang/Throwable", "fillInStackTrace", "(I)Ljava/lang/Throwable;"⟩ ∈ gT := qT 1352 (by decide +kernel) (by decide +kernel)
set_option maxRecDepth 20000 in
theorem q_1250 : Cond.methodLink RX9 120 ⟨"java/util/NoSuchElementException", "<init>", "(Ljava/lang/String;)V"⟩ ∈ gT := qT 1359 (by decide +kernel) (by decide +kernel)
set_option maxRecDepth 20000 in
theorem q_1251 : Cond.instanceMethod ⟨"java/util/NoSuchElementException", "<init>", "(Ljava/lang/String;)V"⟩ ∈ gT := qT 1360 (by decide +kernel) (by decide +kernel)
set_option maxRecDepth 20000 in
theorem q_1252 : Cond.code ⟨"java/util/NoSuchElementException", "<init>", "(Ljava/lang/String;)V"⟩ prog_29_method_4_code 2 none ∈ gT := qT 1361 (by decide +kernel) (by decide +kernel)
set_option maxRecDepth 20000 in
theorem q_1253 : Cond.methodLink "java/util/NoSuchElementException" 13 ⟨"java/lang/RuntimeException", "<init>", "(Ljava/lang/String;)V"⟩ ∈ gT := qT 1362 (by decide +kernel) (by decide +kernel)
set_option maxRecDepth 20000 in
theorem q_1256 : Cond.classLink RL 18 RX10 ∈ gT := qT 1365 (by decide +kernel) (by decide +kernel)
set_option maxRecDepth 20000 in
theorem q_1257 : Cond.instantiable RX10 29 ∈ gT := qT 1366 (by decide +kernel) (by decide +kernel)
set_option maxRecDepth 20000 in
theorem q_1258 : Cond.methodLink RL 20 yX10_init ∈ gT := qT 1367 (by decide +kernel) (by decide +kernel)
set_option maxRecDepth 20000 in
theorem q_1259 : Cond.instanceMethod yX10_init ∈ gT := qT 1368 (by decide +kernel) (by decide +kernel)
set_option maxRecDepth 20000 in
theorem q_1260 : Cond.code yX10_init cX10_init 1 none ∈ gT := qT 1369 (by decide +kernel) (by decide +kernel)
set_option maxRecDepth 20000 in
theorem q_1261 : Cond.methodLink RX10 1 ⟨"java/lang/Object", "<init>", "()V"⟩ ∈ gT := qT 1370 (by decide +kernel) (by decide +kernel)
set_option maxRecDepth 20000 in
theorem q_1262 : Cond.constant RX10 35 (56764) ∈ gT := qT 1371 (by decide +kernel) (by decide +kernel)
set_option maxRecDepth 20000 in
theorem q_1263 : Cond.methodLink RX10 43 yX10_plain ∈ gT := qT 1372 (by decide +kernel) (by decide +kernel)
set_option maxRecDepth 20000 in
theorem q_1265 : Cond.instanceMethod yX10_plain ∈ gT := qT 1374 (by decide +kernel) (by decide +kernel)
set_option maxRecDepth 20000 in
theorem q_1266 : Cond.code yX10_plain cX10_plain 2 none ∈ gT := qT 1375 (by decide +kernel) (by decide +kernel)
set_option maxRecDepth 20000 in
theorem q_1267 : Cond.methodLink RX10 46 yX10_keepText ∈ gT := qT 1376 (by decide +kernel) (by decide +kernel)
set_option maxRecDepth 20000 in
theorem q_1269 : Cond.instanceMethod yX10_keepText ∈ gT := qT 1378 (by decide +kernel) (by decide +kernel)
set_option maxRecDepth 20000 in
theorem q_1270 : Cond.code yX10_keepText cX10_keepText 2 none ∈ gT := qT 1379 (by decide +kernel) (by decide +kernel)
set_option maxRecDepth 20000 in
theorem q_1271 : Cond.methodLink RX10 97 yX10_copies ∈ gT := qT 1380 (by decide +kernel) (by decide +kernel)
set_option maxRecDepth 20000 in
theorem q_1272 : Cond.static yX10_copies ∈ gT := qT 1381 (by decide +kernel) (by decide +kernel)
set_option maxRecDepth 20000 in
theorem q_1273 : Cond.code yX10_copies cX10_copies 3 none ∈ gT := qT 1382 (by decide +kernel) (by decide +kernel)
set_option maxRecDepth 20000 in
theorem q_1274 : Cond.methodLink RX10 111 yX10_lay ∈ gT := qT 1383 (by decide +kernel) (by decide +kernel)
set_option maxRecDepth 20000 in
theorem q_1276 : Cond.instanceMethod yX10_lay ∈ gT := qT 1385 (by decide +kernel) (by decide +kernel)
set_option maxRecDepth 20000 in
theorem q_1277 : Cond.code yX10_lay cX10_lay 3 none ∈ gT := qT 1386 (by decide +kernel) (by decide +kernel)
set_option maxRecDepth 20000 in
theorem q_1278 : Cond.methodLink RX10 115 yX10_told1 ∈ gT := qT 1387 (by decide +kernel) (by decide +kernel)
set_option maxRecDepth 20000 in
theorem q_1280 : Cond.instanceMethod yX10_told1 ∈ gT := qT 1389 (by decide +kernel) (by decide +kernel)
set_option maxRecDepth 20000 in
theorem q_1281 : Cond.code yX10_told1 cX10_told1 3 (some .int) ∈ gT := qT 1390 (by decide +kernel) (by decide +kernel)
set_option maxRecDepth 20000 in
theorem q_1282 : Cond.methodLink RX10 118 yX10_comesNow ∈ gT := qT 1391 (by decide +kernel) (by decide +kernel)
set_option maxRecDepth 20000 in
theorem q_1284 : Cond.instanceMethod yX10_comesNow ∈ gT := qT 1393 (by decide +kernel) (by decide +kernel)
set_option maxRecDepth 20000 in
theorem q_1285 : Cond.code yX10_comesNow cX10_comesNow 3 none ∈ gT := qT 1394 (by decide +kernel) (by decide +kernel)
set_option maxRecDepth 20000 in
theorem q_1286 : Cond.methodLink RX10 174 yX10_of ∈ gT := qT 1395 (by decide +kernel) (by decide +kernel)
set_option maxRecDepth 20000 in
theorem q_1288 : Cond.instanceMethod yX10_of ∈ gT := qT 1397 (by decide +kernel) (by decide +kernel)
set_option maxRecDepth 20000 in
theorem q_1289 : Cond.code yX10_of cX10_of 2 (some .int) ∈ gT := qT 1398 (by decide +kernel) (by decide +kernel)
set_option maxRecDepth 20000 in
theorem q_1290 : Cond.methodLink RX10 181 yX10_sumAt ∈ gT := qT 1399 (by decide +kernel) (by decide +kernel)
set_option maxRecDepth 20000 in
theorem q_1292 : Cond.instanceMethod yX10_sumAt ∈ gT := qT 1401 (by decide +kernel) (by decide +kernel)
set_option maxRecDepth 20000 in
theorem q_1293 : Cond.code yX10_sumAt cX10_sumAt 4 (some .int) ∈ gT := qT 1402 (by decide +kernel) (by decide +kernel)
set_option maxRecDepth 20000 in
theorem q_1294 : Cond.methodLink RX10 184 yX10_add ∈ gT := qT 1403 (by decide +kernel) (by decide +kernel)
set_option maxRecDepth 20000 in
theorem q_1296 : Cond.instanceMethod yX10_add ∈ gT := qT 1405 (by decide +kernel) (by decide +kernel)
set_option maxRecDepth 20000 in
theorem q_1297 : Cond.code yX10_add cX10_add 3 none ∈ gT := qT 1406 (by decide +kernel) (by decide +kernel)
set_option maxRecDepth 20000 in
theorem q_1298 : Cond.methodLink RX10 187 yX10_acquires ∈ gT := qT 1407 (by decide +kernel) (by decide +kernel)
set_option maxRecDepth 20000 in
theorem q_1300 : Cond.instanceMethod yX10_acquires ∈ gT := qT 1409 (by decide +kernel) (by decide +kernel)
set_option maxRecDepth 20000 in
theorem q_1301 : Cond.code yX10_acquires cX10_acquires 7 (some .int) ∈ gT := qT 1410 (by decide +kernel) (by decide +kernel)
set_option maxRecDepth 20000 in
theorem q_1302 : Cond.methodLink RX10 191 yX10_put ∈ gT := qT 1411 (by decide +kernel) (by decide +kernel)
set_option maxRecDepth 20000 in
theorem q_1304 : Cond.instanceMethod yX10_put ∈ gT := qT 1413 (by decide +kernel) (by decide +kernel)
set_option maxRecDepth 20000 in
theorem q_1305 : Cond.code yX10_put cX10_put 4 none ∈ gT := qT 1414 (by decide +kernel) (by decide +kernel)
set_option maxRecDepth 20000 in
theorem q_1306 : fW RX10 7 8 0 ∈ gT := qT 1415 (by decide +kernel) (by decide +kernel)
set_option maxRecDepth 20000 in
theorem q_1307 : fW RX10 52 8 1 ∈ gT := qT 1416 (by decide +kernel) (by decide +kernel)
set_option maxRecDepth 20000 in
theorem q_1308 : fW RX10 49 8 2 ∈ gT := qT 1417 (by decide +kernel) (by decide +kernel)
set_option maxRecDepth 20000 in
theorem q_1309 : fW RX10 13 8 3 ∈ gT := qT 1418 (by decide +kernel) (by decide +kernel)
set_option maxRecDepth 20000 in
theorem q_1310 : fW RX10 55 8 4 ∈ gT := qT 1419 (by decide +kernel) (by decide +kernel)
set_option maxRecDepth 20000 in
theorem q_1311 : fW RX10 16 8 5 ∈ gT := qT 1420 (by decide +kernel) (by decide +kernel)
set_option maxRecDepth 20000 in
theorem q_1312 : fW RX10 61 8 6 ∈ gT := qT 1421 (by decide +kernel) (by decide +kernel)
set_option maxRecDepth 20000 in
theorem q_1313 : fW RX10 64 8 7 ∈ gT := qT 1422 (by decide +kernel) (by decide +kernel)
set_option maxRecDepth 20000 in
theorem q_1314 : fW RX10 67 8 8 ∈ gT := qT 1423 (by decide +kernel) (by decide +kernel)
set_option maxRecDepth 20000 in
theorem q_1315 : fW RX10 78 8 9 ∈ gT := qT 1424 (by decide +kernel) (by decide +kernel)
set_option maxRecDepth 20000 in
theorem q_1316 : fW RX10 58 8 10 ∈ gT := qT 1425 (by decide +kernel) (by decide +kernel)
set_option maxRecDepth 20000 in
theorem q_1317 : fW RX10 94 8 11 ∈ gT := qT 1426 (by decide +kernel) (by decide +kernel)
set_option maxRecDepth 20000 in
theorem q_1318 : fW RX10 88 8 12 ∈ gT := qT 1427 (by decide +kernel) (by decide +kernel)
set_option maxRecDepth 20000 in
theorem q_1319 : fW RX10 20 8 13 ∈ gT := qT 1428 (by decide +kernel) (by decide +kernel)
set_option maxRecDepth 20000 in
theorem q_1320 : fW RX10 23 8 14 ∈ gT := qT 1429 (by decide +kernel) (by decide +kernel)
set_option maxRecDepth 20000 in
theorem q_1321 : fW RX10 26 8 15 ∈ gT := qT 1430 (by decide +kernel) (by decide +kernel)
set_option maxRecDepth 20000 in
theorem q_1322 : fW RX10 29 8 16 ∈ gT := qT 1431 (by decide +kernel) (by decide +kernel)
set_option maxRecDepth 20000 in
theorem q_1323 : fW RX10 32 8 17 ∈ gT := qT 1432 (by decide +kernel) (by decide +kernel)
set_option maxRecDepth 20000 in
theorem q_1324 : fW RX10 91 8 18 ∈ gT := qT 1433 (by decide +kernel) (by decide +kernel)
set_option maxRecDepth 20000 in
theorem q_1325 : fW RX10 128 8 19 ∈ gT := qT 1434 (by decide +kernel) (by decide +kernel)
set_option maxRecDepth 20000 in
theorem q_1326 : fW RX10 36 8 20 ∈ gT := qT 1435 (by decide +kernel) (by decide +kernel)
set_option maxRecDepth 20000 in
theorem q_1327 : fW RX10 101 8 21 ∈ gT := qT 1436 (by decide +kernel) (by decide +kernel)
set_option maxRecDepth 20000 in
theorem q_1328 : fW RX10 104 8 22 ∈ gT := qT 1437 (by decide +kernel) (by decide +kernel)
set_option maxRecDepth 20000 in
theorem q_1329 : fW RX10 107 8 23 ∈ gT := qT 1438 (by decide +kernel) (by decide +kernel)
set_option maxRecDepth 20000 in
theorem q_1330 : fW RX10 39 8 24 ∈ gT := qT 1439 (by decide +kernel) (by decide +kernel)
set_option maxRecDepth 20000 in
theorem q_1331 : fW RX10 205 8 25 ∈ gT := qT 1440 (by decide +kernel) (by decide +kernel)
set_option maxRecDepth 20000 in
theorem q_1332 : fW RX10 209 8 26 ∈ gT := qT 1441 (by decide +kernel) (by decide +kernel)
set_option maxRecDepth 20000 in
theorem q_1333 : fW RX10 225 8 27 ∈ gT := qT 1442 (by decide +kernel) (by decide +kernel)
set_option maxRecDepth 20000 in
theorem q_1334 : fW RX10 339 8 28 ∈ gT := qT 1443 (by decide +kernel) (by decide +kernel)
set_option maxRecDepth 20000 in
theorem q_1335 : u_lay RX10 TX10 0 ∈ gT := qT 1444 (by decide +kernel) (by decide +kernel)
set_option maxRecDepth 20000 in
theorem q_1337 : u_lay RX10 TX10 1 ∈ gT := qT 1446 (by decide +kernel) (by decide +kernel)
set_option maxRecDepth 20000 in
theorem q_1339 : u_lay RX10 TX10 2 ∈ gT := qT 1448 (by decide +kernel) (by decide +kernel)
set_option maxRecDepth 20000 in
theorem q_1341 : u_lay RX10 TX10 3 ∈ gT := qT 1450 (by decide +kernel) (by decide +kernel)
set_option maxRecDepth 20000 in
theorem q_1343 : u_lay RX10 TX10 4 ∈ gT := qT 1452 (by decide +kernel) (by decide +kernel)
set_option maxRecDepth 20000 in
theorem q_1345 : u_lay RX10 TX10 5 ∈ gT := qT 1454 (by decide +kernel) (by decide +kernel)
set_option maxRecDepth 20000 in
theorem q_1347 : u_lay RX10 TX10 6 ∈ gT := qT 1456 (by decide +kernel) (by decide +kernel)
set_option maxRecDepth 20000 in
theorem q_1349 : u_lay RX10 TX10 7 ∈ gT := qT 1458 (by decide +kernel) (by decide +kernel)
set_option maxRecDepth 20000 in
theorem q_1351 : u_lay RX10 TX10 8 ∈ gT := qT 1460 (by decide +kernel) (by decide +kernel)
set_option maxRecDepth 20000 in
theorem q_1353 : u_lay RX10 TX10 9 ∈ gT := qT 1462 (by decide +kernel) (by decide +kernel)
set_option maxRecDepth 20000 in
theorem q_1355 : u_lay RX10 TX10 10 ∈ gT := qT 1464 (by decide +kernel) (by decide +kernel)
set_option maxRecDepth 20000 in
theorem q_1357 : u_lay RX10 TX10 11 ∈ gT := qT 1466 (by decide +kernel) (by decide +kernel)
set_option maxRecDepth 20000 in
theorem q_1359 : u_lay RX10 TX10 12 ∈ gT := qT 1468 (by decide +kernel) (by decide +kernel)
set_option maxRecDepth 20000 in
theorem q_1361 : u_lay RX10 TX10 13 ∈ gT := qT 1470 (by decide +kernel) (by decide +kernel)
set_option maxRecDepth 20000 in
theorem q_1363 : u_lay RX10 TX10 14 ∈ gT := qT 1472 (by decide +kernel) (by decide +kernel)
set_option maxRecDepth 20000 in
theorem q_1365 : u_lay RX10 TX10 15 ∈ gT := qT 1474 (by decide +kernel) (by decide +kernel)
set_option maxRecDepth 20000 in
theorem q_1367 : u_lay RX10 TX10 16 ∈ gT := qT 1476 (by decide +kernel) (by decide +kernel)
set_option maxRecDepth 20000 in
theorem q_1369 : u_lay RX10 TX10 17 ∈ gT := qT 1478 (by decide +kernel) (by decide +kernel)
set_option maxRecDepth 20000 in
theorem q_1371 : u_lay RX10 TX10 18 ∈ gT := qT 1480 (by decide +kernel) (by decide +kernel)
set_option maxRecDepth 20000 in
theorem q_1373 : u_lay RX10 TX10 19 ∈ gT := qT 1482 (by decide +kernel) (by decide +kernel)
set_option maxRecDepth 20000 in
theorem q_1375 : u_lay RX10 TX10 20 ∈ gT := qT 1484 (by decide +kernel) (by decide +kernel)
set_option maxRecDepth 20000 in
theorem q_1377 : u_lay RX10 TX10 21 ∈ gT := qT 1486 (by decide +kernel) (by decide +kernel)
set_option maxRecDepth 20000 in
theorem q_1379 : u_lay RX10 TX10 22 ∈ gT := qT 1488 (by decide +kernel) (by decide +kernel)
set_option maxRecDepth 20000 in
theorem q_1381 : u_lay RX10 TX10 23 ∈ gT := qT 1490 (by decide +kernel) (by decide +kernel)
set_option maxRecDepth 20000 in
theorem q_1383 : u_lay RX10 TX10 24 ∈ gT := qT 1492 (by decide +kernel) (by decide +kernel)
set_option maxRecDepth 20000 in
theorem q_1385 : u_lay RX10 TX10 25 ∈ gT := qT 1494 (by decide +kernel) (by decide +kernel)
set_option maxRecDepth 20000 in
theorem q_1387 : u_lay RX10 TX10 26 ∈ gT := qT 1496 (by decide +kernel) (by decide +kernel)
set_option maxRecDepth 20000 in
theorem q_1389 : u_lay RX10 TX10 27 ∈ gT := qT 1498 (by decide +kernel) (by decide +kernel)
set_option maxRecDepth 20000 in
theorem q_1391 : u_lay RX10 TX10 28 ∈ gT := qT 1500 (by decide +kernel) (by decide +kernel)
set_option maxRecDepth 20000 in
theorem q_1394 : Cond.methodLink RL 45 yX10_thrown ∈ gT := qT 1503 (by decide +kernel) (by decide +kernel)
set_option maxRecDepth 20000 in
theorem q_1395 : Cond.instanceMethod yX10_thrown ∈ gT := qT 1504 (by decide +kernel) (by decide +kernel)
set_option maxRecDepth 20000 in
theorem q_1396 : Cond.selects RX10 yX10_thrown yX10_thrown ∈ gT := qT 1505 (by decide +kernel) (by decide +kernel)
set_option maxRecDepth 20000 in
theorem q_1397 : Cond.code yX10_thrown cX10_thrown 1 (some .int) ∈ gT := qT 1506 (by decide +kernel) (by decide +kernel)
set_option maxRecDepth 20000 in
theorem q_1398 : Cond.methodLink RL 25 yX10_feed ∈ gT := qT 1507 (by decide +kernel) (by decide +kernel)
set_option maxRecDepth 20000 in
theorem q_1399 : Cond.instanceMethod yX10_feed ∈ gT := qT 1508 (by decide +kernel) (by decide +kernel)
set_option maxRecDepth 20000 in
theorem q_1400 : Cond.selects RX10 yX10_feed yX10_feed ∈ gT := qT 1509 (by decide +kernel) (by decide +kernel)
set_option maxRecDepth 20000 in
theorem q_1401 : Cond.code yX10_feed cX10_feed 8 (some .int) ∈ gT := qT 1510 (by decide +kernel) (by decide +kernel)
set_option maxRecDepth 20000 in
theorem q_1402 : Cond.methodLink RL 30 yX10_text ∈ gT := qT 1511 (by decide +kernel) (by decide +kernel)
set_option maxRecDepth 20000 in
theorem q_1403 : Cond.instanceMethod yX10_text ∈ gT := qT 1512 (by decide +kernel) (by decide +kernel)
set_option maxRecDepth 20000 in
theorem q_1404 : Cond.selects RX10 yX10_text yX10_text ∈ gT := qT 1513 (by decide +kernel) (by decide +kernel)
set_option maxRecDepth 20000 in
theorem q_1405 : Cond.code yX10_text cX10_text 3 (some .int) ∈ gT := qT 1514 (by decide +kernel) (by decide +kernel)
set_option maxRecDepth 20000 in
theorem q_1406 : Cond.methodLink RX10 131 yX10_token ∈ gT := qT 1515 (by decide +kernel) (by decide +kernel)
set_option maxRecDepth 20000 in
theorem q_1408 : Cond.instanceMethod yX10_token ∈ gT := qT 1517 (by decide +kernel) (by decide +kernel)
set_option maxRecDepth 20000 in
theorem q_1409 : Cond.code yX10_token cX10_token 1 none ∈ gT := qT 1518 (by decide +kernel) (by decide +kernel)
set_option maxRecDepth 20000 in
theorem q_1410 : Cond.methodLink RX10 70 yX10_isSmall ∈ gT := qT 1519 (by decide +kernel) (by decide +kernel)
set_option maxRecDepth 20000 in
theorem q_1412 : Cond.instanceMethod yX10_isSmall ∈ gT := qT 1521 (by decide +kernel) (by decide +kernel)
set_option maxRecDepth 20000 in
theorem q_1413 : Cond.code yX10_isSmall cX10_isSmall 2 (some .boolean) ∈ gT := qT 1522 (by decide +kernel) (by decide +kernel)
set_option maxRecDepth 20000 in
theorem q_1414 : Cond.methodLink RX10 74 yX10_wordAt ∈ gT := qT 1523 (by decide +kernel) (by decide +kernel)
set_option maxRecDepth 20000 in
theorem q_1416 : Cond.instanceMethod yX10_wordAt ∈ gT := qT 1525 (by decide +kernel) (by decide +kernel)
set_option maxRecDepth 20000 in
theorem q_1417 : Cond.code yX10_wordAt cX10_wordAt 8 (some .int) ∈ gT := qT 1526 (by decide +kernel) (by decide +kernel)
set_option maxRecDepth 20000 in
theorem q_1418 : Cond.methodLink RX10 81 yX10_packed ∈ gT := qT 1527 (by decide +kernel) (by decide +kernel)
set_option maxRecDepth 20000 in
theorem q_1420 : Cond.instanceMethod yX10_packed ∈ gT := qT 1529 (by decide +kernel) (by decide +kernel)
set_option maxRecDepth 20000 in
theorem q_1421 : Cond.code yX10_packed cX10_packed 5 (some .int) ∈ gT := qT 1530 (by decide +kernel) (by decide +kernel)
set_option maxRecDepth 20000 in
theorem q_1422 : Cond.methodLink RX10 84 yX10_isDigit ∈ gT := qT 1531 (by decide +kernel) (by decide +kernel)
set_option maxRecDepth 20000 in
theorem q_1424 : Cond.instanceMethod yX10_isDigit ∈ gT := qT 1533 (by decide +kernel) (by decide +kernel)
set_option maxRecDepth 20000 in
theorem q_1425 : Cond.code yX10_isDigit cX10_isDigit 2 (some .boolean) ∈ gT := qT 1534 (by decide +kernel) (by decide +kernel)
set_option maxRecDepth 20000 in
theorem q_1426 : Cond.constant RX10 87 (99999) ∈ gT := qT 1535 (by decide +kernel) (by decide +kernel)
set_option maxRecDepth 20000 in
theorem q_1427 : Cond.methodLink RX10 171 yX10_lineRead ∈ gT := qT 1536 (by decide +kernel) (by decide +kernel)
set_option maxRecDepth 20000 in
theorem q_1429 : Cond.instanceMethod yX10_lineRead ∈ gT := qT 1538 (by decide +kernel) (by decide +kernel)
set_option maxRecDepth 20000 in
theorem q_1430 : Cond.code yX10_lineRead cX10_lineRead 2 (some .boolean) ∈ gT := qT 1539 (by decide +kernel) (by decide +kernel)
set_option maxRecDepth 20000 in
theorem q_1431 : Cond.methodLink RX10 121 yX10_wrong ∈ gT := qT 1540 (by decide +kernel) (by decide +kernel)
set_option maxRecDepth 20000 in
theorem q_1433 : Cond.instanceMethod yX10_wrong ∈ gT := qT 1542 (by decide +kernel) (by decide +kernel)
set_option maxRecDepth 20000 in
theorem q_1434 : Cond.code yX10_wrong cX10_wrong 2 (some .boolean) ∈ gT := qT 1543 (by decide +kernel) (by decide +kernel)
set_option maxRecDepth 20000 in
theorem q_1435 : Cond.methodLink RX10 150 yX10_traderLine ∈ gT := qT 1544 (by decide +kernel) (by decide +kernel)
set_option maxRecDepth 20000 in
theorem q_1437 : Cond.instanceMethod yX10_traderLine ∈ gT := qT 1546 (by decide +kernel) (by decide +kernel)
set_option maxRecDepth 20000 in
theorem q_1438 : Cond.code yX10_traderLine cX10_traderLine 3 (some .boolean) ∈ gT := qT 1547 (by decide +kernel) (by decide +kernel)
set_option maxRecDepth 20000 in
theorem q_1439 : Cond.methodLink RX10 134 yX10_nameAt ∈ gT := qT 1548 (by decide +kernel) (by decide +kernel)
set_option maxRecDepth 20000 in
theorem q_1441 : Cond.instanceMethod yX10_nameAt ∈ gT := qT 1550 (by decide +kernel) (by decide +kernel)
set_option maxRecDepth 20000 in
theorem q_1442 : Cond.code yX10_nameAt cX10_nameAt 5 (some .int) ∈ gT := qT 1551 (by decide +kernel) (by decide +kernel)
set_option maxRecDepth 20000 in
theorem q_1443 : Cond.methodLink RX10 138 yX10_number ∈ gT := qT 1552 (by decide +kernel) (by decide +kernel)
set_option maxRecDepth 20000 in
theorem q_1445 : Cond.instanceMethod yX10_number ∈ gT := qT 1554 (by decide +kernel) (by decide +kernel)
set_option maxRecDepth 20000 in
theorem q_1446 : Cond.code yX10_number cX10_number 3 (some .boolean) ∈ gT := qT 1555 (by decide +kernel) (by decide +kernel)
set_option maxRecDepth 20000 in
theorem q_1447 : Cond.methodLink RX10 124 yX10_isIn ∈ gT := qT 1556 (by decide +kernel) (by decide +kernel)
set_option maxRecDepth 20000 in
theorem q_1448 : Cond.static yX10_isIn ∈ gT := qT 1557 (by decide +kernel) (by decide +kernel)
set_option maxRecDepth 20000 in
theorem q_1449 : Cond.code yX10_isIn cX10_isIn 3 (some .boolean) ∈ gT := qT 1558 (by decide +kernel) (by decide +kernel)
set_option maxRecDepth 20000 in
theorem q_1450 : Cond.methodLink RX10 153 yX10_headLine ∈ gT := qT 1559 (by decide +kernel) (by decide +kernel)
set_option maxRecDepth 20000 in
theorem q_1452 : Cond.instanceMethod yX10_headLine ∈ gT := qT 1561 (by decide +kernel) (by decide +kernel)
set_option maxRecDepth 20000 in
theorem q_1453 : Cond.code yX10_headLine cX10_headLine 3 (some .boolean) ∈ gT := qT 1562 (by decide +kernel) (by decide +kernel)
set_option maxRecDepth 20000 in
theorem q_1454 : Cond.methodLink RX10 142 yX10_traderRead ∈ gT := qT 1563 (by decide +kernel) (by decide +kernel)
set_option maxRecDepth 20000 in
theorem q_1456 : Cond.instanceMethod yX10_traderRead ∈ gT := qT 1565 (by decide +kernel) (by decide +kernel)
set_option maxRecDepth 20000 in
theorem q_1457 : Cond.code yX10_traderRead cX10_traderRead 1 (some .boolean) ∈ gT := qT 1566 (by decide +kernel) (by decide +kernel)
set_option maxRecDepth 20000 in
theorem q_1458 : Cond.methodLink RX10 156 yX10_startLine ∈ gT := qT 1567 (by decide +kernel) (by decide +kernel)
set_option maxRecDepth 20000 in
theorem q_1460 : Cond.instanceMethod yX10_startLine ∈ gT := qT 1569 (by decide +kernel) (by decide +kernel)
set_option maxRecDepth 20000 in
theorem q_1461 : Cond.code yX10_startLine cX10_startLine 2 (some .boolean) ∈ gT := qT 1570 (by decide +kernel) (by decide +kernel)
set_option maxRecDepth 20000 in
theorem q_1462 : Cond.methodLink RX10 159 yX10_saleLine ∈ gT := qT 1571 (by decide +kernel) (by decide +kernel)
set_option maxRecDepth 20000 in
theorem q_1464 : Cond.instanceMethod yX10_saleLine ∈ gT := qT 1573 (by decide +kernel) (by decide +kernel)
set_option maxRecDepth 20000 in
theorem q_1465 : Cond.code yX10_saleLine cX10_saleLine 1 (some .boolean) ∈ gT := qT 1574 (by decide +kernel) (by decide +kernel)
set_option maxRecDepth 20000 in
theorem q_1466 : Cond.methodLink RX10 146 yX10_rowLine ∈ gT := qT 1575 (by decide +kernel) (by decide +kernel)
set_option maxRecDepth 20000 in
theorem q_1468 : Cond.instanceMethod yX10_rowLine ∈ gT := qT 1577 (by decide +kernel) (by decide +kernel)
set_option maxRecDepth 20000 in
theorem q_1469 : Cond.code yX10_rowLine cX10_rowLine 7 (some .boolean) ∈ gT := qT 1578 (by decide +kernel) (by decide +kernel)
set_option maxRecDepth 20000 in
theorem q_1470 : Cond.methodLink RX10 162 yX10_buyLine ∈ gT := qT 1579 (by decide +kernel) (by decide +kernel)
set_option maxRecDepth 20000 in
theorem q_1472 : Cond.instanceMethod yX10_buyLine ∈ gT := qT 1581 (by decide +kernel) (by decide +kernel)
set_option maxRecDepth 20000 in
theorem q_1473 : Cond.code yX10_buyLine cX10_buyLine 1 (some .boolean) ∈ gT := qT 1582 (by decide +kernel) (by decide +kernel)
set_option maxRecDepth 20000 in
theorem q_1474 : Cond.methodLink RX10 165 yX10_assetLine ∈ gT := qT 1583 (by decide +kernel) (by decide +kernel)
set_option maxRecDepth 20000 in
theorem q_1476 : Cond.instanceMethod yX10_assetLine ∈ gT := qT 1585 (by decide +kernel) (by decide +kernel)
set_option maxRecDepth 20000 in
theorem q_1477 : Cond.code yX10_assetLine cX10_assetLine 1 (some .boolean) ∈ gT := qT 1586 (by decide +kernel) (by decide +kernel)
set_option maxRecDepth 20000 in
theorem q_1478 : Cond.methodLink RX10 168 yX10_wordLine ∈ gT := qT 1587 (by decide +kernel) (by decide +kernel)
set_option maxRecDepth 20000 in
theorem q_1480 : Cond.instanceMethod yX10_wordLine ∈ gT := qT 1589 (by decide +kernel) (by decide +kernel)
set_option maxRecDepth 20000 in
theorem q_1481 : Cond.code yX10_wordLine cX10_wordLine 2 (some .boolean) ∈ gT := qT 1590 (by decide +kernel) (by decide +kernel)
set_option maxRecDepth 20000 in
theorem q_1482 : Cond.methodLink RL 34 yX10_fault ∈ gT := qT 1591 (by decide +kernel) (by decide +kernel)
set_option maxRecDepth 20000 in
theorem q_1483 : Cond.instanceMethod yX10_fault ∈ gT := qT 1592 (by decide +kernel) (by decide +kernel)
set_option maxRecDepth 20000 in
theorem q_1484 : Cond.selects RX10 yX10_fault yX10_fault ∈ gT := qT 1593 (by decide +kernel) (by decide +kernel)
set_option maxRecDepth 20000 in
theorem q_1485 : Cond.code yX10_fault cX10_fault 2 (some .int) ∈ gT := qT 1594 (by decide +kernel) (by decide +kernel)
set_option maxRecDepth 20000 in
theorem q_1486 : Cond.methodLink RL 38 yX10_named ∈ gT := qT 1595 (by decide +kernel) (by decide +kernel)
set_option maxRecDepth 20000 in
theorem q_1487 : Cond.instanceMethod yX10_named ∈ gT := qT 1596 (by decide +kernel) (by decide +kernel)
set_option maxRecDepth 20000 in
theorem q_1488 : Cond.selects RX10 yX10_named yX10_named ∈ gT := qT 1597 (by decide +kernel) (by decide +kernel)
set_option maxRecDepth 20000 in
theorem q_1489 : Cond.code yX10_named cX10_named 2 (some .int) ∈ gT := qT 1598 (by decide +kernel) (by decide +kernel)
set_option maxRecDepth 20000 in
theorem q_1490 : Cond.methodLink RL 212 yX10_undo ∈ gT := qT 1599 (by decide +kernel) (by decide +kernel)
set_option maxRecDepth 20000 in
theorem q_1491 : Cond.instanceMethod yX10_undo ∈ gT := qT 1600 (by decide +kernel) (by decide +kernel)
set_option maxRecDepth 20000 in
theorem q_1492 : Cond.selects RX10 yX10_undo yX10_undo ∈ gT := qT 1601 (by decide +kernel) (by decide +kernel)
set_option maxRecDepth 20000 in
theorem q_1493 : Cond.code yX10_undo cX10_undo 1 (some .int) ∈ gT := qT 1602 (by decide +kernel) (by decide +kernel)
set_option maxRecDepth 20000 in
theorem q_1494 : Cond.methodLink RX10 178 yX10_copyBank ∈ gT := qT 1603 (by decide +kernel) (by decide +kernel)
set_option maxRecDepth 20000 in
theorem q_1496 : Cond.instanceMethod yX10_copyBank ∈ gT := qT 1605 (by decide +kernel) (by decide +kernel)
set_option maxRecDepth 20000 in
theorem q_1497 : Cond.code yX10_copyBank cX10_copyBank 4 none ∈ gT := qT 1606 (by decide +kernel) (by decide +kernel)
set_option maxRecDepth 20000 in
theorem q_1498 : Cond.methodLink RL 216 yX10_keep ∈ gT := qT 1607 (by decide +kernel) (by decide +kernel)
set_option maxRecDepth 20000 in
theorem q_1499 : Cond.instanceMethod yX10_keep ∈ gT := qT 1608 (by decide +kernel) (by decide +kernel)
set_option maxRecDepth 20000 in
theorem q_1500 : Cond.selects RX10 yX10_keep yX10_keep ∈ gT := qT 1609 (by decide +kernel) (by decide +kernel)
set_option maxRecDepth 20000 in
theorem q_1501 : Cond.code yX10_keep cX10_keep 1 (some .int) ∈ gT := qT 1610 (by decide +kernel) (by decide +kernel)
set_option maxRecDepth 20000 in
theorem q_1502 : Cond.methodLink RL 220 yX10_back ∈ gT := qT 1611 (by decide +kernel) (by decide +kernel)
set_option maxRecDepth 20000 in
theorem q_1503 : Cond.instanceMethod yX10_back ∈ gT := qT 1612 (by decide +kernel) (by decide +kernel)
set_option maxRecDepth 20000 in
theorem q_1504 : Cond.selects RX10 yX10_back yX10_back ∈ gT := qT 1613 (by decide +kernel) (by decide +kernel)
set_option maxRecDepth 20000 in
theorem q_1505 : Cond.code yX10_back cX10_back 1 (some .int) ∈ gT := qT 1614 (by decide +kernel) (by decide +kernel)
set_option maxRecDepth 20000 in
theorem q_1506 : Cond.methodLink RL 57 yX10_sale ∈ gT := qT 1615 (by decide +kernel) (by decide +kernel)
set_option maxRecDepth 20000 in
theorem q_1507 : Cond.instanceMethod yX10_sale ∈ gT := qT 1616 (by decide +kernel) (by decide +kernel)
set_option maxRecDepth 20000 in
theorem q_1508 : Cond.selects RX10 yX10_sale yX10_sale ∈ gT := qT 1617 (by decide +kernel) (by decide +kernel)
set_option maxRecDepth 20000 in
theorem q_1509 : Cond.code yX10_sale cX10_sale 4 (some .int) ∈ gT := qT 1618 (by decide +kernel) (by decide +kernel)
set_option maxRecDepth 20000 in
theorem q_1510 : Cond.methodLink RX10 296 yX10_isTrader ∈ gT := qT 1619 (by decide +kernel) (by decide +kernel)
set_option maxRecDepth 20000 in
theorem q_1512 : Cond.instanceMethod yX10_isTrader ∈ gT := qT 1621 (by decide +kernel) (by decide +kernel)
set_option maxRecDepth 20000 in
theorem q_1513 : Cond.code yX10_isTrader cX10_isTrader 2 (some .boolean) ∈ gT := qT 1622 (by decide +kernel) (by decide +kernel)
set_option maxRecDepth 20000 in
theorem q_1514 : Cond.methodLink RX10 299 yX10_canUndo ∈ gT := qT 1623 (by decide +kernel) (by decide +kernel)
set_option maxRecDepth 20000 in
theorem q_1516 : Cond.instanceMethod yX10_canUndo ∈ gT := qT 1625 (by decide +kernel) (by decide +kernel)
set_option maxRecDepth 20000 in
theorem q_1517 : Cond.code yX10_canUndo cX10_canUndo 2 none ∈ gT := qT 1626 (by decide +kernel) (by decide +kernel)
set_option maxRecDepth 20000 in
theorem q_1518 : Cond.methodLink RL 61 yX10_buy ∈ gT := qT 1627 (by decide +kernel) (by decide +kernel)
set_option maxRecDepth 20000 in
theorem q_1519 : Cond.instanceMethod yX10_buy ∈ gT := qT 1628 (by decide +kernel) (by decide +kernel)
set_option maxRecDepth 20000 in
theorem q_1520 : Cond.selects RX10 yX10_buy yX10_buy ∈ gT := qT 1629 (by decide +kernel) (by decide +kernel)
set_option maxRecDepth 20000 in
theorem q_1521 : Cond.code yX10_buy cX10_buy 4 (some .int) ∈ gT := qT 1630 (by decide +kernel) (by decide +kernel)
set_option maxRecDepth 20000 in
theorem q_1522 : Cond.methodLink RL 66 yX10_late ∈ gT := qT 1631 (by decide +kernel) (by decide +kernel)
set_option maxRecDepth 20000 in
theorem q_1523 : Cond.instanceMethod yX10_late ∈ gT := qT 1632 (by decide +kernel) (by decide +kernel)
set_option maxRecDepth 20000 in
theorem q_1524 : Cond.selects RX10 yX10_late yX10_late ∈ gT := qT 1633 (by decide +kernel) (by decide +kernel)
set_option maxRecDepth 20000 in
theorem q_1525 : Cond.code yX10_late cX10_late 5 (some .int) ∈ gT := qT 1634 (by decide +kernel) (by decide +kernel)
set_option maxRecDepth 20000 in
theorem q_1526 : Cond.methodLink RX10 233 yX10_year ∈ gT := qT 1635 (by decide +kernel) (by decide +kernel)
set_option maxRecDepth 20000 in
theorem q_1528 : Cond.instanceMethod yX10_year ∈ gT := qT 1637 (by decide +kernel) (by decide +kernel)
set_option maxRecDepth 20000 in
theorem q_1529 : Cond.code yX10_year cX10_year 1 (some .int) ∈ gT := qT 1638 (by decide +kernel) (by decide +kernel)
set_option maxRecDepth 20000 in
theorem q_1530 : Cond.methodLink RL 71 yX10_heads ∈ gT := qT 1639 (by decide +kernel) (by decide +kernel)
set_option maxRecDepth 20000 in
theorem q_1531 : Cond.instanceMethod yX10_heads ∈ gT := qT 1640 (by decide +kernel) (by decide +kernel)
set_option maxRecDepth 20000 in
theorem q_1532 : Cond.selects RX10 yX10_heads yX10_heads ∈ gT := qT 1641 (by decide +kernel) (by decide +kernel)
set_option maxRecDepth 20000 in
theorem q_1533 : Cond.code yX10_heads cX10_heads 4 (some .boolean) ∈ gT := qT 1642 (by decide +kernel) (by decide +kernel)
set_option maxRecDepth 20000 in
theorem q_1534 : Cond.methodLink RL 75 yX10_acquire ∈ gT := qT 1643 (by decide +kernel) (by decide +kernel)
set_option maxRecDepth 20000 in
theorem q_1535 : Cond.instanceMethod yX10_acquire ∈ gT := qT 1644 (by decide +kernel) (by decide +kernel)
set_option maxRecDepth 20000 in
theorem q_1536 : Cond.selects RX10 yX10_acquire yX10_acquire ∈ gT := qT 1645 (by decide +kernel) (by decide +kernel)
set_option maxRecDepth 20000 in
theorem q_1537 : Cond.code yX10_acquire cX10_acquire 5 (some .int) ∈ gT := qT 1646 (by decide +kernel) (by decide +kernel)
set_option maxRecDepth 20000 in
theorem q_1538 : Cond.methodLink RL 80 yX10_use ∈ gT := qT 1647 (by decide +kernel) (by decide +kernel)
set_option maxRecDepth 20000 in
theorem q_1539 : Cond.instanceMethod yX10_use ∈ gT := qT 1648 (by decide +kernel) (by decide +kernel)
set_option maxRecDepth 20000 in
theorem q_1540 : Cond.selects RX10 yX10_use yX10_use ∈ gT := qT 1649 (by decide +kernel) (by decide +kernel)
set_option maxRecDepth 20000 in
theorem q_1541 : Cond.code yX10_use cX10_use 3 (some .boolean) ∈ gT := qT 1650 (by decide +kernel) (by decide +kernel)
set_option maxRecDepth 20000 in
theorem q_1542 : Cond.methodLink RX10 302 yX10_isAsset ∈ gT := qT 1651 (by decide +kernel) (by decide +kernel)
set_option maxRecDepth 20000 in
theorem q_1544 : Cond.instanceMethod yX10_isAsset ∈ gT := qT 1653 (by decide +kernel) (by decide +kernel)
set_option maxRecDepth 20000 in
theorem q_1545 : Cond.code yX10_isAsset cX10_isAsset 2 (some .boolean) ∈ gT := qT 1654 (by decide +kernel) (by decide +kernel)
set_option maxRecDepth 20000 in
theorem q_1546 : Cond.methodLink RX10 305 yX10_isGone ∈ gT := qT 1655 (by decide +kernel) (by decide +kernel)
set_option maxRecDepth 20000 in
theorem q_1548 : Cond.instanceMethod yX10_isGone ∈ gT := qT 1657 (by decide +kernel) (by decide +kernel)
set_option maxRecDepth 20000 in
theorem q_1549 : Cond.code yX10_isGone cX10_isGone 2 (some .boolean) ∈ gT := qT 1658 (by decide +kernel) (by decide +kernel)
set_option maxRecDepth 20000 in
theorem q_1550 : Cond.methodLink RX10 256 yX10_at ∈ gT := qT 1659 (by decide +kernel) (by decide +kernel)
set_option maxRecDepth 20000 in
theorem q_1552 : Cond.instanceMethod yX10_at ∈ gT := qT 1661 (by decide +kernel) (by decide +kernel)
set_option maxRecDepth 20000 in
theorem q_1553 : Cond.code yX10_at cX10_at 3 (some .int) ∈ gT := qT 1662 (by decide +kernel) (by decide +kernel)
set_option maxRecDepth 20000 in
theorem q_1554 : Cond.methodLink RX10 270 yX10_intervalOf ∈ gT := qT 1663 (by decide +kernel) (by decide +kernel)
set_option maxRecDepth 20000 in
theorem q_1556 : Cond.instanceMethod yX10_intervalOf ∈ gT := qT 1665 (by decide +kernel) (by decide +kernel)
set_option maxRecDepth 20000 in
theorem q_1557 : Cond.code yX10_intervalOf cX10_intervalOf 3 (some .int) ∈ gT := qT 1666 (by decide +kernel) (by decide +kernel)
set_option maxRecDepth 20000 in
theorem q_1558 : Cond.methodLink RL 84 yX10_sell ∈ gT := qT 1667 (by decide +kernel) (by decide +kernel)
set_option maxRecDepth 20000 in
theorem q_1559 : Cond.instanceMethod yX10_sell ∈ gT := qT 1668 (by decide +kernel) (by decide +kernel)
set_option maxRecDepth 20000 in
theorem q_1560 : Cond.selects RX10 yX10_sell yX10_sell ∈ gT := qT 1669 (by decide +kernel) (by decide +kernel)
set_option maxRecDepth 20000 in
theorem q_1561 : Cond.code yX10_sell cX10_sell 4 (some .int) ∈ gT := qT 1670 (by decide +kernel) (by decide +kernel)
set_option maxRecDepth 20000 in
theorem q_1562 : Cond.methodLink RX10 308 yX10_behindOf ∈ gT := qT 1671 (by decide +kernel) (by decide +kernel)
set_option maxRecDepth 20000 in
theorem q_1564 : Cond.instanceMethod yX10_behindOf ∈ gT := qT 1673 (by decide +kernel) (by decide +kernel)
set_option maxRecDepth 20000 in
theorem q_1565 : Cond.code yX10_behindOf cX10_behindOf 2 (some .int) ∈ gT := qT 1674 (by decide +kernel) (by decide +kernel)
set_option maxRecDepth 20000 in
theorem q_1566 : Cond.methodLink RL 88 yX10_hand ∈ gT := qT 1675 (by decide +kernel) (by decide +kernel)
set_option maxRecDepth 20000 in
theorem q_1567 : Cond.instanceMethod yX10_hand ∈ gT := qT 1676 (by decide +kernel) (by decide +kernel)
set_option maxRecDepth 20000 in
theorem q_1568 : Cond.selects RX10 yX10_hand yX10_hand ∈ gT := qT 1677 (by decide +kernel) (by decide +kernel)
set_option maxRecDepth 20000 in
theorem q_1569 : Cond.code yX10_hand cX10_hand 4 (some .int) ∈ gT := qT 1678 (by decide +kernel) (by decide +kernel)
set_option maxRecDepth 20000 in
theorem q_1570 : Cond.methodLink RL 92 yX10_close ∈ gT := qT 1679 (by decide +kernel) (by decide +kernel)
set_option maxRecDepth 20000 in
theorem q_1571 : Cond.instanceMethod yX10_close ∈ gT := qT 1680 (by decide +kernel) (by decide +kernel)
set_option maxRecDepth 20000 in
theorem q_1572 : Cond.selects RX10 yX10_close yX10_close ∈ gT := qT 1681 (by decide +kernel) (by decide +kernel)
set_option maxRecDepth 20000 in
theorem q_1573 : Cond.code yX10_close cX10_close 4 (some .int) ∈ gT := qT 1682 (by decide +kernel) (by decide +kernel)
set_option maxRecDepth 20000 in
theorem q_1574 : Cond.methodLink RX10 311 yX10_closesQuarter ∈ gT := qT 1683 (by decide +kernel) (by decide +kernel)
set_option maxRecDepth 20000 in
theorem q_1576 : Cond.instanceMethod yX10_closesQuarter ∈ gT := qT 1685 (by decide +kernel) (by decide +kernel)
set_option maxRecDepth 20000 in
theorem q_1577 : Cond.code yX10_closesQuarter cX10_closesQuarter 5 none ∈ gT := qT 1686 (by decide +kernel) (by decide +kernel)
set_option maxRecDepth 20000 in
theorem q_1578 : Cond.methodLink RX10 246 yX10_provisionalBy ∈ gT := qT 1687 (by decide +kernel) (by decide +kernel)
set_option maxRecDepth 20000 in
theorem q_1580 : Cond.instanceMethod yX10_provisionalBy ∈ gT := qT 1689 (by decide +kernel) (by decide +kernel)
set_option maxRecDepth 20000 in
theorem q_1581 : Cond.code yX10_provisionalBy cX10_provisionalBy 5 (some .int) ∈ gT := qT 1690 (by decide +kernel) (by decide +kernel)
set_option maxRecDepth 20000 in
theorem q_1582 : Cond.methodLink RX10 240 yX10_layQuarter ∈ gT := qT 1691 (by decide +kernel) (by decide +kernel)
set_option maxRecDepth 20000 in
theorem q_1584 : Cond.instanceMethod yX10_layQuarter ∈ gT := qT 1693 (by decide +kernel) (by decide +kernel)
set_option maxRecDepth 20000 in
theorem q_1585 : Cond.code yX10_layQuarter cX10_layQuarter 3 none ∈ gT := qT 1694 (by decide +kernel) (by decide +kernel)
set_option maxRecDepth 20000 in
theorem q_1586 : Cond.methodLink RX10 212 yX10_layNone ∈ gT := qT 1695 (by decide +kernel) (by decide +kernel)
set_option maxRecDepth 20000 in
theorem q_1588 : Cond.instanceMethod yX10_layNone ∈ gT := qT 1697 (by decide +kernel) (by decide +kernel)
set_option maxRecDepth 20000 in
theorem q_1589 : Cond.code yX10_layNone cX10_layNone 2 none ∈ gT := qT 1698 (by decide +kernel) (by decide +kernel)
set_option maxRecDepth 20000 in
theorem q_1590 : Cond.methodLink RX10 215 yX10_addQuarter ∈ gT := qT 1699 (by decide +kernel) (by decide +kernel)
set_option maxRecDepth 20000 in
theorem q_1592 : Cond.instanceMethod yX10_addQuarter ∈ gT := qT 1701 (by decide +kernel) (by decide +kernel)
set_option maxRecDepth 20000 in
theorem q_1593 : Cond.code yX10_addQuarter cX10_addQuarter 4 none ∈ gT := qT 1702 (by decide +kernel) (by decide +kernel)
set_option maxRecDepth 20000 in
theorem q_1594 : Cond.methodLink RX10 218 yX10_addHeads ∈ gT := qT 1703 (by decide +kernel) (by decide +kernel)
set_option maxRecDepth 20000 in
theorem q_1596 : Cond.instanceMethod yX10_addHeads ∈ gT := qT 1705 (by decide +kernel) (by decide +kernel)
set_option maxRecDepth 20000 in
theorem q_1597 : Cond.code yX10_addHeads cX10_addHeads 2 none ∈ gT := qT 1706 (by decide +kernel) (by decide +kernel)
set_option maxRecDepth 20000 in
theorem q_1598 : Cond.methodLink RX10 237 yX10_fraction ∈ gT := qT 1707 (by decide +kernel) (by decide +kernel)
set_option maxRecDepth 20000 in
theorem q_1600 : Cond.instanceMethod yX10_fraction ∈ gT := qT 1709 (by decide +kernel) (by decide +kernel)
set_option maxRecDepth 20000 in
theorem q_1601 : Cond.code yX10_fraction cX10_fraction 2 (some .int) ∈ gT := qT 1710 (by decide +kernel) (by decide +kernel)
set_option maxRecDepth 20000 in
theorem q_1602 : Cond.methodLink RX10 222 yX10_fractionBy ∈ gT := qT 1711 (by decide +kernel) (by decide +kernel)
set_option maxRecDepth 20000 in
theorem q_1604 : Cond.instanceMethod yX10_fractionBy ∈ gT := qT 1713 (by decide +kernel) (by decide +kernel)
set_option maxRecDepth 20000 in
theorem q_1605 : Cond.code yX10_fractionBy cX10_fractionBy 8 (some .int) ∈ gT := qT 1714 (by decide +kernel) (by decide +kernel)
set_option maxRecDepth 20000 in
theorem q_1606 : Cond.methodLink RX10 201 yX10_cutBy ∈ gT := qT 1715 (by decide +kernel) (by decide +kernel)
set_option maxRecDepth 20000 in
theorem q_1607 : Cond.static yX10_cutBy ∈ gT := qT 1716 (by decide +kernel) (by decide +kernel)
set_option maxRecDepth 20000 in
theorem q_1608 : Cond.code yX10_cutBy cX10_cutBy 5 (some .long) ∈ gT := qT 1717 (by decide +kernel) (by decide +kernel)
set_option maxRecDepth 20000 in
theorem q_1609 : Cond.methodLink RX10 195 yX10_quotient ∈ gT := qT 1718 (by decide +kernel) (by decide +kernel)
set_option maxRecDepth 20000 in
theorem q_1610 : Cond.static yX10_quotient ∈ gT := qT 1719 (by decide +kernel) (by decide +kernel)
set_option maxRecDepth 20000 in
theorem q_1611 : Cond.code yX10_quotient cX10_quotient 6 (some .long) ∈ gT := qT 1720 (by decide +kernel) (by decide +kernel)
set_option maxRecDepth 20000 in
theorem q_1612 : Cond.constantLong RX10 199 (2) ∈ gT := qT 1721 (by decide +kernel) (by decide +kernel)
set_option maxRecDepth 20000 in
theorem q_1613 : Cond.methodLink RX10 243 yX10_firstOf ∈ gT := qT 1722 (by decide +kernel) (by decide +kernel)
set_option maxRecDepth 20000 in
theorem q_1615 : Cond.instanceMethod yX10_firstOf ∈ gT := qT 1724 (by decide +kernel) (by decide +kernel)
set_option maxRecDepth 20000 in
theorem q_1616 : Cond.code yX10_firstOf cX10_firstOf 2 (some .int) ∈ gT := qT 1725 (by decide +kernel) (by decide +kernel)
set_option maxRecDepth 20000 in
theorem q_1617 : Cond.methodLink RX10 249 yX10_back1 ∈ gT := qT 1726 (by decide +kernel) (by decide +kernel)
set_option maxRecDepth 20000 in
theorem q_1619 : Cond.instanceMethod yX10_back1 ∈ gT := qT 1728 (by decide +kernel) (by decide +kernel)
set_option maxRecDepth 20000 in
theorem q_1620 : Cond.code yX10_back1 cX10_back1 3 (some .int) ∈ gT := qT 1729 (by decide +kernel) (by decide +kernel)
set_option maxRecDepth 20000 in
theorem q_1621 : Cond.methodLink RX10 227 yX10_backBy ∈ gT := qT 1730 (by decide +kernel) (by decide +kernel)
set_option maxRecDepth 20000 in
theorem q_1623 : Cond.instanceMethod yX10_backBy ∈ gT := qT 1732 (by decide +kernel) (by decide +kernel)
set_option maxRecDepth 20000 in
theorem q_1624 : Cond.code yX10_backBy cX10_backBy 11 (some .int) ∈ gT := qT 1733 (by decide +kernel) (by decide +kernel)
set_option maxRecDepth 20000 in
theorem q_1625 : Cond.methodLink RX10 252 yX10_books ∈ gT := qT 1734 (by decide +kernel) (by decide +kernel)
set_option maxRecDepth 20000 in
theorem q_1627 : Cond.instanceMethod yX10_books ∈ gT := qT 1736 (by decide +kernel) (by decide +kernel)
set_option maxRecDepth 20000 in
theorem q_1628 : Cond.code yX10_books cX10_books 7 none ∈ gT := qT 1737 (by decide +kernel) (by decide +kernel)
set_option maxRecDepth 20000 in
theorem q_1629 : Cond.methodLink RX10 258 yX10_closesYear ∈ gT := qT 1738 (by decide +kernel) (by decide +kernel)
set_option maxRecDepth 20000 in
theorem q_1631 : Cond.instanceMethod yX10_closesYear ∈ gT := qT 1740 (by decide +kernel) (by decide +kernel)
set_option maxRecDepth 20000 in
theorem q_1632 : Cond.code yX10_closesYear cX10_closesYear 4 none ∈ gT := qT 1741 (by decide +kernel) (by decide +kernel)
set_option maxRecDepth 20000 in
theorem q_1633 : Cond.methodLink RX10 230 yX10_layYear ∈ gT := qT 1742 (by decide +kernel) (by decide +kernel)
set_option maxRecDepth 20000 in
theorem q_1635 : Cond.instanceMethod yX10_layYear ∈ gT := qT 1744 (by decide +kernel) (by decide +kernel)
set_option maxRecDepth 20000 in
theorem q_1636 : Cond.code yX10_layYear cX10_layYear 4 none ∈ gT := qT 1745 (by decide +kernel) (by decide +kernel)
set_option maxRecDepth 20000 in
theorem q_1637 : Cond.methodLink RX10 261 yX10_bookedIn ∈ gT := qT 1746 (by decide +kernel) (by decide +kernel)
set_option maxRecDepth 20000 in
theorem q_1639 : Cond.instanceMethod yX10_bookedIn ∈ gT := qT 1748 (by decide +kernel) (by decide +kernel)
set_option maxRecDepth 20000 in
theorem q_1640 : Cond.code yX10_bookedIn cX10_bookedIn 5 (some .int) ∈ gT := qT 1749 (by decide +kernel) (by decide +kernel)
set_option maxRecDepth 20000 in
theorem q_1641 : Cond.methodLink RX10 264 yX10_closesAsset ∈ gT := qT 1750 (by decide +kernel) (by decide +kernel)
set_option maxRecDepth 20000 in
theorem q_1643 : Cond.instanceMethod yX10_closesAsset ∈ gT := qT 1752 (by decide +kernel) (by decide +kernel)
set_option maxRecDepth 20000 in
theorem q_1644 : Cond.code yX10_closesAsset cX10_closesAsset 10 none ∈ gT := qT 1753 (by decide +kernel) (by decide +kernel)
set_option maxRecDepth 20000 in
theorem q_1645 : Cond.methodLink RX10 273 yX10_worthBy ∈ gT := qT 1754 (by decide +kernel) (by decide +kernel)
set_option maxRecDepth 20000 in
theorem q_1647 : Cond.instanceMethod yX10_worthBy ∈ gT := qT 1756 (by decide +kernel) (by decide +kernel)
set_option maxRecDepth 20000 in
theorem q_1648 : Cond.code yX10_worthBy cX10_worthBy 9 (some .int) ∈ gT := qT 1757 (by decide +kernel) (by decide +kernel)
set_option maxRecDepth 20000 in
theorem q_1649 : Cond.methodLink RX10 291 yX10_annualOf ∈ gT := qT 1758 (by decide +kernel) (by decide +kernel)
set_option maxRecDepth 20000 in
theorem q_1651 : Cond.instanceMethod yX10_annualOf ∈ gT := qT 1760 (by decide +kernel) (by decide +kernel)
set_option maxRecDepth 20000 in
theorem q_1652 : Cond.code yX10_annualOf cX10_annualOf 3 (some .int) ∈ gT := qT 1761 (by decide +kernel) (by decide +kernel)
set_option maxRecDepth 20000 in
theorem q_1653 : Cond.constantLong RX10 294 (4) ∈ gT := qT 1762 (by decide +kernel) (by decide +kernel)
set_option maxRecDepth 20000 in
theorem q_1654 : Cond.methodLink RX10 267 yX10_cut ∈ gT := qT 1763 (by decide +kernel) (by decide +kernel)
set_option maxRecDepth 20000 in
theorem q_1656 : Cond.instanceMethod yX10_cut ∈ gT := qT 1765 (by decide +kernel) (by decide +kernel)
set_option maxRecDepth 20000 in
theorem q_1657 : Cond.code yX10_cut cX10_cut 5 (some .long) ∈ gT := qT 1766 (by decide +kernel) (by decide +kernel)
set_option maxRecDepth 20000 in
theorem q_1658 : Cond.methodLink RX10 276 yX10_firstTaken ∈ gT := qT 1767 (by decide +kernel) (by decide +kernel)
set_option maxRecDepth 20000 in
theorem q_1660 : Cond.instanceMethod yX10_firstTaken ∈ gT := qT 1769 (by decide +kernel) (by decide +kernel)
set_option maxRecDepth 20000 in
theorem q_1661 : Cond.code yX10_firstTaken cX10_firstTaken 3 (some .long) ∈ gT := qT 1770 (by decide +kernel) (by decide +kernel)
set_option maxRecDepth 20000 in
theorem q_1662 : Cond.methodLink RX10 280 yX10_adjustedBy ∈ gT := qT 1771 (by decide +kernel) (by decide +kernel)
set_option maxRecDepth 20000 in
theorem q_1664 : Cond.instanceMethod yX10_adjustedBy ∈ gT := qT 1773 (by decide +kernel) (by decide +kernel)
set_option maxRecDepth 20000 in
theorem q_1665 : Cond.code yX10_adjustedBy cX10_adjustedBy 4 (some .long) ∈ gT := qT 1774 (by decide +kernel) (by decide +kernel)
set_option maxRecDepth 20000 in
theorem q_1666 : Cond.methodLink RX10 284 yX10_booksFor ∈ gT := qT 1775 (by decide +kernel) (by decide +kernel)
set_option maxRecDepth 20000 in
theorem q_1668 : Cond.instanceMethod yX10_booksFor ∈ gT := qT 1777 (by decide +kernel) (by decide +kernel)
set_option maxRecDepth 20000 in
theorem q_1669 : Cond.code yX10_booksFor cX10_booksFor 4 none ∈ gT := qT 1778 (by decide +kernel) (by decide +kernel)
set_option maxRecDepth 20000 in
theorem q_1670 : Cond.methodLink RX10 287 yX10_lastBy ∈ gT := qT 1779 (by decide +kernel) (by decide +kernel)
set_option maxRecDepth 20000 in
theorem q_1672 : Cond.instanceMethod yX10_lastBy ∈ gT := qT 1781 (by decide +kernel) (by decide +kernel)
set_option maxRecDepth 20000 in
theorem q_1673 : Cond.code yX10_lastBy cX10_lastBy 5 (some .long) ∈ gT := qT 1782 (by decide +kernel) (by decide +kernel)
set_option maxRecDepth 20000 in
theorem q_1674 : Cond.methodLink RL 44 yX10_trader ∈ gT := qT 1783 (by decide +kernel) (by decide +kernel)
set_option maxRecDepth 20000 in
theorem q_1675 : Cond.instanceMethod yX10_trader ∈ gT := qT 1784 (by decide +kernel) (by decide +kernel)
set_option maxRecDepth 20000 in
theorem q_1676 : Cond.selects RX10 yX10_trader yX10_trader ∈ gT := qT 1785 (by decide +kernel) (by decide +kernel)
set_option maxRecDepth 20000 in
theorem q_1677 : Cond.code yX10_trader cX10_trader 5 (some .int) ∈ gT := qT 1786 (by decide +kernel) (by decide +kernel)
set_option maxRecDepth 20000 in
theorem q_1678 : Cond.methodLink RX10 314 yX10_fails ∈ gT := qT 1787 (by decide +kernel) (by decide +kernel)
set_option maxRecDepth 20000 in
theorem q_1680 : Cond.instanceMethod yX10_fails ∈ gT := qT 1789 (by decide +kernel) (by decide +kernel)
set_option maxRecDepth 20000 in
theorem q_1681 : Cond.code yX10_fails cX10_fails 2 (some .int) ∈ gT := qT 1790 (by decide +kernel) (by decide +kernel)
set_option maxRecDepth 20000 in
theorem q_1682 : Cond.methodLink RL 52 yX10_asset ∈ gT := qT 1791 (by decide +kernel) (by decide +kernel)
set_option maxRecDepth 20000 in
theorem q_1683 : Cond.instanceMethod yX10_asset ∈ gT := qT 1792 (by decide +kernel) (by decide +kernel)
set_option maxRecDepth 20000 in
theorem q_1684 : Cond.selects RX10 yX10_asset yX10_asset ∈ gT := qT 1793 (by decide +kernel) (by decide +kernel)
set_option maxRecDepth 20000 in
theorem q_1685 : Cond.code yX10_asset cX10_asset 3 (some .int) ∈ gT := qT 1794 (by decide +kernel) (by decide +kernel)
set_option maxRecDepth 20000 in
theorem q_1686 : Cond.methodLink RX10 317 yX10_isThrough ∈ gT := qT 1795 (by decide +kernel) (by decide +kernel)
set_option maxRecDepth 20000 in
theorem q_1688 : Cond.instanceMethod yX10_isThrough ∈ gT := qT 1797 (by decide +kernel) (by decide +kernel)
set_option maxRecDepth 20000 in
theorem q_1689 : Cond.code yX10_isThrough cX10_isThrough 2 (some .boolean) ∈ gT := qT 1798 (by decide +kernel) (by decide +kernel)
set_option maxRecDepth 20000 in
theorem q_1690 : Cond.methodLink RL 96 yX10_sum ∈ gT := qT 1799 (by decide +kernel) (by decide +kernel)
set_option maxRecDepth 20000 in
theorem q_1691 : Cond.instanceMethod yX10_sum ∈ gT := qT 1800 (by decide +kernel) (by decide +kernel)
set_option maxRecDepth 20000 in
theorem q_1692 : Cond.selects RX10 yX10_sum yX10_sum ∈ gT := qT 1801 (by decide +kernel) (by decide +kernel)
set_option maxRecDepth 20000 in
theorem q_1693 : Cond.code yX10_sum cX10_sum 4 (some .int) ∈ gT := qT 1802 (by decide +kernel) (by decide +kernel)
set_option maxRecDepth 20000 in
theorem q_1694 : Cond.methodLink RX10 320 yX10_isQuarter ∈ gT := qT 1803 (by decide +kernel) (by decide +kernel)
set_option maxRecDepth 20000 in
theorem q_1696 : Cond.instanceMethod yX10_isQuarter ∈ gT := qT 1805 (by decide +kernel) (by decide +kernel)
set_option maxRecDepth 20000 in
theorem q_1697 : Cond.code yX10_isQuarter cX10_isQuarter 2 (some .boolean) ∈ gT := qT 1806 (by decide +kernel) (by decide +kernel)
set_option maxRecDepth 20000 in
theorem q_1698 : Cond.methodLink RL 100 yX10_provisional ∈ gT := qT 1807 (by decide +kernel) (by decide +kernel)
set_option maxRecDepth 20000 in
theorem q_1699 : Cond.instanceMethod yX10_provisional ∈ gT := qT 1808 (by decide +kernel) (by decide +kernel)
set_option maxRecDepth 20000 in
theorem q_1700 : Cond.selects RX10 yX10_provisional yX10_provisional ∈ gT := qT 1809 (by decide +kernel) (by decide +kernel)
set_option maxRecDepth 20000 in
theorem q_1701 : Cond.code yX10_provisional cX10_provisional 3 (some .int) ∈ gT := qT 1810 (by decide +kernel) (by decide +kernel)
set_option maxRecDepth 20000 in
theorem q_1702 : Cond.methodLink RL 104 yX10_recovered ∈ gT := qT 1811 (by decide +kernel) (by decide +kernel)
set_option maxRecDepth 20000 in
theorem q_1703 : Cond.instanceMethod yX10_recovered ∈ gT := qT 1812 (by decide +kernel) (by decide +kernel)
set_option maxRecDepth 20000 in
theorem q_1704 : Cond.selects RX10 yX10_recovered yX10_recovered ∈ gT := qT 1813 (by decide +kernel) (by decide +kernel)
set_option maxRecDepth 20000 in
theorem q_1705 : Cond.code yX10_recovered cX10_recovered 3 (some .int) ∈ gT := qT 1814 (by decide +kernel) (by decide +kernel)
set_option maxRecDepth 20000 in
theorem q_1706 : Cond.methodLink RL 108 yX10_annual ∈ gT := qT 1815 (by decide +kernel) (by decide +kernel)
set_option maxRecDepth 20000 in
theorem q_1707 : Cond.instanceMethod yX10_annual ∈ gT := qT 1816 (by decide +kernel) (by decide +kernel)
set_option maxRecDepth 20000 in
theorem q_1708 : Cond.selects RX10 yX10_annual yX10_annual ∈ gT := qT 1817 (by decide +kernel) (by decide +kernel)
set_option maxRecDepth 20000 in
theorem q_1709 : Cond.code yX10_annual cX10_annual 5 (some .int) ∈ gT := qT 1818 (by decide +kernel) (by decide +kernel)
set_option maxRecDepth 20000 in
theorem q_1710 : Cond.methodLink RX10 323 yX10_isYear ∈ gT := qT 1819 (by decide +kernel) (by decide +kernel)
set_option maxRecDepth 20000 in
theorem q_1712 : Cond.instanceMethod yX10_isYear ∈ gT := qT 1821 (by decide +kernel) (by decide +kernel)
set_option maxRecDepth 20000 in
theorem q_1713 : Cond.code yX10_isYear cX10_isYear 3 (some .boolean) ∈ gT := qT 1822 (by decide +kernel) (by decide +kernel)
set_option maxRecDepth 20000 in
theorem q_1714 : Cond.constant RX10 326 (-999999) ∈ gT := qT 1823 (by decide +kernel) (by decide +kernel)
set_option maxRecDepth 20000 in
theorem q_1715 : Cond.methodLink RX10 327 yX10_backOf ∈ gT := qT 1824 (by decide +kernel) (by decide +kernel)
set_option maxRecDepth 20000 in
theorem q_1717 : Cond.instanceMethod yX10_backOf ∈ gT := qT 1826 (by decide +kernel) (by decide +kernel)
set_option maxRecDepth 20000 in
theorem q_1718 : Cond.code yX10_backOf cX10_backOf 3 (some .int) ∈ gT := qT 1827 (by decide +kernel) (by decide +kernel)
set_option maxRecDepth 20000 in
theorem q_1719 : Cond.methodLink RL 112 yX10_interval ∈ gT := qT 1828 (by decide +kernel) (by decide +kernel)
set_option maxRecDepth 20000 in
theorem q_1720 : Cond.instanceMethod yX10_interval ∈ gT := qT 1829 (by decide +kernel) (by decide +kernel)
set_option maxRecDepth 20000 in
theorem q_1721 : Cond.selects RX10 yX10_interval yX10_interval ∈ gT := qT 1830 (by decide +kernel) (by decide +kernel)
set_option maxRecDepth 20000 in
theorem q_1722 : Cond.code yX10_interval cX10_interval 4 (some .int) ∈ gT := qT 1831 (by decide +kernel) (by decide +kernel)
set_option maxRecDepth 20000 in
theorem q_1723 : Cond.methodLink RL 116 yX10_taken ∈ gT := qT 1832 (by decide +kernel) (by decide +kernel)
set_option maxRecDepth 20000 in
theorem q_1724 : Cond.instanceMethod yX10_taken ∈ gT := qT 1833 (by decide +kernel) (by decide +kernel)
set_option maxRecDepth 20000 in
theorem q_1725 : Cond.selects RX10 yX10_taken yX10_taken ∈ gT := qT 1834 (by decide +kernel) (by decide +kernel)
set_option maxRecDepth 20000 in
theorem q_1726 : Cond.code yX10_taken cX10_taken 2 (some .int) ∈ gT := qT 1835 (by decide +kernel) (by decide +kernel)
set_option maxRecDepth 20000 in
theorem q_1727 : Cond.methodLink RL 120 yX10_last ∈ gT := qT 1836 (by decide +kernel) (by decide +kernel)
set_option maxRecDepth 20000 in
theorem q_1728 : Cond.instanceMethod yX10_last ∈ gT := qT 1837 (by decide +kernel) (by decide +kernel)
set_option maxRecDepth 20000 in
theorem q_1729 : Cond.selects RX10 yX10_last yX10_last ∈ gT := qT 1838 (by decide +kernel) (by decide +kernel)
set_option maxRecDepth 20000 in
theorem q_1730 : Cond.code yX10_last cX10_last 2 (some .int) ∈ gT := qT 1839 (by decide +kernel) (by decide +kernel)
set_option maxRecDepth 20000 in
theorem q_1731 : Cond.methodLink RL 124 yX10_booked ∈ gT := qT 1840 (by decide +kernel) (by decide +kernel)
set_option maxRecDepth 20000 in
theorem q_1732 : Cond.instanceMethod yX10_booked ∈ gT := qT 1841 (by decide +kernel) (by decide +kernel)
set_option maxRecDepth 20000 in
theorem q_1733 : Cond.selects RX10 yX10_booked yX10_booked ∈ gT := qT 1842 (by decide +kernel) (by decide +kernel)
set_option maxRecDepth 20000 in
theorem q_1734 : Cond.code yX10_booked cX10_booked 3 (some .int) ∈ gT := qT 1843 (by decide +kernel) (by decide +kernel)
set_option maxRecDepth 20000 in
theorem q_1735 : Cond.methodLink RL 128 yX10_total ∈ gT := qT 1844 (by decide +kernel) (by decide +kernel)
set_option maxRecDepth 20000 in
theorem q_1736 : Cond.instanceMethod yX10_total ∈ gT := qT 1845 (by decide +kernel) (by decide +kernel)
set_option maxRecDepth 20000 in
theorem q_1737 : Cond.selects RX10 yX10_total yX10_total ∈ gT := qT 1846 (by decide +kernel) (by decide +kernel)
set_option maxRecDepth 20000 in
theorem q_1738 : Cond.code yX10_total cX10_total 3 (some .int) ∈ gT := qT 1847 (by decide +kernel) (by decide +kernel)
set_option maxRecDepth 20000 in
theorem q_1739 : Cond.methodLink RL 132 yX10_by ∈ gT := qT 1848 (by decide +kernel) (by decide +kernel)
set_option maxRecDepth 20000 in
theorem q_1740 : Cond.instanceMethod yX10_by ∈ gT := qT 1849 (by decide +kernel) (by decide +kernel)
set_option maxRecDepth 20000 in
theorem q_1741 : Cond.selects RX10 yX10_by yX10_by ∈ gT := qT 1850 (by decide +kernel) (by decide +kernel)
set_option maxRecDepth 20000 in
theorem q_1742 : Cond.code yX10_by cX10_by 6 (some .int) ∈ gT := qT 1851 (by decide +kernel) (by decide +kernel)
set_option maxRecDepth 20000 in
theorem q_1743 : Cond.methodLink RL 136 yX10_bestMethod ∈ gT := qT 1852 (by decide +kernel) (by decide +kernel)
set_option maxRecDepth 20000 in
theorem q_1744 : Cond.instanceMethod yX10_bestMethod ∈ gT := qT 1853 (by decide +kernel) (by decide +kernel)
set_option maxRecDepth 20000 in
theorem q_1745 : Cond.selects RX10 yX10_bestMethod yX10_bestMethod ∈ gT := qT 1854 (by decide +kernel) (by decide +kernel)
set_option maxRecDepth 20000 in
theorem q_1746 : Cond.code yX10_bestMethod cX10_bestMethod 7 (some .int) ∈ gT := qT 1855 (by decide +kernel) (by decide +kernel)
set_option maxRecDepth 20000 in
theorem q_1747 : Cond.methodLink RL 140 yX10_bestStep ∈ gT := qT 1856 (by decide +kernel) (by decide +kernel)
set_option maxRecDepth 20000 in
theorem q_1748 : Cond.instanceMethod yX10_bestStep ∈ gT := qT 1857 (by decide +kernel) (by decide +kernel)
set_option maxRecDepth 20000 in
theorem q_1749 : Cond.selects RX10 yX10_bestStep yX10_bestStep ∈ gT := qT 1858 (by decide +kernel) (by decide +kernel)
set_option maxRecDepth 20000 in
theorem q_1750 : Cond.code yX10_bestStep cX10_bestStep 7 (some .int) ∈ gT := qT 1859 (by decide +kernel) (by decide +kernel)
set_option maxRecDepth 20000 in
theorem q_1751 : Cond.methodLink RL 144 yX10_joint ∈ gT := qT 1860 (by decide +kernel) (by decide +kernel)
set_option maxRecDepth 20000 in
theorem q_1752 : Cond.instanceMethod yX10_joint ∈ gT := qT 1861 (by decide +kernel) (by decide +kernel)
set_option maxRecDepth 20000 in
theorem q_1753 : Cond.selects RX10 yX10_joint yX10_joint ∈ gT := qT 1862 (by decide +kernel) (by decide +kernel)
set_option maxRecDepth 20000 in
theorem q_1754 : Cond.code yX10_joint cX10_joint 5 (some .int) ∈ gT := qT 1863 (by decide +kernel) (by decide +kernel)
set_option maxRecDepth 20000 in
theorem q_1755 : Cond.methodLink RL 148 yX10_limitFor ∈ gT := qT 1864 (by decide +kernel) (by decide +kernel)
set_option maxRecDepth 20000 in
theorem q_1756 : Cond.instanceMethod yX10_limitFor ∈ gT := qT 1865 (by decide +kernel) (by decide +kernel)
set_option maxRecDepth 20000 in
theorem q_1757 : Cond.selects RX10 yX10_limitFor yX10_limitFor ∈ gT := qT 1866 (by decide +kernel) (by decide +kernel)
set_option maxRecDepth 20000 in
theorem q_1758 : Cond.code yX10_limitFor cX10_limitFor 7 (some .int) ∈ gT := qT 1867 (by decide +kernel) (by decide +kernel)
set_option maxRecDepth 20000 in
theorem q_1759 : Cond.methodLink RL 152 yX10_byBasis ∈ gT := qT 1868 (by decide +kernel) (by decide +kernel)
set_option maxRecDepth 20000 in
theorem q_1760 : Cond.instanceMethod yX10_byBasis ∈ gT := qT 1869 (by decide +kernel) (by decide +kernel)
set_option maxRecDepth 20000 in
theorem q_1761 : Cond.selects RX10 yX10_byBasis yX10_byBasis ∈ gT := qT 1870 (by decide +kernel) (by decide +kernel)
set_option maxRecDepth 20000 in
theorem q_1762 : Cond.code yX10_byBasis cX10_byBasis 5 (some .int) ∈ gT := qT 1871 (by decide +kernel) (by decide +kernel)
set_option maxRecDepth 20000 in
theorem q_1763 : Cond.methodLink RL 156 yX10_leader ∈ gT := qT 1872 (by decide +kernel) (by decide +kernel)
set_option maxRecDepth 20000 in
theorem q_1764 : Cond.instanceMethod yX10_leader ∈ gT := qT 1873 (by decide +kernel) (by decide +kernel)
set_option maxRecDepth 20000 in
theorem q_1765 : Cond.selects RX10 yX10_leader yX10_leader ∈ gT := qT 1874 (by decide +kernel) (by decide +kernel)
set_option maxRecDepth 20000 in
theorem q_1766 : Cond.code yX10_leader cX10_leader 6 (some .int) ∈ gT := qT 1875 (by decide +kernel) (by decide +kernel)
set_option maxRecDepth 20000 in
theorem q_1767 : Cond.methodLink RL 160 yX10_rise ∈ gT := qT 1876 (by decide +kernel) (by decide +kernel)
set_option maxRecDepth 20000 in
theorem q_1768 : Cond.instanceMethod yX10_rise ∈ gT := qT 1877 (by decide +kernel) (by decide +kernel)
set_option maxRecDepth 20000 in
theorem q_1769 : Cond.selects RX10 yX10_rise yX10_rise ∈ gT := qT 1878 (by decide +kernel) (by decide +kernel)
set_option maxRecDepth 20000 in
theorem q_1770 : Cond.code yX10_rise cX10_rise 5 (some .int) ∈ gT := qT 1879 (by decide +kernel) (by decide +kernel)
set_option maxRecDepth 20000 in
theorem q_1771 : Cond.methodLink RL 164 yX10_need ∈ gT := qT 1880 (by decide +kernel) (by decide +kernel)
set_option maxRecDepth 20000 in
theorem q_1772 : Cond.instanceMethod yX10_need ∈ gT := qT 1881 (by decide +kernel) (by decide +kernel)
set_option maxRecDepth 20000 in
theorem q_1773 : Cond.selects RX10 yX10_need yX10_need ∈ gT := qT 1882 (by decide +kernel) (by decide +kernel)
set_option maxRecDepth 20000 in
theorem q_1774 : Cond.code yX10_need cX10_need 11 (some .int) ∈ gT := qT 1883 (by decide +kernel) (by decide +kernel)
set_option maxRecDepth 20000 in
theorem q_1775 : Cond.constantLong RX10 330 (100000000) ∈ gT := qT 1884 (by decide +kernel) (by decide +kernel)
set_option maxRecDepth 20000 in
theorem q_1776 : Cond.methodLink RL 168 yX10_room ∈ gT := qT 1885 (by decide +kernel) (by decide +kernel)
set_option maxRecDepth 20000 in
theorem q_1777 : Cond.instanceMethod yX10_room ∈ gT := qT 1886 (by decide +kernel) (by decide +kernel)
set_option maxRecDepth 20000 in
theorem q_1778 : Cond.selects RX10 yX10_room yX10_room ∈ gT := qT 1887 (by decide +kernel) (by decide +kernel)
set_option maxRecDepth 20000 in
theorem q_1779 : Cond.code yX10_room cX10_room 4 (some .int) ∈ gT := qT 1888 (by decide +kernel) (by decide +kernel)
set_option maxRecDepth 20000 in
theorem q_1780 : Cond.methodLink RL 172 yX10_would ∈ gT := qT 1889 (by decide +kernel) (by decide +kernel)
set_option maxRecDepth 20000 in
theorem q_1781 : Cond.instanceMethod yX10_would ∈ gT := qT 1890 (by decide +kernel) (by decide +kernel)
set_option maxRecDepth 20000 in
theorem q_1782 : Cond.selects RX10 yX10_would yX10_would ∈ gT := qT 1891 (by decide +kernel) (by decide +kernel)
set_option maxRecDepth 20000 in
theorem q_1783 : Cond.code yX10_would cX10_would 3 (some .int) ∈ gT := qT 1892 (by decide +kernel) (by decide +kernel)
set_option maxRecDepth 20000 in
theorem q_1784 : Cond.methodLink RX10 332 yX10_baseNow ∈ gT := qT 1893 (by decide +kernel) (by decide +kernel)
set_option maxRecDepth 20000 in
theorem q_1786 : Cond.instanceMethod yX10_baseNow ∈ gT := qT 1895 (by decide +kernel) (by decide +kernel)
set_option maxRecDepth 20000 in
theorem q_1787 : Cond.code yX10_baseNow cX10_baseNow 2 (some .int) ∈ gT := qT 1896 (by decide +kernel) (by decide +kernel)
set_option maxRecDepth 20000 in
theorem q_1788 : Cond.methodLink RL 176 yX10_bestWait ∈ gT := qT 1897 (by decide +kernel) (by decide +kernel)
set_option maxRecDepth 20000 in
theorem q_1789 : Cond.instanceMethod yX10_bestWait ∈ gT := qT 1898 (by decide +kernel) (by decide +kernel)
set_option maxRecDepth 20000 in
theorem q_1790 : Cond.selects RX10 yX10_bestWait yX10_bestWait ∈ gT := qT 1899 (by decide +kernel) (by decide +kernel)
set_option maxRecDepth 20000 in
theorem q_1791 : Cond.code yX10_bestWait cX10_bestWait 12 (some .int) ∈ gT := qT 1900 (by decide +kernel) (by decide +kernel)
set_option maxRecDepth 20000 in
theorem q_1792 : Cond.methodLink RL 180 yX10_project ∈ gT := qT 1901 (by decide +kernel) (by decide +kernel)
set_option maxRecDepth 20000 in
theorem q_1793 : Cond.instanceMethod yX10_project ∈ gT := qT 1902 (by decide +kernel) (by decide +kernel)
set_option maxRecDepth 20000 in
theorem q_1794 : Cond.selects RX10 yX10_project yX10_project ∈ gT := qT 1903 (by decide +kernel) (by decide +kernel)
set_option maxRecDepth 20000 in
theorem q_1795 : Cond.code yX10_project cX10_project 6 (some .int) ∈ gT := qT 1904 (by decide +kernel) (by decide +kernel)
set_option maxRecDepth 20000 in
theorem q_1796 : Cond.methodLink RL 184 yX10_ifUse ∈ gT := qT 1905 (by decide +kernel) (by decide +kernel)
set_option maxRecDepth 20000 in
theorem q_1797 : Cond.instanceMethod yX10_ifUse ∈ gT := qT 1906 (by decide +kernel) (by decide +kernel)
set_option maxRecDepth 20000 in
theorem q_1798 : Cond.selects RX10 yX10_ifUse yX10_ifUse ∈ gT := qT 1907 (by decide +kernel) (by decide +kernel)
set_option maxRecDepth 20000 in
theorem q_1799 : Cond.code yX10_ifUse cX10_ifUse 3 (some .int) ∈ gT := qT 1908 (by decide +kernel) (by decide +kernel)
set_option maxRecDepth 20000 in
theorem q_1800 : Cond.methodLink RL 188 yX10_owners ∈ gT := qT 1909 (by decide +kernel) (by decide +kernel)
set_option maxRecDepth 20000 in
theorem q_1801 : Cond.instanceMethod yX10_owners ∈ gT := qT 1910 (by decide +kernel) (by decide +kernel)
set_option maxRecDepth 20000 in
theorem q_1802 : Cond.selects RX10 yX10_owners yX10_owners ∈ gT := qT 1911 (by decide +kernel) (by decide +kernel)
set_option maxRecDepth 20000 in
theorem q_1803 : Cond.code yX10_owners cX10_owners 5 (some .int) ∈ gT := qT 1912 (by decide +kernel) (by decide +kernel)
set_option maxRecDepth 20000 in
theorem q_1804 : Cond.methodLink RL 192 yX10_even ∈ gT := qT 1913 (by decide +kernel) (by decide +kernel)
set_option maxRecDepth 20000 in
theorem q_1805 : Cond.instanceMethod yX10_even ∈ gT := qT 1914 (by decide +kernel) (by decide +kernel)
set_option maxRecDepth 20000 in
theorem q_1806 : Cond.selects RX10 yX10_even yX10_even ∈ gT := qT 1915 (by decide +kernel) (by decide +kernel)
set_option maxRecDepth 20000 in
theorem q_1807 : Cond.code yX10_even cX10_even 4 (some .int) ∈ gT := qT 1916 (by decide +kernel) (by decide +kernel)
set_option maxRecDepth 20000 in
theorem q_1808 : Cond.constant RX10 335 (-99999) ∈ gT := qT 1917 (by decide +kernel) (by decide +kernel)
set_option maxRecDepth 20000 in
theorem q_1809 : Cond.methodLink RL 196 yX10_worth ∈ gT := qT 1918 (by decide +kernel) (by decide +kernel)
set_option maxRecDepth 20000 in
theorem q_1810 : Cond.instanceMethod yX10_worth ∈ gT := qT 1919 (by decide +kernel) (by decide +kernel)
set_option maxRecDepth 20000 in
theorem q_1811 : Cond.selects RX10 yX10_worth yX10_worth ∈ gT := qT 1920 (by decide +kernel) (by decide +kernel)
set_option maxRecDepth 20000 in
theorem q_1812 : Cond.code yX10_worth cX10_worth 2 (some .int) ∈ gT := qT 1921 (by decide +kernel) (by decide +kernel)
set_option maxRecDepth 20000 in
theorem q_1813 : Cond.methodLink RL 200 yX10_tried ∈ gT := qT 1922 (by decide +kernel) (by decide +kernel)
set_option maxRecDepth 20000 in
theorem q_1814 : Cond.instanceMethod yX10_tried ∈ gT := qT 1923 (by decide +kernel) (by decide +kernel)
set_option maxRecDepth 20000 in
theorem q_1815 : Cond.selects RX10 yX10_tried yX10_tried ∈ gT := qT 1924 (by decide +kernel) (by decide +kernel)
set_option maxRecDepth 20000 in
theorem q_1816 : Cond.code yX10_tried cX10_tried 6 (some .int) ∈ gT := qT 1925 (by decide +kernel) (by decide +kernel)
set_option maxRecDepth 20000 in
theorem q_1817 : Cond.methodLink RX10 336 yX10_asNow ∈ gT := qT 1926 (by decide +kernel) (by decide +kernel)
set_option maxRecDepth 20000 in
theorem q_1819 : Cond.instanceMethod yX10_asNow ∈ gT := qT 1928 (by decide +kernel) (by decide +kernel)
set_option maxRecDepth 20000 in
theorem q_1820 : Cond.code yX10_asNow cX10_asNow 1 none ∈ gT := qT 1929 (by decide +kernel) (by decide +kernel)
set_option maxRecDepth 20000 in
theorem q_1821 : Cond.methodLink RL 204 yX10_chance ∈ gT := qT 1930 (by decide +kernel) (by decide +kernel)
set_option maxRecDepth 20000 in
theorem q_1822 : Cond.instanceMethod yX10_chance ∈ gT := qT 1931 (by decide +kernel) (by decide +kernel)
set_option maxRecDepth 20000 in
theorem q_1823 : Cond.selects RX10 yX10_chance yX10_chance ∈ gT := qT 1932 (by decide +kernel) (by decide +kernel)
set_option maxRecDepth 20000 in
theorem q_1824 : Cond.code yX10_chance cX10_chance 6 (some .int) ∈ gT := qT 1933 (by decide +kernel) (by decide +kernel)
set_option maxRecDepth 20000 in
theorem q_1825 : Cond.methodLink RX10 350 yX10_totalOf ∈ gT := qT 1934 (by decide +kernel) (by decide +kernel)
set_option maxRecDepth 20000 in
theorem q_1827 : Cond.instanceMethod yX10_totalOf ∈ gT := qT 1936 (by decide +kernel) (by decide +kernel)
set_option maxRecDepth 20000 in
theorem q_1828 : Cond.code yX10_totalOf cX10_totalOf 2 (some .int) ∈ gT := qT 1937 (by decide +kernel) (by decide +kernel)
set_option maxRecDepth 20000 in
theorem q_1829 : Cond.methodLink RX10 353 yX10_draw ∈ gT := qT 1938 (by decide +kernel) (by decide +kernel)
set_option maxRecDepth 20000 in
theorem q_1831 : Cond.instanceMethod yX10_draw ∈ gT := qT 1940 (by decide +kernel) (by decide +kernel)
set_option maxRecDepth 20000 in
theorem q_1832 : Cond.code yX10_draw cX10_draw 2 (some .int) ∈ gT := qT 1941 (by decide +kernel) (by decide +kernel)
set_option maxRecDepth 20000 in
theorem q_1833 : Cond.constantLong RX10 342 (1103515245) ∈ gT := qT 1942 (by decide +kernel) (by decide +kernel)
set_option maxRecDepth 20000 in
theorem q_1834 : Cond.constantLong RX10 344 (12345) ∈ gT := qT 1943 (by decide +kernel) (by decide +kernel)
set_option maxRecDepth 20000 in
theorem q_1835 : Cond.constantLong RX10 346 (2147483647) ∈ gT := qT 1944 (by decide +kernel) (by decide +kernel)
set_option maxRecDepth 20000 in
theorem q_1836 : Cond.constantLong RX10 348 (65536) ∈ gT := qT 1945 (by decide +kernel) (by decide +kernel)
set_option maxRecDepth 20000 in
theorem q_1837 : Cond.methodLink RL 208 yX10_farthest ∈ gT := qT 1946 (by decide +kernel) (by decide +kernel)
set_option maxRecDepth 20000 in
theorem q_1838 : Cond.instanceMethod yX10_farthest ∈ gT := qT 1947 (by decide +kernel) (by decide +kernel)
set_option maxRecDepth 20000 in
theorem q_1839 : Cond.selects RX10 yX10_farthest yX10_farthest ∈ gT := qT 1948 (by decide +kernel) (by decide +kernel)
set_option maxRecDepth 20000 in
theorem q_1840 : Cond.code yX10_farthest cX10_farthest 6 (some .int) ∈ gT := qT 1949 (by decide +kernel) (by decide +kernel)
set_option maxRecDepth 20000 in
theorem q_1841 : Cond.methodLink RL 224 yX10_count ∈ gT := qT 1950 (by decide +kernel) (by decide +kernel)
set_option maxRecDepth 20000 in
theorem q_1842 : Cond.instanceMethod yX10_count ∈ gT := qT 1951 (by decide +kernel) (by decide +kernel)
set_option maxRecDepth 20000 in
theorem q_1843 : Cond.selects RX10 yX10_count yX10_count ∈ gT := qT 1952 (by decide +kernel) (by decide +kernel)
set_option maxRecDepth 20000 in
theorem q_1844 : Cond.code yX10_count cX10_count 4 (some .int) ∈ gT := qT 1953 (by decide +kernel) (by decide +kernel)
set_option maxRecDepth 20000 in
theorem q_1860 : Cond.fieldLink RX8 62 RX8 "letters" "Ljava/lang/String;" ∈ gT := qT 1969 (by decide +kernel) (by decide +kernel)
set_option maxRecDepth 20000 in
theorem q_1861 : Cond.fieldLink RJ0 9 RJ0 "value" "[B" ∈ gT := qT 1970 (by decide +kernel) (by decide +kernel)
set_option maxRecDepth 20000 in
theorem q_1862 : Cond.fieldLink RJ0 15 RJ0 "coder" "B" ∈ gT := qT 1971 (by decide +kernel) (by decide +kernel)
set_option maxRecDepth 20000 in
theorem q_1863 : Cond.fieldLink RJx29ce0 7 RJx29ce0 "ordinal" "I" ∈ gT := qT 1972 (by decide +kernel) (by decide +kernel)
theorem p_0 : Cond.selects RX9 yX9_addFourBytes yX9_addFourBytes ∈ gT := qT 0 (by decide +kernel) (by decide +kernel)
theorem p_1 : Cond.selects RX5 yX5_begin yX5_begin ∈ gT := qT 1 (by decide +kernel) (by decide +kernel)
theorem p_2 : Cond.selects RX5 yX5_takeToken yX5_takeToken ∈ gT := qT 2 (by decide +kernel) (by decide +kernel)
theorem p_3 : Cond.selects RX5 yX5_readLine yX5_readLine ∈ gT := qT 3 (by decide +kernel) (by decide +kernel)
theorem p_4 : Cond.selects RX5 yX5_fail yX5_fail ∈ gT := qT 4 (by decide +kernel) (by decide +kernel)
theorem p_5 : Cond.selects RX5 yX5_readTrader yX5_readTrader ∈ gT := qT 5 (by decide +kernel) (by decide +kernel)
theorem p_6 : Cond.selects RX5 yX5_isRoom yX5_isRoom ∈ gT := qT 6 (by decide +kernel) (by decide +kernel)
theorem p_7 : Cond.selects RX5 yX5_takeName yX5_takeName ∈ gT := qT 7 (by decide +kernel) (by decide +kernel)
theorem p_8 : Cond.selects RX5 yX5_isNew yX5_isNew ∈ gT := qT 8 (by decide +kernel) (by decide +kernel)
theorem p_9 : Cond.selects RX5 yX5_takeNumber yX5_takeNumber ∈ gT := qT 9 (by decide +kernel) (by decide +kernel)
theorem p_10 : Cond.selects RX5 yX5_readHead yX5_readHead ∈ gT := qT 10 (by decide +kernel) (by decide +kernel)
theorem p_11 : Cond.selects RX5 yX5_takeTrader yX5_takeTrader ∈ gT := qT 11 (by decide +kernel) (by decide +kernel)
theorem p_12 : Cond.selects RX5 yX5_readStart yX5_readStart ∈ gT := qT 12 (by decide +kernel) (by decide +kernel)
theorem p_13 : Cond.selects RX5 yX5_readRound yX5_readRound ∈ gT := qT 13 (by decide +kernel) (by decide +kernel)
theorem p_14 : Cond.selects RX5 yX5_readStep yX5_readStep ∈ gT := qT 14 (by decide +kernel) (by decide +kernel)
theorem p_15 : Cond.selects RX5 yX5_readLimit yX5_readLimit ∈ gT := qT 15 (by decide +kernel) (by decide +kernel)
theorem p_16 : Cond.selects RX5 yX5_readSeed yX5_readSeed ∈ gT := qT 16 (by decide +kernel) (by decide +kernel)
theorem p_17 : Cond.selects RX5 yX5_takeDeal yX5_takeDeal ∈ gT := qT 17 (by decide +kernel) (by decide +kernel)
theorem p_18 : Cond.selects RX5 yX5_endSale yX5_endSale ∈ gT := qT 18 (by decide +kernel) (by decide +kernel)
theorem p_19 : Cond.selects RX7 yX7_addMove yX7_addMove ∈ gT := qT 19 (by decide +kernel) (by decide +kernel)
theorem p_20 : Cond.selects RX5 yX5_endBuy yX5_endBuy ∈ gT := qT 20 (by decide +kernel) (by decide +kernel)
theorem p_21 : Cond.selects RX5 yX5_endAsset yX5_endAsset ∈ gT := qT 21 (by decide +kernel) (by decide +kernel)
theorem p_22 : Cond.selects RX3 yX3_bringTold yX3_bringTold ∈ gT := qT 22 (by decide +kernel) (by decide +kernel)
theorem p_23 : Cond.selects RX9 yX9_isAsset yX9_isAsset ∈ gT := qT 23 (by decide +kernel) (by decide +kernel)
theorem p_24 : Cond.selects RX9 yX9_isTrader yX9_isTrader ∈ gT := qT 24 (by decide +kernel) (by decide +kernel)
theorem p_25 : Cond.selects RX9 yX9_mayEnd yX9_mayEnd ∈ gT := qT 25 (by decide +kernel) (by decide +kernel)
theorem p_26 : Cond.selects RX3 yX3_beginReckoning yX3_beginReckoning ∈ gT := qT 26 (by decide +kernel) (by decide +kernel)
theorem p_27 : Cond.selects RX3 yX3_addQuarters yX3_addQuarters ∈ gT := qT 27 (by decide +kernel) (by decide +kernel)
theorem p_28 : Cond.selects RX6 yX6_fractionOf yX6_fractionOf ∈ gT := qT 28 (by decide +kernel) (by decide +kernel)
theorem p_29 : Cond.selects RX6 yX6_leftBy yX6_leftBy ∈ gT := qT 29 (by decide +kernel) (by decide +kernel)
theorem p_30 : Cond.selects RX6 yX6_isSmallLeft yX6_isSmallLeft ∈ gT := qT 30 (by decide +kernel) (by decide +kernel)
theorem p_31 : Cond.selects RX6 yX6_allTax yX6_allTax ∈ gT := qT 31 (by decide +kernel) (by decide +kernel)
theorem p_32 : Cond.selects RX3 yX3_endYear yX3_endYear ∈ gT := qT 32 (by decide +kernel) (by decide +kernel)
theorem p_33 : Cond.selects RX3 yX3_endInterval yX3_endInterval ∈ gT := qT 33 (by decide +kernel) (by decide +kernel)
theorem p_34 : Cond.selects RX3 yX3_worthBy yX3_worthBy ∈ gT := qT 34 (by decide +kernel) (by decide +kernel)
theorem p_35 : Cond.selects RX3 yX3_quarterWorth yX3_quarterWorth ∈ gT := qT 35 (by decide +kernel) (by decide +kernel)
theorem p_36 : Cond.selects RX3 yX3_bookFinal yX3_bookFinal ∈ gT := qT 36 (by decide +kernel) (by decide +kernel)
theorem p_37 : Cond.selects RX9 yX9_isBegun yX9_isBegun ∈ gT := qT 37 (by decide +kernel) (by decide +kernel)
theorem p_38 : Cond.selects RX9 yX9_isFreeAsset yX9_isFreeAsset ∈ gT := qT 38 (by decide +kernel) (by decide +kernel)
theorem p_40 : Cond.selects RX10 yX10_plain yX10_plain ∈ gT := qT 40 (by decide +kernel) (by decide +kernel)
theorem p_41 : Cond.selects RX10 yX10_keepText yX10_keepText ∈ gT := qT 41 (by decide +kernel) (by decide +kernel)
theorem p_42 : Cond.selects RX10 yX10_lay yX10_lay ∈ gT := qT 42 (by decide +kernel) (by decide +kernel)
theorem p_43 : Cond.selects RX10 yX10_told1 yX10_told1 ∈ gT := qT 43 (by decide +kernel) (by decide +kernel)
theorem p_44 : Cond.selects RX10 yX10_comesNow yX10_comesNow ∈ gT := qT 44 (by decide +kernel) (by decide +kernel)
theorem p_45 : Cond.selects RX10 yX10_of yX10_of ∈ gT := qT 45 (by decide +kernel) (by decide +kernel)
theorem p_46 : Cond.selects RX10 yX10_sumAt yX10_sumAt ∈ gT := qT 46 (by decide +kernel) (by decide +kernel)
theorem p_47 : Cond.selects RX10 yX10_add yX10_add ∈ gT := qT 47 (by decide +kernel) (by decide +kernel)
theorem p_48 : Cond.selects RX10 yX10_acquires yX10_acquires ∈ gT := qT 48 (by decide +kernel) (by decide +kernel)
theorem p_49 : Cond.selects RX10 yX10_put yX10_put ∈ gT := qT 49 (by decide +kernel) (by decide +kernel)
theorem p_50 : Cond.selects RX10 yX10_token yX10_token ∈ gT := qT 50 (by decide +kernel) (by decide +kernel)
theorem p_51 : Cond.selects RX10 yX10_isSmall yX10_isSmall ∈ gT := qT 51 (by decide +kernel) (by decide +kernel)
theorem p_52 : Cond.selects RX10 yX10_wordAt yX10_wordAt ∈ gT := qT 52 (by decide +kernel) (by decide +kernel)
theorem p_53 : Cond.selects RX10 yX10_packed yX10_packed ∈ gT := qT 53 (by decide +kernel) (by decide +kernel)
theorem p_54 : Cond.selects RX10 yX10_isDigit yX10_isDigit ∈ gT := qT 54 (by decide +kernel) (by decide +kernel)
theorem p_55 : Cond.selects RX10 yX10_lineRead yX10_lineRead ∈ gT := qT 55 (by decide +kernel) (by decide +kernel)
theorem p_56 : Cond.selects RX10 yX10_wrong yX10_wrong ∈ gT := qT 56 (by decide +kernel) (by decide +kernel)
theorem p_57 : Cond.selects RX10 yX10_traderLine yX10_traderLine ∈ gT := qT 57 (by decide +kernel) (by decide +kernel)
theorem p_58 : Cond.selects RX10 yX10_nameAt yX10_nameAt ∈ gT := qT 58 (by decide +kernel) (by decide +kernel)
theorem p_59 : Cond.selects RX10 yX10_number yX10_number ∈ gT := qT 59 (by decide +kernel) (by decide +kernel)
theorem p_60 : Cond.selects RX10 yX10_headLine yX10_headLine ∈ gT := qT 60 (by decide +kernel) (by decide +kernel)
theorem p_61 : Cond.selects RX10 yX10_traderRead yX10_traderRead ∈ gT := qT 61 (by decide +kernel) (by decide +kernel)
theorem p_62 : Cond.selects RX10 yX10_startLine yX10_startLine ∈ gT := qT 62 (by decide +kernel) (by decide +kernel)
theorem p_63 : Cond.selects RX10 yX10_saleLine yX10_saleLine ∈ gT := qT 63 (by decide +kernel) (by decide +kernel)
theorem p_64 : Cond.selects RX10 yX10_rowLine yX10_rowLine ∈ gT := qT 64 (by decide +kernel) (by decide +kernel)
theorem p_65 : Cond.selects RX10 yX10_buyLine yX10_buyLine ∈ gT := qT 65 (by decide +kernel) (by decide +kernel)
theorem p_66 : Cond.selects RX10 yX10_assetLine yX10_assetLine ∈ gT := qT 66 (by decide +kernel) (by decide +kernel)
theorem p_67 : Cond.selects RX10 yX10_wordLine yX10_wordLine ∈ gT := qT 67 (by decide +kernel) (by decide +kernel)
theorem p_68 : Cond.selects RX10 yX10_copyBank yX10_copyBank ∈ gT := qT 68 (by decide +kernel) (by decide +kernel)
theorem p_69 : Cond.selects RX10 yX10_isTrader yX10_isTrader ∈ gT := qT 69 (by decide +kernel) (by decide +kernel)
theorem p_70 : Cond.selects RX10 yX10_canUndo yX10_canUndo ∈ gT := qT 70 (by decide +kernel) (by decide +kernel)
theorem p_71 : Cond.selects RX10 yX10_year yX10_year ∈ gT := qT 71 (by decide +kernel) (by decide +kernel)
theorem p_72 : Cond.selects RX10 yX10_isAsset yX10_isAsset ∈ gT := qT 72 (by decide +kernel) (by decide +kernel)
theorem p_73 : Cond.selects RX10 yX10_isGone yX10_isGone ∈ gT := qT 73 (by decide +kernel) (by decide +kernel)
theorem p_74 : Cond.selects RX10 yX10_at yX10_at ∈ gT := qT 74 (by decide +kernel) (by decide +kernel)
theorem p_75 : Cond.selects RX10 yX10_intervalOf yX10_intervalOf ∈ gT := qT 75 (by decide +kernel) (by decide +kernel)
theorem p_76 : Cond.selects RX10 yX10_behindOf yX10_behindOf ∈ gT := qT 76 (by decide +kernel) (by decide +kernel)
theorem p_77 : Cond.selects RX10 yX10_closesQuarter yX10_closesQuarter ∈ gT := qT 77 (by decide +kernel) (by decide +kernel)
theorem p_78 : Cond.selects RX10 yX10_provisionalBy yX10_provisionalBy ∈ gT := qT 78 (by decide +kernel) (by decide +kernel)
theorem p_79 : Cond.selects RX10 yX10_layQuarter yX10_layQuarter ∈ gT := qT 79 (by decide +kernel) (by decide +kernel)
theorem p_80 : Cond.selects RX10 yX10_layNone yX10_layNone ∈ gT := qT 80 (by decide +kernel) (by decide +kernel)
theorem p_81 : Cond.selects RX10 yX10_addQuarter yX10_addQuarter ∈ gT := qT 81 (by decide +kernel) (by decide +kernel)
theorem p_82 : Cond.selects RX10 yX10_addHeads yX10_addHeads ∈ gT := qT 82 (by decide +kernel) (by decide +kernel)
theorem p_83 : Cond.selects RX10 yX10_fraction yX10_fraction ∈ gT := qT 83 (by decide +kernel) (by decide +kernel)
theorem p_84 : Cond.selects RX10 yX10_fractionBy yX10_fractionBy ∈ gT := qT 84 (by decide +kernel) (by decide +kernel)
theorem p_85 : Cond.selects RX10 yX10_firstOf yX10_firstOf ∈ gT := qT 85 (by decide +kernel) (by decide +kernel)
theorem p_86 : Cond.selects RX10 yX10_back1 yX10_back1 ∈ gT := qT 86 (by decide +kernel) (by decide +kernel)
theorem p_87 : Cond.selects RX10 yX10_backBy yX10_backBy ∈ gT := qT 87 (by decide +kernel) (by decide +kernel)
theorem p_88 : Cond.selects RX10 yX10_books yX10_books ∈ gT := qT 88 (by decide +kernel) (by decide +kernel)
theorem p_89 : Cond.selects RX10 yX10_closesYear yX10_closesYear ∈ gT := qT 89 (by decide +kernel) (by decide +kernel)
theorem p_90 : Cond.selects RX10 yX10_layYear yX10_layYear ∈ gT := qT 90 (by decide +kernel) (by decide +kernel)
theorem p_91 : Cond.selects RX10 yX10_bookedIn yX10_bookedIn ∈ gT := qT 91 (by decide +kernel) (by decide +kernel)
theorem p_92 : Cond.selects RX10 yX10_closesAsset yX10_closesAsset ∈ gT := qT 92 (by decide +kernel) (by decide +kernel)
theorem p_93 : Cond.selects RX10 yX10_worthBy yX10_worthBy ∈ gT := qT 93 (by decide +kernel) (by decide +kernel)
theorem p_94 : Cond.selects RX10 yX10_annualOf yX10_annualOf ∈ gT := qT 94 (by decide +kernel) (by decide +kernel)
theorem p_95 : Cond.selects RX10 yX10_cut yX10_cut ∈ gT := qT 95 (by decide +kernel) (by decide +kernel)
theorem p_96 : Cond.selects RX10 yX10_firstTaken yX10_firstTaken ∈ gT := qT 96 (by decide +kernel) (by decide +kernel)
theorem p_97 : Cond.selects RX10 yX10_adjustedBy yX10_adjustedBy ∈ gT := qT 97 (by decide +kernel) (by decide +kernel)
theorem p_98 : Cond.selects RX10 yX10_booksFor yX10_booksFor ∈ gT := qT 98 (by decide +kernel) (by decide +kernel)
theorem p_99 : Cond.selects RX10 yX10_lastBy yX10_lastBy ∈ gT := qT 99 (by decide +kernel) (by decide +kernel)
theorem p_100 : Cond.selects RX10 yX10_fails yX10_fails ∈ gT := qT 100 (by decide +kernel) (by decide +kernel)
theorem p_101 : Cond.selects RX10 yX10_isThrough yX10_isThrough ∈ gT := qT 101 (by decide +kernel) (by decide +kernel)
theorem p_102 : Cond.selects RX10 yX10_isQuarter yX10_isQuarter ∈ gT := qT 102 (by decide +kernel) (by decide +kernel)
theorem p_103 : Cond.selects RX10 yX10_isYear yX10_isYear ∈ gT := qT 103 (by decide +kernel) (by decide +kernel)
theorem p_104 : Cond.selects RX10 yX10_backOf yX10_backOf ∈ gT := qT 104 (by decide +kernel) (by decide +kernel)
theorem p_105 : Cond.selects RX10 yX10_baseNow yX10_baseNow ∈ gT := qT 105 (by decide +kernel) (by decide +kernel)
theorem p_106 : Cond.selects RX10 yX10_asNow yX10_asNow ∈ gT := qT 106 (by decide +kernel) (by decide +kernel)
theorem p_107 : Cond.selects RX10 yX10_totalOf yX10_totalOf ∈ gT := qT 107 (by decide +kernel) (by decide +kernel)
theorem p_108 : Cond.selects RX10 yX10_draw yX10_draw ∈ gT := qT 108 (by decide +kernel) (by decide +kernel)
theorem inG0 : ∀ w ∈ u_ws RX1 TX1 19, w ∈ gT := List.forall_mem_cons.mpr ⟨q_262, List.forall_mem_cons.mpr ⟨q_264, List.forall_mem_cons.mpr ⟨q_266, List.forall_mem_cons.mpr ⟨q_268, List.forall_mem_cons.mpr ⟨q_270, List.forall_mem_cons.mpr ⟨q_272, List.forall_mem_cons.mpr ⟨q_274, List.forall_mem_cons.mpr ⟨q_276, List.forall_mem_cons.mpr ⟨q_278, List.forall_mem_cons.mpr ⟨q_280, List.forall_mem_cons.mpr ⟨q_282, List.forall_mem_cons.mpr ⟨q_284, List.forall_mem_cons.mpr ⟨q_286, List.forall_mem_cons.mpr ⟨q_288, List.forall_mem_cons.mpr ⟨q_290, List.forall_mem_cons.mpr ⟨q_292, List.forall_mem_cons.mpr ⟨q_294, List.forall_mem_cons.mpr ⟨q_296, List.forall_mem_cons.mpr ⟨q_298, fun _ h => absurd h List.not_mem_nil⟩⟩⟩⟩⟩⟩⟩⟩⟩⟩⟩⟩⟩⟩⟩⟩⟩⟩⟩
theorem inG1 : ∀ w ∈ u_ws RX2 TX2 12, w ∈ gT := List.forall_mem_cons.mpr ⟨q_324, List.forall_mem_cons.mpr ⟨q_326, List.forall_mem_cons.mpr ⟨q_328, List.forall_mem_cons.mpr ⟨q_330, List.forall_mem_cons.mpr ⟨q_332, List.forall_mem_cons.mpr ⟨q_334, List.forall_mem_cons.mpr ⟨q_336, List.forall_mem_cons.mpr ⟨q_338, List.forall_mem_cons.mpr ⟨q_340, List.forall_mem_cons.mpr ⟨q_342, List.forall_mem_cons.mpr ⟨q_344, List.forall_mem_cons.mpr ⟨q_346, fun _ h => absurd h List.not_mem_nil⟩⟩⟩⟩⟩⟩⟩⟩⟩⟩⟩⟩
theorem inG2 : ∀ w ∈ u_ws RX3 TX3 3, w ∈ gT := List.forall_mem_cons.mpr ⟨q_394, List.forall_mem_cons.mpr ⟨q_396, List.forall_mem_cons.mpr ⟨q_398, fun _ h => absurd h List.not_mem_nil⟩⟩⟩
theorem inG3 : ∀ w ∈ u_ws RX4 TX4 3, w ∈ gT := List.forall_mem_cons.mpr ⟨q_413, List.forall_mem_cons.mpr ⟨q_415, List.forall_mem_cons.mpr ⟨q_417, fun _ h => absurd h List.not_mem_nil⟩⟩⟩
theorem inG4 : ∀ w ∈ u_ws RX5 TX5 17, w ∈ gT := List.forall_mem_cons.mpr ⟨q_58, List.forall_mem_cons.mpr ⟨q_60, List.forall_mem_cons.mpr ⟨q_62, List.forall_mem_cons.mpr ⟨q_64, List.forall_mem_cons.mpr ⟨q_66, List.forall_mem_cons.mpr ⟨q_68, List.forall_mem_cons.mpr ⟨q_70, List.forall_mem_cons.mpr ⟨q_72, List.forall_mem_cons.mpr ⟨q_74, List.forall_mem_cons.mpr ⟨q_76, List.forall_mem_cons.mpr ⟨q_78, List.forall_mem_cons.mpr ⟨q_80, List.forall_mem_cons.mpr ⟨q_82, List.forall_mem_cons.mpr ⟨q_84, List.forall_mem_cons.mpr ⟨q_86, List.forall_mem_cons.mpr ⟨q_88, List.forall_mem_cons.mpr ⟨q_90, fun _ h => absurd h List.not_mem_nil⟩⟩⟩⟩⟩⟩⟩⟩⟩⟩⟩⟩⟩⟩⟩⟩⟩
theorem inG5 : ∀ w ∈ u_ws RX6 TX6 7, w ∈ gT := List.forall_mem_cons.mpr ⟨q_373, List.forall_mem_cons.mpr ⟨q_375, List.forall_mem_cons.mpr ⟨q_377, List.forall_mem_cons.mpr ⟨q_379, List.forall_mem_cons.mpr ⟨q_381, List.forall_mem_cons.mpr ⟨q_383, List.forall_mem_cons.mpr ⟨q_385, fun _ h => absurd h List.not_mem_nil⟩⟩⟩⟩⟩⟩⟩
theorem inG6 : ∀ w ∈ u_ws RX7 TX7 16, w ∈ gT := List.forall_mem_cons.mpr ⟨q_153, List.forall_mem_cons.mpr ⟨q_155, List.forall_mem_cons.mpr ⟨q_157, List.forall_mem_cons.mpr ⟨q_159, List.forall_mem_cons.mpr ⟨q_161, List.forall_mem_cons.mpr ⟨q_163, List.forall_mem_cons.mpr ⟨q_165, List.forall_mem_cons.mpr ⟨q_167, List.forall_mem_cons.mpr ⟨q_169, List.forall_mem_cons.mpr ⟨q_171, List.forall_mem_cons.mpr ⟨q_173, List.forall_mem_cons.mpr ⟨q_175, List.forall_mem_cons.mpr ⟨q_177, List.forall_mem_cons.mpr ⟨q_179, List.forall_mem_cons.mpr ⟨q_181, List.forall_mem_cons.mpr ⟨q_183, fun _ h => absurd h List.not_mem_nil⟩⟩⟩⟩⟩⟩⟩⟩⟩⟩⟩⟩⟩⟩⟩⟩
theorem inG7 : ∀ w ∈ u_ws RX9 TX9 9, w ∈ gT := List.forall_mem_cons.mpr ⟨q_429, List.forall_mem_cons.mpr ⟨q_431, List.forall_mem_cons.mpr ⟨q_433, List.forall_mem_cons.mpr ⟨q_435, List.forall_mem_cons.mpr ⟨q_437, List.forall_mem_cons.mpr ⟨q_439, List.forall_mem_cons.mpr ⟨q_441, List.forall_mem_cons.mpr ⟨q_443, List.forall_mem_cons.mpr ⟨q_445, fun _ h => absurd h List.not_mem_nil⟩⟩⟩⟩⟩⟩⟩⟩⟩
theorem inG8 : ∀ w ∈ u_ws RX10 TX10 29, w ∈ gT := List.forall_mem_cons.mpr ⟨q_1335, List.forall_mem_cons.mpr ⟨q_1337, List.forall_mem_cons.mpr ⟨q_1339, List.forall_mem_cons.mpr ⟨q_1341, List.forall_mem_cons.mpr ⟨q_1343, List.forall_mem_cons.mpr ⟨q_1345, List.forall_mem_cons.mpr ⟨q_1347, List.forall_mem_cons.mpr ⟨q_1349, List.forall_mem_cons.mpr ⟨q_1351, List.forall_mem_cons.mpr ⟨q_1353, List.forall_mem_cons.mpr ⟨q_1355, List.forall_mem_cons.mpr ⟨q_1357, List.forall_mem_cons.mpr ⟨q_1359, List.forall_mem_cons.mpr ⟨q_1361, List.forall_mem_cons.mpr ⟨q_1363, List.forall_mem_cons.mpr ⟨q_1365, List.forall_mem_cons.mpr ⟨q_1367, List.forall_mem_cons.mpr ⟨q_1369, List.forall_mem_cons.mpr ⟨q_1371, List.forall_mem_cons.mpr ⟨q_1373, List.forall_mem_cons.mpr ⟨q_1375, List.forall_mem_cons.mpr ⟨q_1377, List.forall_mem_cons.mpr ⟨q_1379, List.forall_mem_cons.mpr ⟨q_1381, List.forall_mem_cons.mpr ⟨q_1383, List.forall_mem_cons.mpr ⟨q_1385, List.forall_mem_cons.mpr ⟨q_1387, List.forall_mem_cons.mpr ⟨q_1389, List.forall_mem_cons.mpr ⟨q_1391, fun _ h => absurd h List.not_mem_nil⟩⟩⟩⟩⟩⟩⟩⟩⟩⟩⟩⟩⟩⟩⟩⟩⟩⟩⟩⟩⟩⟩⟩⟩⟩⟩⟩⟩⟩
theorem inC : ∀ c : Nat, c < 9 → ∀ w ∈ u_ws (RC c) (TC c) (NC c), w ∈ gT
  | 0, _ => inG0
  | 1, _ => inG1
  | 2, _ => inG2
  | 3, _ => inG3
  | 4, _ => inG4
  | 5, _ => inG5
  | 6, _ => inG6
  | 7, _ => inG7
  | 8, _ => inG8
  | n + 9, h => absurd h (by omega)
