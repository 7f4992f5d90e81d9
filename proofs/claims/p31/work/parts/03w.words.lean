theorem wI_L : Cond.initialized RL ∈ TS := tsm 28 (by decide +kernel) rfl
theorem wI_X11 : Cond.initialized RX11 ∈ TS := tsm 29 (by decide +kernel) rfl
theorem wI_X1 : Cond.initialized RX1 ∈ TS := tsm 30 (by decide +kernel) rfl
theorem wI_X7 : Cond.initialized RX7 ∈ TS := tsm 31 (by decide +kernel) rfl
theorem wI_X8 : Cond.initialized RX8 ∈ TS := tsm 32 (by decide +kernel) rfl
theorem wI_X9 : Cond.initialized RX9 ∈ TS := tsm 33 (by decide +kernel) rfl
theorem wI_X10 : Cond.initialized RX10 ∈ TS := tsm 34 (by decide +kernel) rfl
theorem wI_X2 : Cond.initialized RX2 ∈ TS := tsm 35 (by decide +kernel) rfl
theorem wI_X3 : Cond.initialized RX3 ∈ TS := tsm 36 (by decide +kernel) rfl
theorem wI_X6 : Cond.initialized RX6 ∈ TS := tsm 37 (by decide +kernel) rfl
theorem wI_X0 : Cond.initialized RX0 ∈ TS := tsm 38 (by decide +kernel) rfl
theorem wI_X4 : Cond.initialized RX4 ∈ TS := tsm 39 (by decide +kernel) rfl
theorem wI_X5 : Cond.initialized RX5 ∈ TS := tsm 40 (by decide +kernel) rfl
theorem wM_L_191 : Cond.methodLink RL 191 yL_plays ∈ TS := tsm 52 (by decide +kernel) rfl
theorem wL_L_15 : Cond.classLink RL 15 "Slicehouse" ∈ TS := tsm 55 (by decide +kernel) rfl
theorem wM_L_167 : Cond.methodLink RL 167 yX11_init ∈ TS := tsm 57 (by decide +kernel) rfl
theorem wM_X11_1 : Cond.methodLink RX11 1 ⟨"java/lang/Object", "<init>", "()V"⟩ ∈ TS := tsm 60 (by decide +kernel) rfl
theorem wL_X11_7 : Cond.classLink RX11 7 "Slicehouse$Jobs" ∈ TS := tsm 63 (by decide +kernel) rfl
theorem wM_X1_3 : Cond.methodLink RX1 3 ⟨"java/lang/Object", "<init>", "()V"⟩ ∈ TS := tsm 68 (by decide +kernel) rfl
theorem wL_X1_9 : Cond.classLink RX1 9 "Slicehouse$Row" ∈ TS := tsm 69 (by decide +kernel) rfl
theorem wM_X1_11 : Cond.methodLink RX1 11 yX7_init ∈ TS := tsm 71 (by decide +kernel) rfl
theorem wM_X7_1 : Cond.methodLink RX7 1 ⟨"java/lang/Object", "<init>", "()V"⟩ ∈ TS := tsm 74 (by decide +kernel) rfl
theorem wF_X7_7 : Cond.fieldLink RX7 7 "Slicehouse$Row" "cells" "[I" ∈ TS := tsm 75 (by decide +kernel) rfl
theorem wF_X1_14 : Cond.fieldLink RX1 14 "Slicehouse$Jobs" "comes" "LSlicehouse$Row;" ∈ TS := tsm 80 (by decide +kernel) rfl
theorem wF_X6_56 : Cond.fieldLink RX6 56 "Slicehouse$Jobs" "comes" "LSlicehouse$Row;" ∈ TS := tsm 81 (by decide +kernel) rfl
theorem wF_X11_146 : Cond.fieldLink RX11 146 "Slicehouse$Jobs" "comes" "LSlicehouse$Row;" ∈ TS := tsm 82 (by decide +kernel) rfl
theorem wF_X10_212 : Cond.fieldLink RX10 212 "Slicehouse$Jobs" "comes" "LSlicehouse$Row;" ∈ TS := tsm 83 (by decide +kernel) rfl
theorem wF_X1_20 : Cond.fieldLink RX1 20 "Slicehouse$Jobs" "lengths" "LSlicehouse$Row;" ∈ TS := tsm 84 (by decide +kernel) rfl
theorem wF_X6_45 : Cond.fieldLink RX6 45 "Slicehouse$Jobs" "lengths" "LSlicehouse$Row;" ∈ TS := tsm 85 (by decide +kernel) rfl
theorem wF_X0_36 : Cond.fieldLink RX0 36 "Slicehouse$Jobs" "lengths" "LSlicehouse$Row;" ∈ TS := tsm 86 (by decide +kernel) rfl
theorem wF_X11_87 : Cond.fieldLink RX11 87 "Slicehouse$Jobs" "lengths" "LSlicehouse$Row;" ∈ TS := tsm 87 (by decide +kernel) rfl
theorem wF_X10_215 : Cond.fieldLink RX10 215 "Slicehouse$Jobs" "lengths" "LSlicehouse$Row;" ∈ TS := tsm 88 (by decide +kernel) rfl
theorem wF_X1_23 : Cond.fieldLink RX1 23 "Slicehouse$Jobs" "deadlines" "LSlicehouse$Row;" ∈ TS := tsm 89 (by decide +kernel) rfl
theorem wF_X6_65 : Cond.fieldLink RX6 65 "Slicehouse$Jobs" "deadlines" "LSlicehouse$Row;" ∈ TS := tsm 90 (by decide +kernel) rfl
theorem wF_X1_26 : Cond.fieldLink RX1 26 "Slicehouse$Jobs" "deadlineKeys" "LSlicehouse$Row;" ∈ TS := tsm 91 (by decide +kernel) rfl
theorem wF_X5_62 : Cond.fieldLink RX5 62 "Slicehouse$Jobs" "deadlineKeys" "LSlicehouse$Row;" ∈ TS := tsm 92 (by decide +kernel) rfl
theorem wF_X10_218 : Cond.fieldLink RX10 218 "Slicehouse$Jobs" "deadlineKeys" "LSlicehouse$Row;" ∈ TS := tsm 93 (by decide +kernel) rfl
theorem wF_X1_29 : Cond.fieldLink RX1 29 "Slicehouse$Jobs" "weights" "LSlicehouse$Row;" ∈ TS := tsm 94 (by decide +kernel) rfl
theorem wF_X4_57 : Cond.fieldLink RX4 57 "Slicehouse$Jobs" "weights" "LSlicehouse$Row;" ∈ TS := tsm 95 (by decide +kernel) rfl
theorem wF_X10_205 : Cond.fieldLink RX10 205 "Slicehouse$Jobs" "weights" "LSlicehouse$Row;" ∈ TS := tsm 96 (by decide +kernel) rfl
theorem wF_X1_32 : Cond.fieldLink RX1 32 "Slicehouse$Jobs" "waitsFor" "LSlicehouse$Row;" ∈ TS := tsm 97 (by decide +kernel) rfl
theorem wF_X6_59 : Cond.fieldLink RX6 59 "Slicehouse$Jobs" "waitsFor" "LSlicehouse$Row;" ∈ TS := tsm 98 (by decide +kernel) rfl
theorem wF_X1_35 : Cond.fieldLink RX1 35 "Slicehouse$Jobs" "stretchCounts" "LSlicehouse$Row;" ∈ TS := tsm 99 (by decide +kernel) rfl
theorem wF_X11_100 : Cond.fieldLink RX11 100 "Slicehouse$Jobs" "stretchCounts" "LSlicehouse$Row;" ∈ TS := tsm 100 (by decide +kernel) rfl
theorem wF_X1_38 : Cond.fieldLink RX1 38 "Slicehouse$Jobs" "stretchLocks" "LSlicehouse$Row;" ∈ TS := tsm 101 (by decide +kernel) rfl
theorem wF_X1_41 : Cond.fieldLink RX1 41 "Slicehouse$Jobs" "stretchFroms" "LSlicehouse$Row;" ∈ TS := tsm 102 (by decide +kernel) rfl
theorem wF_X1_44 : Cond.fieldLink RX1 44 "Slicehouse$Jobs" "stretchTos" "LSlicehouse$Row;" ∈ TS := tsm 103 (by decide +kernel) rfl
theorem wF_X1_47 : Cond.fieldLink RX1 47 "Slicehouse$Jobs" "count" "I" ∈ TS := tsm 104 (by decide +kernel) rfl
theorem wF_X4_37 : Cond.fieldLink RX4 37 "Slicehouse$Jobs" "count" "I" ∈ TS := tsm 105 (by decide +kernel) rfl
theorem wF_X6_40 : Cond.fieldLink RX6 40 "Slicehouse$Jobs" "count" "I" ∈ TS := tsm 106 (by decide +kernel) rfl
theorem wF_X11_65 : Cond.fieldLink RX11 65 "Slicehouse$Jobs" "count" "I" ∈ TS := tsm 107 (by decide +kernel) rfl
theorem wF_X5_43 : Cond.fieldLink RX5 43 "Slicehouse$Jobs" "count" "I" ∈ TS := tsm 108 (by decide +kernel) rfl
theorem wF_X10_150 : Cond.fieldLink RX10 150 "Slicehouse$Jobs" "count" "I" ∈ TS := tsm 109 (by decide +kernel) rfl
theorem wL_X11_16 : Cond.classLink RX11 16 "Slicehouse$Tasks" ∈ TS := tsm 133 (by decide +kernel) rfl
theorem wM_X8_3 : Cond.methodLink RX8 3 ⟨"java/lang/Object", "<init>", "()V"⟩ ∈ TS := tsm 138 (by decide +kernel) rfl
theorem wL_X8_9 : Cond.classLink RX8 9 "Slicehouse$Row" ∈ TS := tsm 139 (by decide +kernel) rfl
theorem wM_X8_11 : Cond.methodLink RX8 11 yX7_init ∈ TS := tsm 140 (by decide +kernel) rfl
theorem wF_X8_14 : Cond.fieldLink RX8 14 "Slicehouse$Tasks" "periods" "LSlicehouse$Row;" ∈ TS := tsm 141 (by decide +kernel) rfl
theorem wF_X11_216 : Cond.fieldLink RX11 216 "Slicehouse$Tasks" "periods" "LSlicehouse$Row;" ∈ TS := tsm 142 (by decide +kernel) rfl
theorem wF_X8_20 : Cond.fieldLink RX8 20 "Slicehouse$Tasks" "lengths" "LSlicehouse$Row;" ∈ TS := tsm 143 (by decide +kernel) rfl
theorem wF_X11_219 : Cond.fieldLink RX11 219 "Slicehouse$Tasks" "lengths" "LSlicehouse$Row;" ∈ TS := tsm 144 (by decide +kernel) rfl
theorem wF_X8_23 : Cond.fieldLink RX8 23 "Slicehouse$Tasks" "deadlines" "LSlicehouse$Row;" ∈ TS := tsm 145 (by decide +kernel) rfl
theorem wF_X11_220 : Cond.fieldLink RX11 220 "Slicehouse$Tasks" "deadlines" "LSlicehouse$Row;" ∈ TS := tsm 146 (by decide +kernel) rfl
theorem wF_X8_26 : Cond.fieldLink RX8 26 "Slicehouse$Tasks" "count" "I" ∈ TS := tsm 147 (by decide +kernel) rfl
theorem wF_X11_212 : Cond.fieldLink RX11 212 "Slicehouse$Tasks" "count" "I" ∈ TS := tsm 148 (by decide +kernel) rfl
theorem wL_X11_23 : Cond.classLink RX11 23 "Slicehouse$Ways" ∈ TS := tsm 158 (by decide +kernel) rfl
theorem wM_X9_1 : Cond.methodLink RX9 1 ⟨"java/lang/Object", "<init>", "()V"⟩ ∈ TS := tsm 163 (by decide +kernel) rfl
theorem wF_X9_7 : Cond.fieldLink RX9 7 "Slicehouse$Ways" "slice" "I" ∈ TS := tsm 164 (by decide +kernel) rfl
theorem wF_X11_106 : Cond.fieldLink RX11 106 "Slicehouse$Ways" "slice" "I" ∈ TS := tsm 165 (by decide +kernel) rfl
theorem wF_X9_13 : Cond.fieldLink RX9 13 "Slicehouse$Ways" "change" "I" ∈ TS := tsm 166 (by decide +kernel) rfl
theorem wF_X11_109 : Cond.fieldLink RX11 109 "Slicehouse$Ways" "change" "I" ∈ TS := tsm 167 (by decide +kernel) rfl
theorem wF_X9_16 : Cond.fieldLink RX9 16 "Slicehouse$Ways" "rise" "I" ∈ TS := tsm 168 (by decide +kernel) rfl
theorem wF_X10_124 : Cond.fieldLink RX10 124 "Slicehouse$Ways" "rise" "I" ∈ TS := tsm 169 (by decide +kernel) rfl
theorem wF_X11_112 : Cond.fieldLink RX11 112 "Slicehouse$Ways" "rise" "I" ∈ TS := tsm 170 (by decide +kernel) rfl
theorem wF_X9_19 : Cond.fieldLink RX9 19 "Slicehouse$Ways" "seed" "I" ∈ TS := tsm 171 (by decide +kernel) rfl
theorem wF_X10_121 : Cond.fieldLink RX10 121 "Slicehouse$Ways" "seed" "I" ∈ TS := tsm 172 (by decide +kernel) rfl
theorem wF_X11_115 : Cond.fieldLink RX11 115 "Slicehouse$Ways" "seed" "I" ∈ TS := tsm 173 (by decide +kernel) rfl
theorem wF_X9_22 : Cond.fieldLink RX9 22 "Slicehouse$Ways" "lending" "Z" ∈ TS := tsm 174 (by decide +kernel) rfl
theorem wF_X11_118 : Cond.fieldLink RX11 118 "Slicehouse$Ways" "lending" "Z" ∈ TS := tsm 175 (by decide +kernel) rfl
theorem wL_X11_30 : Cond.classLink RX11 30 "Slicehouse$Worker" ∈ TS := tsm 187 (by decide +kernel) rfl
theorem wM_X11_32 : Cond.methodLink RX11 32 yX10_init ∈ TS := tsm 189 (by decide +kernel) rfl
theorem wM_X10_3 : Cond.methodLink RX10 3 ⟨"java/lang/Object", "<init>", "()V"⟩ ∈ TS := tsm 192 (by decide +kernel) rfl
theorem wL_X10_9 : Cond.classLink RX10 9 "Slicehouse$Row" ∈ TS := tsm 193 (by decide +kernel) rfl
theorem wM_X10_11 : Cond.methodLink RX10 11 yX7_init ∈ TS := tsm 194 (by decide +kernel) rfl
theorem wL_X10_20 : Cond.classLink RX10 20 "Slicehouse$Levels" ∈ TS := tsm 195 (by decide +kernel) rfl
theorem wM_X2_1 : Cond.methodLink RX2 1 ⟨"java/lang/Object", "<init>", "()V"⟩ ∈ TS := tsm 200 (by decide +kernel) rfl
theorem wL_X2_7 : Cond.classLink RX2 7 "Slicehouse$Line" ∈ TS := tsm 201 (by decide +kernel) rfl
theorem wM_X3_3 : Cond.methodLink RX3 3 ⟨"java/lang/Object", "<init>", "()V"⟩ ∈ TS := tsm 206 (by decide +kernel) rfl
theorem wF_X3_9 : Cond.fieldLink RX3 9 "Slicehouse$Line" "places" "[I" ∈ TS := tsm 207 (by decide +kernel) rfl
theorem wF_X3_15 : Cond.fieldLink RX3 15 "Slicehouse$Line" "size" "I" ∈ TS := tsm 208 (by decide +kernel) rfl
theorem wF_X2_10 : Cond.fieldLink RX2 10 "Slicehouse$Levels" "low" "LSlicehouse$Line;" ∈ TS := tsm 214 (by decide +kernel) rfl
theorem wF_X2_16 : Cond.fieldLink RX2 16 "Slicehouse$Levels" "middle" "LSlicehouse$Line;" ∈ TS := tsm 215 (by decide +kernel) rfl
theorem wF_X2_19 : Cond.fieldLink RX2 19 "Slicehouse$Levels" "high" "LSlicehouse$Line;" ∈ TS := tsm 216 (by decide +kernel) rfl
theorem wL_X10_70 : Cond.classLink RX10 70 "Slicehouse$Progress" ∈ TS := tsm 224 (by decide +kernel) rfl
theorem wM_X10_72 : Cond.methodLink RX10 72 yX6_init ∈ TS := tsm 226 (by decide +kernel) rfl
theorem wM_X6_3 : Cond.methodLink RX6 3 ⟨"java/lang/Object", "<init>", "()V"⟩ ∈ TS := tsm 229 (by decide +kernel) rfl
theorem wL_X6_9 : Cond.classLink RX6 9 "Slicehouse$Row" ∈ TS := tsm 230 (by decide +kernel) rfl
theorem wM_X6_11 : Cond.methodLink RX6 11 yX7_init ∈ TS := tsm 231 (by decide +kernel) rfl
theorem wF_X6_14 : Cond.fieldLink RX6 14 "Slicehouse$Progress" "lefts" "LSlicehouse$Row;" ∈ TS := tsm 232 (by decide +kernel) rfl
theorem wF_X5_53 : Cond.fieldLink RX5 53 "Slicehouse$Progress" "lefts" "LSlicehouse$Row;" ∈ TS := tsm 233 (by decide +kernel) rfl
theorem wF_X10_198 : Cond.fieldLink RX10 198 "Slicehouse$Progress" "lefts" "LSlicehouse$Row;" ∈ TS := tsm 234 (by decide +kernel) rfl
theorem wF_X6_20 : Cond.fieldLink RX6 20 "Slicehouse$Progress" "ends" "LSlicehouse$Row;" ∈ TS := tsm 235 (by decide +kernel) rfl
theorem wF_X11_153 : Cond.fieldLink RX11 153 "Slicehouse$Progress" "ends" "LSlicehouse$Row;" ∈ TS := tsm 236 (by decide +kernel) rfl
theorem wF_X6_23 : Cond.fieldLink RX6 23 "Slicehouse$Progress" "readySince" "LSlicehouse$Row;" ∈ TS := tsm 237 (by decide +kernel) rfl
theorem wF_X11_162 : Cond.fieldLink RX11 162 "Slicehouse$Progress" "readySince" "LSlicehouse$Row;" ∈ TS := tsm 238 (by decide +kernel) rfl
theorem wF_X6_26 : Cond.fieldLink RX6 26 "Slicehouse$Progress" "ready" "I" ∈ TS := tsm 239 (by decide +kernel) rfl
theorem wF_X10_129 : Cond.fieldLink RX10 129 "Slicehouse$Progress" "ready" "I" ∈ TS := tsm 240 (by decide +kernel) rfl
theorem wF_X6_36 : Cond.fieldLink RX6 36 "Slicehouse$Progress" "jobs" "LSlicehouse$Jobs;" ∈ TS := tsm 241 (by decide +kernel) rfl
theorem wF_X6_30 : Cond.fieldLink RX6 30 "Slicehouse$Progress" "ended" "I" ∈ TS := tsm 242 (by decide +kernel) rfl
theorem wF_X6_33 : Cond.fieldLink RX6 33 "Slicehouse$Progress" "all" "I" ∈ TS := tsm 243 (by decide +kernel) rfl
theorem wL_X10_79 : Cond.classLink RX10 79 "Slicehouse$Course" ∈ TS := tsm 259 (by decide +kernel) rfl
theorem wM_X10_81 : Cond.methodLink RX10 81 yX0_init ∈ TS := tsm 261 (by decide +kernel) rfl
theorem wM_X0_3 : Cond.methodLink RX0 3 ⟨"java/lang/Object", "<init>", "()V"⟩ ∈ TS := tsm 264 (by decide +kernel) rfl
theorem wL_X0_15 : Cond.classLink RX0 15 "Slicehouse$Row" ∈ TS := tsm 265 (by decide +kernel) rfl
theorem wM_X0_17 : Cond.methodLink RX0 17 yX7_init ∈ TS := tsm 266 (by decide +kernel) rfl
theorem wF_X0_9 : Cond.fieldLink RX0 9 "Slicehouse$Course" "length" "I" ∈ TS := tsm 267 (by decide +kernel) rfl
theorem wF_X10_112 : Cond.fieldLink RX10 112 "Slicehouse$Course" "length" "I" ∈ TS := tsm 268 (by decide +kernel) rfl
theorem wF_X11_129 : Cond.fieldLink RX11 129 "Slicehouse$Course" "length" "I" ∈ TS := tsm 269 (by decide +kernel) rfl
theorem wF_X0_20 : Cond.fieldLink RX0 20 "Slicehouse$Course" "doings" "LSlicehouse$Row;" ∈ TS := tsm 270 (by decide +kernel) rfl
theorem wF_X0_24 : Cond.fieldLink RX0 24 "Slicehouse$Course" "jobs" "LSlicehouse$Jobs;" ∈ TS := tsm 271 (by decide +kernel) rfl
theorem wL_X10_86 : Cond.classLink RX10 86 "Slicehouse$Locks" ∈ TS := tsm 279 (by decide +kernel) rfl
theorem wM_X10_88 : Cond.methodLink RX10 88 yX4_init ∈ TS := tsm 281 (by decide +kernel) rfl
theorem wM_X4_3 : Cond.methodLink RX4 3 ⟨"java/lang/Object", "<init>", "()V"⟩ ∈ TS := tsm 284 (by decide +kernel) rfl
theorem wL_X4_9 : Cond.classLink RX4 9 "Slicehouse$Row" ∈ TS := tsm 285 (by decide +kernel) rfl
theorem wM_X4_11 : Cond.methodLink RX4 11 yX7_init ∈ TS := tsm 286 (by decide +kernel) rfl
theorem wF_X4_26 : Cond.fieldLink RX4 26 "Slicehouse$Locks" "jobs" "LSlicehouse$Jobs;" ∈ TS := tsm 287 (by decide +kernel) rfl
theorem wF_X4_30 : Cond.fieldLink RX4 30 "Slicehouse$Locks" "progress" "LSlicehouse$Progress;" ∈ TS := tsm 288 (by decide +kernel) rfl
theorem wF_X4_14 : Cond.fieldLink RX4 14 "Slicehouse$Locks" "holders" "LSlicehouse$Row;" ∈ TS := tsm 289 (by decide +kernel) rfl
theorem wF_X4_20 : Cond.fieldLink RX4 20 "Slicehouse$Locks" "blockers" "LSlicehouse$Row;" ∈ TS := tsm 290 (by decide +kernel) rfl
theorem wF_X4_23 : Cond.fieldLink RX4 23 "Slicehouse$Locks" "ranks" "LSlicehouse$Row;" ∈ TS := tsm 291 (by decide +kernel) rfl
theorem wF_X10_75 : Cond.fieldLink RX10 75 "Slicehouse$Worker" "progress" "LSlicehouse$Progress;" ∈ TS := tsm 303 (by decide +kernel) rfl
theorem wF_X11_149 : Cond.fieldLink RX11 149 "Slicehouse$Worker" "progress" "LSlicehouse$Progress;" ∈ TS := tsm 304 (by decide +kernel) rfl
theorem wF_X10_82 : Cond.fieldLink RX10 82 "Slicehouse$Worker" "course" "LSlicehouse$Course;" ∈ TS := tsm 305 (by decide +kernel) rfl
theorem wF_X11_125 : Cond.fieldLink RX11 125 "Slicehouse$Worker" "course" "LSlicehouse$Course;" ∈ TS := tsm 306 (by decide +kernel) rfl
theorem wF_X10_14 : Cond.fieldLink RX10 14 "Slicehouse$Worker" "keptWaiting" "LSlicehouse$Row;" ∈ TS := tsm 307 (by decide +kernel) rfl
theorem wF_X11_168 : Cond.fieldLink RX11 168 "Slicehouse$Worker" "keptWaiting" "LSlicehouse$Row;" ∈ TS := tsm 308 (by decide +kernel) rfl
theorem wF_X10_62 : Cond.fieldLink RX10 62 "Slicehouse$Worker" "jobs" "LSlicehouse$Jobs;" ∈ TS := tsm 309 (by decide +kernel) rfl
theorem wF_X10_66 : Cond.fieldLink RX10 66 "Slicehouse$Worker" "ways" "LSlicehouse$Ways;" ∈ TS := tsm 310 (by decide +kernel) rfl
theorem wF_X10_23 : Cond.fieldLink RX10 23 "Slicehouse$Worker" "levels" "LSlicehouse$Levels;" ∈ TS := tsm 311 (by decide +kernel) rfl
theorem wF_X10_27 : Cond.fieldLink RX10 27 "Slicehouse$Worker" "counts" "LSlicehouse$Row;" ∈ TS := tsm 312 (by decide +kernel) rfl
theorem wF_X10_91 : Cond.fieldLink RX10 91 "Slicehouse$Worker" "locks" "LSlicehouse$Locks;" ∈ TS := tsm 313 (by decide +kernel) rfl
theorem wF_X10_30 : Cond.fieldLink RX10 30 "Slicehouse$Worker" "rule" "I" ∈ TS := tsm 314 (by decide +kernel) rfl
theorem wF_X10_34 : Cond.fieldLink RX10 34 "Slicehouse$Worker" "slice" "I" ∈ TS := tsm 315 (by decide +kernel) rfl
theorem wF_X10_37 : Cond.fieldLink RX10 37 "Slicehouse$Worker" "change" "I" ∈ TS := tsm 316 (by decide +kernel) rfl
theorem wF_X10_40 : Cond.fieldLink RX10 40 "Slicehouse$Worker" "lending" "Z" ∈ TS := tsm 317 (by decide +kernel) rfl
theorem wF_X10_44 : Cond.fieldLink RX10 44 "Slicehouse$Worker" "seed" "I" ∈ TS := tsm 318 (by decide +kernel) rfl
theorem wF_X10_47 : Cond.fieldLink RX10 47 "Slicehouse$Worker" "chosen" "I" ∈ TS := tsm 319 (by decide +kernel) rfl
theorem wF_X10_50 : Cond.fieldLink RX10 50 "Slicehouse$Worker" "level" "I" ∈ TS := tsm 320 (by decide +kernel) rfl
theorem wF_X10_53 : Cond.fieldLink RX10 53 "Slicehouse$Worker" "turnLeft" "I" ∈ TS := tsm 321 (by decide +kernel) rfl
theorem wF_X10_56 : Cond.fieldLink RX10 56 "Slicehouse$Worker" "changesLeft" "I" ∈ TS := tsm 322 (by decide +kernel) rfl
theorem wF_X10_59 : Cond.fieldLink RX10 59 "Slicehouse$Worker" "lastWorked" "I" ∈ TS := tsm 323 (by decide +kernel) rfl
theorem wL_X11_45 : Cond.classLink RX11 45 "Slicehouse$Pair" ∈ TS := tsm 361 (by decide +kernel) rfl
theorem wM_X11_47 : Cond.methodLink RX11 47 yX5_init ∈ TS := tsm 363 (by decide +kernel) rfl
theorem wM_X5_3 : Cond.methodLink RX5 3 ⟨"java/lang/Object", "<init>", "()V"⟩ ∈ TS := tsm 366 (by decide +kernel) rfl
theorem wL_X5_15 : Cond.classLink RX5 15 "Slicehouse$Progress" ∈ TS := tsm 367 (by decide +kernel) rfl
theorem wM_X5_17 : Cond.methodLink RX5 17 yX6_init ∈ TS := tsm 368 (by decide +kernel) rfl
theorem wF_X5_20 : Cond.fieldLink RX5 20 "Slicehouse$Pair" "progress" "LSlicehouse$Progress;" ∈ TS := tsm 369 (by decide +kernel) rfl
theorem wF_X11_198 : Cond.fieldLink RX11 198 "Slicehouse$Pair" "progress" "LSlicehouse$Progress;" ∈ TS := tsm 370 (by decide +kernel) rfl
theorem wF_X5_9 : Cond.fieldLink RX5 9 "Slicehouse$Pair" "jobs" "LSlicehouse$Jobs;" ∈ TS := tsm 371 (by decide +kernel) rfl
theorem wF_X11_10 : Cond.fieldLink RX11 10 "Slicehouse" "jobs" "LSlicehouse$Jobs;" ∈ TS := tsm 377 (by decide +kernel) rfl
theorem wF_X11_19 : Cond.fieldLink RX11 19 "Slicehouse" "tasks" "LSlicehouse$Tasks;" ∈ TS := tsm 378 (by decide +kernel) rfl
theorem wF_X11_26 : Cond.fieldLink RX11 26 "Slicehouse" "ways" "LSlicehouse$Ways;" ∈ TS := tsm 379 (by decide +kernel) rfl
theorem wF_X11_35 : Cond.fieldLink RX11 35 "Slicehouse" "worker" "LSlicehouse$Worker;" ∈ TS := tsm 380 (by decide +kernel) rfl
theorem wF_X11_39 : Cond.fieldLink RX11 39 "Slicehouse" "trial" "LSlicehouse$Worker;" ∈ TS := tsm 381 (by decide +kernel) rfl
theorem wF_X11_42 : Cond.fieldLink RX11 42 "Slicehouse" "model" "LSlicehouse$Worker;" ∈ TS := tsm 382 (by decide +kernel) rfl
theorem wF_X11_50 : Cond.fieldLink RX11 50 "Slicehouse" "pair" "LSlicehouse$Pair;" ∈ TS := tsm 383 (by decide +kernel) rfl
theorem wF_X11_54 : Cond.fieldLink RX11 54 "Slicehouse" "hasRun" "Z" ∈ TS := tsm 384 (by decide +kernel) rfl
theorem wM_L_84 : Cond.methodLink RL 84 yL_done ∈ TS := tsm 402 (by decide +kernel) rfl
theorem wL_L_63 : Cond.classLink RL 63 "java/lang/IndexOutOfBoundsException" ∈ TS := tsm 405 (by decide +kernel) rfl
theorem wL_L_65 : Cond.classLink RL 65 "java/lang/IllegalArgumentException" ∈ TS := tsm 406 (by decide +kernel) rfl
theorem wL_L_67 : Cond.classLink RL 67 "java/lang/IllegalStateException" ∈ TS := tsm 407 (by decide +kernel) rfl
theorem wL_L_69 : Cond.classLink RL 69 "java/util/NoSuchElementException" ∈ TS := tsm 408 (by decide +kernel) rfl
theorem wM_L_14 : Cond.methodLink RL 14 yX11_job ∈ TS := tsm 409 (by decide +kernel) rfl
theorem wM_X11_58 : Cond.methodLink RX11 58 yX11_isOutside ∈ TS := tsm 413 (by decide +kernel) rfl
theorem wL_X11_62 : Cond.classLink RX11 62 "java/lang/IllegalArgumentException" ∈ TS := tsm 416 (by decide +kernel) rfl
theorem wM_X11_64 : Cond.methodLink RX11 64 ⟨"java/lang/IllegalArgumentException", "<init>", "()V"⟩ ∈ TS := tsm 458 (by decide +kernel) rfl
theorem wL_X11_69 : Cond.classLink RX11 69 "java/lang/IllegalStateException" ∈ TS := tsm 480 (by decide +kernel) rfl
theorem wM_X11_71 : Cond.methodLink RX11 71 ⟨"java/lang/IllegalStateException", "<init>", "()V"⟩ ∈ TS := tsm 489 (by decide +kernel) rfl
theorem wM_X11_72 : Cond.methodLink RX11 72 yX1_tell ∈ TS := tsm 495 (by decide +kernel) rfl
theorem wM_X1_51 : Cond.methodLink RX1 51 yX7_put ∈ TS := tsm 499 (by decide +kernel) rfl
theorem wM_L_20 : Cond.methodLink RL 20 yX11_after ∈ TS := tsm 503 (by decide +kernel) rfl
theorem wM_X11_76 : Cond.methodLink RX11 76 yX11_needJob ∈ TS := tsm 507 (by decide +kernel) rfl
theorem wL_X11_84 : Cond.classLink RX11 84 "java/lang/IndexOutOfBoundsException" ∈ TS := tsm 511 (by decide +kernel) rfl
theorem wM_X11_86 : Cond.methodLink RX11 86 ⟨"java/lang/IndexOutOfBoundsException", "<init>", "()V"⟩ ∈ TS := tsm 520 (by decide +kernel) rfl
theorem wM_X11_80 : Cond.methodLink RX11 80 yX1_letWait ∈ TS := tsm 526 (by decide +kernel) rfl
theorem wM_X1_55 : Cond.methodLink RX1 55 yX7_at ∈ TS := tsm 530 (by decide +kernel) rfl
theorem wM_L_24 : Cond.methodLink RL 24 yX11_lock ∈ TS := tsm 540 (by decide +kernel) rfl
theorem wM_X11_91 : Cond.methodLink RX11 91 yX7_at ∈ TS := tsm 544 (by decide +kernel) rfl
theorem wM_X11_97 : Cond.methodLink RX11 97 yX1_overlaps ∈ TS := tsm 545 (by decide +kernel) rfl
theorem wM_X11_103 : Cond.methodLink RX11 103 yX1_addStretch ∈ TS := tsm 549 (by decide +kernel) rfl
theorem wM_L_27 : Cond.methodLink RL 27 yX11_run ∈ TS := tsm 553 (by decide +kernel) rfl
theorem wM_X11_121 : Cond.methodLink RX11 121 yX10_follow ∈ TS := tsm 557 (by decide +kernel) rfl
theorem wM_X10_95 : Cond.methodLink RX10 95 yX10_begin ∈ TS := tsm 561 (by decide +kernel) rfl
theorem wM_X10_111 : Cond.methodLink RX10 111 yX6_begin ∈ TS := tsm 565 (by decide +kernel) rfl
theorem wM_X6_48 : Cond.methodLink RX6 48 yX7_at ∈ TS := tsm 569 (by decide +kernel) rfl
theorem wM_X6_52 : Cond.methodLink RX6 52 yX7_put ∈ TS := tsm 570 (by decide +kernel) rfl
theorem wM_X10_115 : Cond.methodLink RX10 115 yX2_empty ∈ TS := tsm 571 (by decide +kernel) rfl
theorem wM_X2_22 : Cond.methodLink RX2 22 yX3_empty ∈ TS := tsm 575 (by decide +kernel) rfl
theorem wM_X10_118 : Cond.methodLink RX10 118 yX7_fill ∈ TS := tsm 579 (by decide +kernel) rfl
theorem wM_X10_98 : Cond.methodLink RX10 98 yX6_isOver ∈ TS := tsm 583 (by decide +kernel) rfl
theorem wM_X10_102 : Cond.methodLink RX10 102 yX10_beginMoment ∈ TS := tsm 587 (by decide +kernel) rfl
theorem wM_X10_127 : Cond.methodLink RX10 127 yX2_rise ∈ TS := tsm 591 (by decide +kernel) rfl
theorem wM_X2_25 : Cond.methodLink RX2 25 yX3_moveTo ∈ TS := tsm 595 (by decide +kernel) rfl
theorem wM_X3_19 : Cond.methodLink RX3 19 yX3_join ∈ TS := tsm 599 (by decide +kernel) rfl
theorem wM_X10_132 : Cond.methodLink RX10 132 yX6_admit ∈ TS := tsm 603 (by decide +kernel) rfl
theorem wM_X10_136 : Cond.methodLink RX10 136 yX10_leastCount ∈ TS := tsm 607 (by decide +kernel) rfl
theorem wM_X10_170 : Cond.methodLink RX10 170 yX7_at ∈ TS := tsm 611 (by decide +kernel) rfl
theorem wM_X10_139 : Cond.methodLink RX10 139 yX10_welcome ∈ TS := tsm 612 (by decide +kernel) rfl
theorem wM_X10_155 : Cond.methodLink RX10 155 yX7_put ∈ TS := tsm 616 (by decide +kernel) rfl
theorem wM_X10_158 : Cond.methodLink RX10 158 yX10_usesLevels ∈ TS := tsm 617 (by decide +kernel) rfl
theorem wM_X10_161 : Cond.methodLink RX10 161 yX2_lineOf ∈ TS := tsm 621 (by decide +kernel) rfl
theorem wM_X10_165 : Cond.methodLink RX10 165 yX3_join ∈ TS := tsm 625 (by decide +kernel) rfl
theorem wM_X10_143 : Cond.methodLink RX10 143 yX10_endSlice ∈ TS := tsm 626 (by decide +kernel) rfl
theorem wM_X10_173 : Cond.methodLink RX10 173 ⟨"java/lang/Math", "min", "(II)I"⟩ ∈ TS := tsm 630 (by decide +kernel) rfl
theorem wM_X10_146 : Cond.methodLink RX10 146 yX4_look ∈ TS := tsm 633 (by decide +kernel) rfl
theorem wM_X4_34 : Cond.methodLink RX4 34 yX7_fill ∈ TS := tsm 637 (by decide +kernel) rfl
theorem wM_X4_43 : Cond.methodLink RX4 43 yX6_done ∈ TS := tsm 638 (by decide +kernel) rfl
theorem wM_X4_49 : Cond.methodLink RX4 49 yX1_lockAt ∈ TS := tsm 642 (by decide +kernel) rfl
theorem wM_X4_53 : Cond.methodLink RX4 53 yX7_put ∈ TS := tsm 646 (by decide +kernel) rfl
theorem wM_X4_60 : Cond.methodLink RX4 60 yX7_at ∈ TS := tsm 647 (by decide +kernel) rfl
theorem wM_X4_63 : Cond.methodLink RX4 63 yX6_isReady ∈ TS := tsm 648 (by decide +kernel) rfl
theorem wM_X4_67 : Cond.methodLink RX4 67 yX4_isBlocked ∈ TS := tsm 652 (by decide +kernel) rfl
theorem wM_X4_70 : Cond.methodLink RX4 70 ⟨"java/lang/Math", "max", "(II)I"⟩ ∈ TS := tsm 656 (by decide +kernel) rfl
theorem wM_X10_105 : Cond.methodLink RX10 105 yX10_choose ∈ TS := tsm 659 (by decide +kernel) rfl
theorem wM_X10_179 : Cond.methodLink RX10 179 yX2_lowest ∈ TS := tsm 663 (by decide +kernel) rfl
theorem wM_X2_29 : Cond.methodLink RX2 29 yX3_isEmpty ∈ TS := tsm 667 (by decide +kernel) rfl
theorem wM_X10_183 : Cond.methodLink RX10 183 yX3_takeFirst ∈ TS := tsm 671 (by decide +kernel) rfl
theorem wM_X10_186 : Cond.methodLink RX10 186 yX10_drawn ∈ TS := tsm 675 (by decide +kernel) rfl
theorem wM_X10_201 : Cond.methodLink RX10 201 yX6_isReady ∈ TS := tsm 679 (by decide +kernel) rfl
theorem wK_X10_208 : Cond.constant RX10 208 (Int32.ofInt 1103515245) ∈ TS := tsm 680 (by decide +kernel) rfl
theorem wM_X10_189 : Cond.methodLink RX10 189 yX4_greatest ∈ TS := tsm 681 (by decide +kernel) rfl
theorem wM_X10_192 : Cond.methodLink RX10 192 yX10_leastByKey ∈ TS := tsm 685 (by decide +kernel) rfl
theorem wM_X10_209 : Cond.methodLink RX10 209 yX10_keyOf ∈ TS := tsm 689 (by decide +kernel) rfl
theorem wM_X10_195 : Cond.methodLink RX10 195 yX10_turnOf ∈ TS := tsm 693 (by decide +kernel) rfl
theorem wM_X10_108 : Cond.methodLink RX10 108 yX10_pass ∈ TS := tsm 697 (by decide +kernel) rfl
theorem wM_X10_221 : Cond.methodLink RX10 221 yX0_note ∈ TS := tsm 701 (by decide +kernel) rfl
theorem wM_X0_28 : Cond.methodLink RX0 28 yX7_put ∈ TS := tsm 705 (by decide +kernel) rfl
theorem wM_X10_224 : Cond.methodLink RX10 224 yX10_countKept ∈ TS := tsm 706 (by decide +kernel) rfl
theorem wM_X10_236 : Cond.methodLink RX10 236 yX4_isBlocked ∈ TS := tsm 710 (by decide +kernel) rfl
theorem wM_X10_230 : Cond.methodLink RX10 230 yX7_add ∈ TS := tsm 711 (by decide +kernel) rfl
theorem wM_X10_227 : Cond.methodLink RX10 227 yX10_workAtChosen ∈ TS := tsm 715 (by decide +kernel) rfl
theorem wM_X10_233 : Cond.methodLink RX10 233 yX6_spendOn ∈ TS := tsm 719 (by decide +kernel) rfl
theorem wM_X6_62 : Cond.methodLink RX6 62 yX7_add ∈ TS := tsm 723 (by decide +kernel) rfl
theorem wM_L_31 : Cond.methodLink RL 31 yX11_running ∈ TS := tsm 724 (by decide +kernel) rfl
theorem wM_X11_134 : Cond.methodLink RX11 134 yX11_needMoment ∈ TS := tsm 728 (by decide +kernel) rfl
theorem wM_X11_137 : Cond.methodLink RX11 137 yX11_needRun ∈ TS := tsm 732 (by decide +kernel) rfl
theorem wM_X11_140 : Cond.methodLink RX11 140 yX0_doingAt ∈ TS := tsm 736 (by decide +kernel) rfl
theorem wM_X0_32 : Cond.methodLink RX0 32 yX7_at ∈ TS := tsm 740 (by decide +kernel) rfl
theorem wM_L_34 : Cond.methodLink RL 34 yX11_end ∈ TS := tsm 741 (by decide +kernel) rfl
theorem wM_L_37 : Cond.methodLink RL 37 yX11_busy ∈ TS := tsm 745 (by decide +kernel) rfl
theorem wM_X11_178 : Cond.methodLink RX11 178 yX0_countBusy ∈ TS := tsm 749 (by decide +kernel) rfl
theorem wM_X0_47 : Cond.methodLink RX0 47 yX0_beginsBusy ∈ TS := tsm 753 (by decide +kernel) rfl
theorem wM_X11_181 : Cond.methodLink RX11 181 yX0_busyBegin ∈ TS := tsm 757 (by decide +kernel) rfl
theorem wL_X11_184 : Cond.classLink RX11 184 "java/util/NoSuchElementException" ∈ TS := tsm 761 (by decide +kernel) rfl
theorem wM_X11_186 : Cond.methodLink RX11 186 ⟨"java/util/NoSuchElementException", "<init>", "()V"⟩ ∈ TS := tsm 770 (by decide +kernel) rfl
theorem wM_X11_187 : Cond.methodLink RX11 187 yX0_busyEnd ∈ TS := tsm 776 (by decide +kernel) rfl
theorem wM_L_41 : Cond.methodLink RL 41 yX11_isFeasible ∈ TS := tsm 780 (by decide +kernel) rfl
theorem wM_X11_202 : Cond.methodLink RX11 202 yX1_someWait ∈ TS := tsm 784 (by decide +kernel) rfl
theorem wM_X11_199 : Cond.methodLink RX11 199 yX6_countLate ∈ TS := tsm 788 (by decide +kernel) rfl
theorem wM_X6_74 : Cond.methodLink RX6 74 yX6_lateness ∈ TS := tsm 792 (by decide +kernel) rfl
theorem wM_X6_68 : Cond.methodLink RX6 68 ⟨"java/lang/Math", "max", "(II)I"⟩ ∈ TS := tsm 796 (by decide +kernel) rfl
theorem wM_L_45 : Cond.methodLink RL 45 yX11_full ∈ TS := tsm 797 (by decide +kernel) rfl
theorem wM_X11_206 : Cond.methodLink RX11 206 yX1_fullEnd ∈ TS := tsm 801 (by decide +kernel) rfl
theorem wM_X1_68 : Cond.methodLink RX1 68 ⟨"java/lang/Math", "max", "(II)I"⟩ ∈ TS := tsm 805 (by decide +kernel) rfl
theorem wM_X1_73 : Cond.methodLink RX1 73 yX1_workBetween ∈ TS := tsm 806 (by decide +kernel) rfl
theorem wM_X11_209 : Cond.methodLink RX11 209 yX1_workBetween ∈ TS := tsm 810 (by decide +kernel) rfl
theorem wM_L_48 : Cond.methodLink RL 48 yX11_task ∈ TS := tsm 811 (by decide +kernel) rfl
theorem wM_X11_213 : Cond.methodLink RX11 213 yX8_tell ∈ TS := tsm 815 (by decide +kernel) rfl
theorem wM_X8_30 : Cond.methodLink RX8 30 yX7_put ∈ TS := tsm 819 (by decide +kernel) rfl
theorem wM_L_52 : Cond.methodLink RL 52 yX11_response ∈ TS := tsm 820 (by decide +kernel) rfl
theorem wM_X11_223 : Cond.methodLink RX11 223 yX8_workAhead ∈ TS := tsm 824 (by decide +kernel) rfl
theorem wM_X8_34 : Cond.methodLink RX8 34 yX7_at ∈ TS := tsm 828 (by decide +kernel) rfl
theorem wM_X8_38 : Cond.methodLink RX8 38 yX8_goesAhead ∈ TS := tsm 829 (by decide +kernel) rfl
theorem wM_L_55 : Cond.methodLink RL 55 yX11_slowest ∈ TS := tsm 833 (by decide +kernel) rfl
theorem wM_X11_174 : Cond.methodLink RX11 174 yX11_reduced ∈ TS := tsm 837 (by decide +kernel) rfl
theorem wM_L_59 : Cond.methodLink RL 59 yX11_turns ∈ TS := tsm 840 (by decide +kernel) rfl
theorem wM_L_110 : Cond.methodLink RL 110 yX11_sumOfEnds ∈ TS := tsm 844 (by decide +kernel) rfl
theorem wM_X11_158 : Cond.methodLink RX11 158 yX6_endsTogether ∈ TS := tsm 848 (by decide +kernel) rfl
theorem wM_L_157 : Cond.methodLink RL 157 yX11_load ∈ TS := tsm 852 (by decide +kernel) rfl
theorem wM_L_168 : Cond.methodLink RL 168 yL_tasks ∈ TS := tsm 856 (by decide +kernel) rfl
theorem wM_L_75 : Cond.methodLink RL 75 yL_from ∈ TS := tsm 859 (by decide +kernel) rfl
theorem wM_L_8 : Cond.methodLink RL 8 yL_next ∈ TS := tsm 862 (by decide +kernel) rfl
theorem wK_L_7 : Cond.constant RL 7 (Int32.ofInt 1103515245) ∈ TS := tsm 865 (by decide +kernel) rfl
theorem wM_L_79 : Cond.methodLink RL 79 ⟨"java/lang/Math", "max", "(II)I"⟩ ∈ TS := tsm 866 (by decide +kernel) rfl
theorem wM_L_154 : Cond.methodLink RL 154 ⟨"java/lang/Math", "min", "(II)I"⟩ ∈ TS := tsm 867 (by decide +kernel) rfl
theorem wM_L_161 : Cond.methodLink RL 161 ⟨"java/lang/Math", "abs", "(D)D"⟩ ∈ TS := tsm 868 (by decide +kernel) rfl
theorem wM_L_172 : Cond.methodLink RL 172 yL_tells ∈ TS := tsm 879 (by decide +kernel) rfl
theorem wM_L_71 : Cond.methodLink RL 71 yX11_clear ∈ TS := tsm 882 (by decide +kernel) rfl
theorem wM_L_93 : Cond.methodLink RL 93 yL_locks ∈ TS := tsm 887 (by decide +kernel) rfl
theorem wM_L_176 : Cond.methodLink RL 176 yL_runs ∈ TS := tsm 890 (by decide +kernel) rfl
theorem wM_L_129 : Cond.methodLink RL 129 yL_walks ∈ TS := tsm 893 (by decide +kernel) rfl
theorem wM_L_97 : Cond.methodLink RL 97 yL_isReady ∈ TS := tsm 896 (by decide +kernel) rfl
theorem wM_L_101 : Cond.methodLink RL 101 yX11_left ∈ TS := tsm 899 (by decide +kernel) rfl
theorem wM_X11_143 : Cond.methodLink RX11 143 yX0_leftOf ∈ TS := tsm 903 (by decide +kernel) rfl
theorem wM_L_104 : Cond.methodLink RL 104 yX11_work ∈ TS := tsm 907 (by decide +kernel) rfl
theorem wM_L_107 : Cond.methodLink RL 107 yL_keeper ∈ TS := tsm 911 (by decide +kernel) rfl
theorem wM_L_113 : Cond.methodLink RL 113 yX11_checksum ∈ TS := tsm 914 (by decide +kernel) rfl
theorem wM_L_116 : Cond.methodLink RL 116 yX11_which ∈ TS := tsm 918 (by decide +kernel) rfl
theorem wM_X11_190 : Cond.methodLink RX11 190 yX0_isSameAs ∈ TS := tsm 922 (by decide +kernel) rfl
theorem wM_L_119 : Cond.methodLink RL 119 yX11_waits ∈ TS := tsm 926 (by decide +kernel) rfl
theorem wM_X11_165 : Cond.methodLink RX11 165 yX0_longestGap ∈ TS := tsm 930 (by decide +kernel) rfl
theorem wM_X0_41 : Cond.methodLink RX0 41 ⟨"java/lang/Math", "max", "(II)I"⟩ ∈ TS := tsm 934 (by decide +kernel) rfl
theorem wM_L_122 : Cond.methodLink RL 122 yX11_late ∈ TS := tsm 935 (by decide +kernel) rfl
theorem wM_X11_171 : Cond.methodLink RX11 171 yX6_lateness ∈ TS := tsm 939 (by decide +kernel) rfl
theorem wM_L_125 : Cond.methodLink RL 125 yX11_workShare ∈ TS := tsm 940 (by decide +kernel) rfl
theorem wM_X11_226 : Cond.methodLink RX11 226 yX0_countWork ∈ TS := tsm 944 (by decide +kernel) rfl
theorem wM_L_133 : Cond.methodLink RL 133 yL_isSlowest ∈ TS := tsm 948 (by decide +kernel) rfl
theorem wM_L_137 : Cond.methodLink RL 137 yL_gap ∈ TS := tsm 951 (by decide +kernel) rfl
theorem wM_L_140 : Cond.methodLink RL 140 yL_isShort ∈ TS := tsm 954 (by decide +kernel) rfl
theorem wM_L_151 : Cond.methodLink RL 151 yX11_blocked ∈ TS := tsm 957 (by decide +kernel) rfl
theorem wM_L_143 : Cond.methodLink RL 143 yL_noWaits ∈ TS := tsm 961 (by decide +kernel) rfl
theorem wM_L_147 : Cond.methodLink RL 147 yL_isFull ∈ TS := tsm 964 (by decide +kernel) rfl
theorem wM_L_180 : Cond.methodLink RL 180 yX11_errors ∈ TS := tsm 967 (by decide +kernel) rfl
theorem wM_X11_229 : Cond.methodLink RX11 229 yX11_haveRulesSameBusyTime ∈ TS := tsm 971 (by decide +kernel) rfl
theorem wM_X11_251 : Cond.methodLink RX11 251 yX0_isAsBusyAs ∈ TS := tsm 975 (by decide +kernel) rfl
theorem wM_X0_51 : Cond.methodLink RX0 51 yX0_doingAt ∈ TS := tsm 979 (by decide +kernel) rfl
theorem wM_X11_232 : Cond.methodLink RX11 232 yX11_keepsDeadlines ∈ TS := tsm 980 (by decide +kernel) rfl
theorem wM_X11_236 : Cond.methodLink RX11 236 yX11_hasLeastLeftLeastEnds ∈ TS := tsm 984 (by decide +kernel) rfl
theorem wM_X11_239 : Cond.methodLink RX11 239 yX11_doesSomeRuleKeepDeadlines ∈ TS := tsm 988 (by decide +kernel) rfl
theorem wM_X11_242 : Cond.methodLink RX11 242 yX11_full ∈ TS := tsm 992 (by decide +kernel) rfl
theorem wM_X11_245 : Cond.methodLink RX11 245 yX11_isRingFair ∈ TS := tsm 993 (by decide +kernel) rfl
theorem wM_X11_254 : Cond.methodLink RX11 254 yX0_firstWork ∈ TS := tsm 997 (by decide +kernel) rfl
theorem wM_X11_248 : Cond.methodLink RX11 248 yX11_isHighestFreeInTime ∈ TS := tsm 1001 (by decide +kernel) rfl
theorem wM_X11_257 : Cond.methodLink RX11 257 yX1_highest ∈ TS := tsm 1005 (by decide +kernel) rfl
theorem wM_X11_260 : Cond.methodLink RX11 260 yX1_mostKept ∈ TS := tsm 1009 (by decide +kernel) rfl
theorem wM_X1_64 : Cond.methodLink RX1 64 yX1_longestRest ∈ TS := tsm 1013 (by decide +kernel) rfl
theorem wM_L_183 : Cond.methodLink RL 183 yX11_two ∈ TS := tsm 1017 (by decide +kernel) rfl
theorem wM_X11_194 : Cond.methodLink RX11 194 yX5_workBy ∈ TS := tsm 1021 (by decide +kernel) rfl
theorem wM_X5_24 : Cond.methodLink RX5 24 yX6_begin ∈ TS := tsm 1025 (by decide +kernel) rfl
theorem wM_X5_27 : Cond.methodLink RX5 27 yX6_isOver ∈ TS := tsm 1026 (by decide +kernel) rfl
theorem wM_X5_31 : Cond.methodLink RX5 31 yX6_admit ∈ TS := tsm 1027 (by decide +kernel) rfl
theorem wM_X5_35 : Cond.methodLink RX5 35 yX5_least ∈ TS := tsm 1028 (by decide +kernel) rfl
theorem wM_X5_49 : Cond.methodLink RX5 49 yX6_isReady ∈ TS := tsm 1032 (by decide +kernel) rfl
theorem wM_X5_57 : Cond.methodLink RX5 57 yX7_at ∈ TS := tsm 1033 (by decide +kernel) rfl
theorem wM_X5_39 : Cond.methodLink RX5 39 yX6_spendOn ∈ TS := tsm 1034 (by decide +kernel) rfl
theorem wM_L_187 : Cond.methodLink RL 187 yX11_best ∈ TS := tsm 1035 (by decide +kernel) rfl
theorem wK_L_190 : Cond.constant RL 190 (Int32.ofInt 59452) ∈ TS := tsm 1039 (by decide +kernel) rfl
theorem kv_X0_note : KV 0 RX0 TX0 3 yX0_note cX0_note 2 none 1 := ⟨rfl, ⟨tsm 702 (by decide +kernel) rfl, tsm 703 (by decide +kernel) rfl, wI_X0, tsm 704 (by decide +kernel) rfl⟩, by decide +kernel⟩
theorem kv_X0_doingAt : KV 0 RX0 TX0 3 yX0_doingAt cX0_doingAt 2 (some .int) 1 := ⟨rfl, ⟨tsm 737 (by decide +kernel) rfl, tsm 738 (by decide +kernel) rfl, wI_X0, tsm 739 (by decide +kernel) rfl⟩, by decide +kernel⟩
theorem kv_X0_leftOf : KV 0 RX0 TX0 3 yX0_leftOf cX0_leftOf 5 (some .int) 2 := ⟨rfl, ⟨tsm 904 (by decide +kernel) rfl, tsm 905 (by decide +kernel) rfl, wI_X0, tsm 906 (by decide +kernel) rfl⟩, by decide +kernel⟩
theorem kv_X0_firstWork : KV 0 RX0 TX0 3 yX0_firstWork cX0_firstWork 3 (some .int) 1 := ⟨rfl, ⟨tsm 998 (by decide +kernel) rfl, tsm 999 (by decide +kernel) rfl, wI_X0, tsm 1000 (by decide +kernel) rfl⟩, by decide +kernel⟩
theorem kv_X0_longestGap : KV 0 RX0 TX0 3 yX0_longestGap cX0_longestGap 6 (some .int) 2 := ⟨rfl, ⟨tsm 931 (by decide +kernel) rfl, tsm 932 (by decide +kernel) rfl, wI_X0, tsm 933 (by decide +kernel) rfl⟩, by decide +kernel⟩
theorem kv_X0_countWork : KV 0 RX0 TX0 3 yX0_countWork cX0_countWork 3 (some .int) 0 := ⟨rfl, ⟨tsm 945 (by decide +kernel) rfl, tsm 946 (by decide +kernel) rfl, wI_X0, tsm 947 (by decide +kernel) rfl⟩, by decide +kernel⟩
theorem kv_X0_countBusy : KV 0 RX0 TX0 3 yX0_countBusy cX0_countBusy 3 (some .int) 0 := ⟨rfl, ⟨tsm 750 (by decide +kernel) rfl, tsm 751 (by decide +kernel) rfl, wI_X0, tsm 752 (by decide +kernel) rfl⟩, by decide +kernel⟩
theorem kv_X0_busyBegin : KV 0 RX0 TX0 3 yX0_busyBegin cX0_busyBegin 4 (some .int) 1 := ⟨rfl, ⟨tsm 758 (by decide +kernel) rfl, tsm 759 (by decide +kernel) rfl, wI_X0, tsm 760 (by decide +kernel) rfl⟩, by decide +kernel⟩
theorem kv_X0_busyEnd : KV 0 RX0 TX0 3 yX0_busyEnd cX0_busyEnd 3 (some .int) 1 := ⟨rfl, ⟨tsm 777 (by decide +kernel) rfl, tsm 778 (by decide +kernel) rfl, wI_X0, tsm 779 (by decide +kernel) rfl⟩, by decide +kernel⟩
theorem kv_X0_beginsBusy : KV 0 RX0 TX0 3 yX0_beginsBusy cX0_beginsBusy 2 (some .boolean) 1 := ⟨rfl, ⟨tsm 755 (by decide +kernel) rfl, tsm 18 (by decide +kernel) rfl, wI_X0, tsm 756 (by decide +kernel) rfl⟩, by decide +kernel⟩
theorem kv_X0_isSameAs : KV 0 RX0 TX0 3 yX0_isSameAs cX0_isSameAs 3 (some .boolean) 1 := ⟨rfl, ⟨tsm 923 (by decide +kernel) rfl, tsm 924 (by decide +kernel) rfl, wI_X0, tsm 925 (by decide +kernel) rfl⟩, by decide +kernel⟩
theorem kv_X0_isAsBusyAs : KV 0 RX0 TX0 3 yX0_isAsBusyAs cX0_isAsBusyAs 6 (some .boolean) 1 := ⟨rfl, ⟨tsm 976 (by decide +kernel) rfl, tsm 977 (by decide +kernel) rfl, wI_X0, tsm 978 (by decide +kernel) rfl⟩, by decide +kernel⟩
theorem kv_X1_tell : KV 1 RX1 TX1 11 yX1_tell cX1_tell 6 (some .int) 4 := ⟨rfl, ⟨tsm 496 (by decide +kernel) rfl, tsm 497 (by decide +kernel) rfl, wI_X1, tsm 498 (by decide +kernel) rfl⟩, by decide +kernel⟩
theorem kv_X1_letWait : KV 1 RX1 TX1 11 yX1_letWait cX1_letWait 4 (some .int) 2 := ⟨rfl, ⟨tsm 527 (by decide +kernel) rfl, tsm 528 (by decide +kernel) rfl, wI_X1, tsm 529 (by decide +kernel) rfl⟩, by decide +kernel⟩
theorem kv_X1_someWait : KV 1 RX1 TX1 11 yX1_someWait cX1_someWait 2 (some .boolean) 0 := ⟨rfl, ⟨tsm 785 (by decide +kernel) rfl, tsm 786 (by decide +kernel) rfl, wI_X1, tsm 787 (by decide +kernel) rfl⟩, by decide +kernel⟩
theorem kv_X1_addStretch : KV 1 RX1 TX1 11 yX1_addStretch cX1_addStretch 7 (some .int) 4 := ⟨rfl, ⟨tsm 550 (by decide +kernel) rfl, tsm 551 (by decide +kernel) rfl, wI_X1, tsm 552 (by decide +kernel) rfl⟩, by decide +kernel⟩
theorem kv_X1_overlaps : KV 1 RX1 TX1 11 yX1_overlaps cX1_overlaps 6 (some .boolean) 3 := ⟨rfl, ⟨tsm 546 (by decide +kernel) rfl, tsm 547 (by decide +kernel) rfl, wI_X1, tsm 548 (by decide +kernel) rfl⟩, by decide +kernel⟩
theorem kv_X1_lockAt : KV 1 RX1 TX1 11 yX1_lockAt cX1_lockAt 7 (some .int) 3 := ⟨rfl, ⟨tsm 643 (by decide +kernel) rfl, tsm 644 (by decide +kernel) rfl, wI_X1, tsm 645 (by decide +kernel) rfl⟩, by decide +kernel⟩
theorem kv_X1_highest : KV 1 RX1 TX1 11 yX1_highest cX1_highest 5 (some .int) 0 := ⟨rfl, ⟨tsm 1006 (by decide +kernel) rfl, tsm 1007 (by decide +kernel) rfl, wI_X1, tsm 1008 (by decide +kernel) rfl⟩, by decide +kernel⟩
theorem kv_X1_mostKept : KV 1 RX1 TX1 11 yX1_mostKept cX1_mostKept 5 (some .int) 1 := ⟨rfl, ⟨tsm 1010 (by decide +kernel) rfl, tsm 1011 (by decide +kernel) rfl, wI_X1, tsm 1012 (by decide +kernel) rfl⟩, by decide +kernel⟩
theorem kv_X1_longestRest : KV 1 RX1 TX1 11 yX1_longestRest cX1_longestRest 7 (some .int) 2 := ⟨rfl, ⟨tsm 1015 (by decide +kernel) rfl, tsm 26 (by decide +kernel) rfl, wI_X1, tsm 1016 (by decide +kernel) rfl⟩, by decide +kernel⟩
theorem kv_X1_fullEnd : KV 1 RX1 TX1 11 yX1_fullEnd cX1_fullEnd 6 (some .int) 1 := ⟨rfl, ⟨tsm 802 (by decide +kernel) rfl, tsm 803 (by decide +kernel) rfl, wI_X1, tsm 804 (by decide +kernel) rfl⟩, by decide +kernel⟩
theorem kv_X1_workBetween : KV 1 RX1 TX1 11 yX1_workBetween cX1_workBetween 6 (some .int) 2 := ⟨rfl, ⟨tsm 807 (by decide +kernel) rfl, tsm 808 (by decide +kernel) rfl, wI_X1, tsm 809 (by decide +kernel) rfl⟩, by decide +kernel⟩
theorem kv_X2_empty : KV 2 RX2 TX2 3 yX2_empty cX2_empty 1 none 0 := ⟨rfl, ⟨tsm 572 (by decide +kernel) rfl, tsm 573 (by decide +kernel) rfl, wI_X2, tsm 574 (by decide +kernel) rfl⟩, by decide +kernel⟩
theorem kv_X2_lineOf : KV 2 RX2 TX2 3 yX2_lineOf cX2_lineOf 2 (some (.object "Slicehouse$Line")) 1 := ⟨rfl, ⟨tsm 622 (by decide +kernel) rfl, tsm 623 (by decide +kernel) rfl, wI_X2, tsm 624 (by decide +kernel) rfl⟩, by decide +kernel⟩
theorem kv_X2_rise : KV 2 RX2 TX2 3 yX2_rise cX2_rise 1 none 0 := ⟨rfl, ⟨tsm 592 (by decide +kernel) rfl, tsm 593 (by decide +kernel) rfl, wI_X2, tsm 594 (by decide +kernel) rfl⟩, by decide +kernel⟩
theorem kv_X2_lowest : KV 2 RX2 TX2 3 yX2_lowest cX2_lowest 1 (some .int) 0 := ⟨rfl, ⟨tsm 664 (by decide +kernel) rfl, tsm 665 (by decide +kernel) rfl, wI_X2, tsm 666 (by decide +kernel) rfl⟩, by decide +kernel⟩
theorem kv_X3_empty : KV 3 RX3 TX3 2 yX3_empty cX3_empty 1 none 0 := ⟨rfl, ⟨tsm 576 (by decide +kernel) rfl, tsm 577 (by decide +kernel) rfl, wI_X3, tsm 578 (by decide +kernel) rfl⟩, by decide +kernel⟩
theorem kv_X3_isEmpty : KV 3 RX3 TX3 2 yX3_isEmpty cX3_isEmpty 1 (some .boolean) 0 := ⟨rfl, ⟨tsm 668 (by decide +kernel) rfl, tsm 669 (by decide +kernel) rfl, wI_X3, tsm 670 (by decide +kernel) rfl⟩, by decide +kernel⟩
theorem kv_X3_join : KV 3 RX3 TX3 2 yX3_join cX3_join 2 none 1 := ⟨rfl, ⟨tsm 600 (by decide +kernel) rfl, tsm 601 (by decide +kernel) rfl, wI_X3, tsm 602 (by decide +kernel) rfl⟩, by decide +kernel⟩
theorem kv_X3_takeFirst : KV 3 RX3 TX3 2 yX3_takeFirst cX3_takeFirst 3 (some .int) 0 := ⟨rfl, ⟨tsm 672 (by decide +kernel) rfl, tsm 673 (by decide +kernel) rfl, wI_X3, tsm 674 (by decide +kernel) rfl⟩, by decide +kernel⟩
theorem kv_X3_moveTo : KV 3 RX3 TX3 2 yX3_moveTo cX3_moveTo 3 none 1 := ⟨rfl, ⟨tsm 596 (by decide +kernel) rfl, tsm 597 (by decide +kernel) rfl, wI_X3, tsm 598 (by decide +kernel) rfl⟩, by decide +kernel⟩
theorem kv_X4_look : KV 4 RX4 TX4 5 yX4_look cX4_look 5 none 1 := ⟨rfl, ⟨tsm 634 (by decide +kernel) rfl, tsm 635 (by decide +kernel) rfl, wI_X4, tsm 636 (by decide +kernel) rfl⟩, by decide +kernel⟩
theorem kv_X4_isBlocked : KV 4 RX4 TX4 5 yX4_isBlocked cX4_isBlocked 2 (some .boolean) 1 := ⟨rfl, ⟨tsm 653 (by decide +kernel) rfl, tsm 654 (by decide +kernel) rfl, wI_X4, tsm 655 (by decide +kernel) rfl⟩, by decide +kernel⟩
theorem kv_X4_greatest : KV 4 RX4 TX4 5 yX4_greatest cX4_greatest 4 (some .int) 0 := ⟨rfl, ⟨tsm 682 (by decide +kernel) rfl, tsm 683 (by decide +kernel) rfl, wI_X4, tsm 684 (by decide +kernel) rfl⟩, by decide +kernel⟩
theorem kv_X5_workBy : KV 5 RX5 TX5 2 yX5_workBy cX5_workBy 5 none 1 := ⟨rfl, ⟨tsm 1022 (by decide +kernel) rfl, tsm 1023 (by decide +kernel) rfl, wI_X5, tsm 1024 (by decide +kernel) rfl⟩, by decide +kernel⟩
theorem kv_X5_least : KV 5 RX5 TX5 2 yX5_least cX5_least 7 (some .int) 2 := ⟨rfl, ⟨tsm 1030 (by decide +kernel) rfl, tsm 27 (by decide +kernel) rfl, wI_X5, tsm 1031 (by decide +kernel) rfl⟩, by decide +kernel⟩
theorem kv_X6_begin : KV 6 RX6 TX6 7 yX6_begin cX6_begin 2 none 0 := ⟨rfl, ⟨tsm 566 (by decide +kernel) rfl, tsm 567 (by decide +kernel) rfl, wI_X6, tsm 568 (by decide +kernel) rfl⟩, by decide +kernel⟩
theorem kv_X6_admit : KV 6 RX6 TX6 7 yX6_admit cX6_admit 6 (some .int) 1 := ⟨rfl, ⟨tsm 604 (by decide +kernel) rfl, tsm 605 (by decide +kernel) rfl, wI_X6, tsm 606 (by decide +kernel) rfl⟩, by decide +kernel⟩
theorem kv_X6_isReady : KV 6 RX6 TX6 7 yX6_isReady cX6_isReady 2 (some .boolean) 1 := ⟨rfl, ⟨tsm 649 (by decide +kernel) rfl, tsm 650 (by decide +kernel) rfl, wI_X6, tsm 651 (by decide +kernel) rfl⟩, by decide +kernel⟩
theorem kv_X6_isOver : KV 6 RX6 TX6 7 yX6_isOver cX6_isOver 1 (some .boolean) 0 := ⟨rfl, ⟨tsm 584 (by decide +kernel) rfl, tsm 585 (by decide +kernel) rfl, wI_X6, tsm 586 (by decide +kernel) rfl⟩, by decide +kernel⟩
theorem kv_X6_done : KV 6 RX6 TX6 7 yX6_done cX6_done 2 (some .int) 1 := ⟨rfl, ⟨tsm 639 (by decide +kernel) rfl, tsm 640 (by decide +kernel) rfl, wI_X6, tsm 641 (by decide +kernel) rfl⟩, by decide +kernel⟩
theorem kv_X6_spendOn : KV 6 RX6 TX6 7 yX6_spendOn cX6_spendOn 3 none 2 := ⟨rfl, ⟨tsm 720 (by decide +kernel) rfl, tsm 721 (by decide +kernel) rfl, wI_X6, tsm 722 (by decide +kernel) rfl⟩, by decide +kernel⟩
theorem kv_X6_endsTogether : KV 6 RX6 TX6 7 yX6_endsTogether cX6_endsTogether 3 (some .int) 0 := ⟨rfl, ⟨tsm 849 (by decide +kernel) rfl, tsm 850 (by decide +kernel) rfl, wI_X6, tsm 851 (by decide +kernel) rfl⟩, by decide +kernel⟩
theorem kv_X6_lateness : KV 6 RX6 TX6 7 yX6_lateness cX6_lateness 3 (some .int) 1 := ⟨rfl, ⟨tsm 793 (by decide +kernel) rfl, tsm 794 (by decide +kernel) rfl, wI_X6, tsm 795 (by decide +kernel) rfl⟩, by decide +kernel⟩
theorem kv_X6_countLate : KV 6 RX6 TX6 7 yX6_countLate cX6_countLate 3 (some .int) 0 := ⟨rfl, ⟨tsm 789 (by decide +kernel) rfl, tsm 790 (by decide +kernel) rfl, wI_X6, tsm 791 (by decide +kernel) rfl⟩, by decide +kernel⟩
theorem kv_X7_at : KV 7 RX7 TX7 1 yX7_at cX7_at 2 (some .int) 1 := ⟨rfl, ⟨tsm 531 (by decide +kernel) rfl, tsm 532 (by decide +kernel) rfl, wI_X7, tsm 533 (by decide +kernel) rfl⟩, by decide +kernel⟩
theorem kv_X7_put : KV 7 RX7 TX7 1 yX7_put cX7_put 3 none 2 := ⟨rfl, ⟨tsm 500 (by decide +kernel) rfl, tsm 501 (by decide +kernel) rfl, wI_X7, tsm 502 (by decide +kernel) rfl⟩, by decide +kernel⟩
theorem kv_X7_add : KV 7 RX7 TX7 1 yX7_add cX7_add 3 none 2 := ⟨rfl, ⟨tsm 712 (by decide +kernel) rfl, tsm 713 (by decide +kernel) rfl, wI_X7, tsm 714 (by decide +kernel) rfl⟩, by decide +kernel⟩
theorem kv_X7_fill : KV 7 RX7 TX7 1 yX7_fill cX7_fill 3 none 1 := ⟨rfl, ⟨tsm 580 (by decide +kernel) rfl, tsm 581 (by decide +kernel) rfl, wI_X7, tsm 582 (by decide +kernel) rfl⟩, by decide +kernel⟩
theorem kv_X8_tell : KV 8 RX8 TX8 4 yX8_tell cX8_tell 5 (some .int) 3 := ⟨rfl, ⟨tsm 816 (by decide +kernel) rfl, tsm 817 (by decide +kernel) rfl, wI_X8, tsm 818 (by decide +kernel) rfl⟩, by decide +kernel⟩
theorem kv_X8_workAhead : KV 8 RX8 TX8 4 yX8_workAhead cX8_workAhead 6 (some .int) 2 := ⟨rfl, ⟨tsm 825 (by decide +kernel) rfl, tsm 826 (by decide +kernel) rfl, wI_X8, tsm 827 (by decide +kernel) rfl⟩, by decide +kernel⟩
theorem kv_X8_goesAhead : KV 8 RX8 TX8 4 yX8_goesAhead cX8_goesAhead 4 (some .boolean) 2 := ⟨rfl, ⟨tsm 831 (by decide +kernel) rfl, tsm 19 (by decide +kernel) rfl, wI_X8, tsm 832 (by decide +kernel) rfl⟩, by decide +kernel⟩
theorem kv_X10_follow : KV 10 RX10 TX10 18 yX10_follow cX10_follow 6 none 4 := ⟨rfl, ⟨tsm 558 (by decide +kernel) rfl, tsm 559 (by decide +kernel) rfl, wI_X10, tsm 560 (by decide +kernel) rfl⟩, by decide +kernel⟩
theorem kv_X10_begin : KV 10 RX10 TX10 18 yX10_begin cX10_begin 1 none 0 := ⟨rfl, ⟨tsm 563 (by decide +kernel) rfl, tsm 2 (by decide +kernel) rfl, wI_X10, tsm 564 (by decide +kernel) rfl⟩, by decide +kernel⟩
theorem kv_X10_beginMoment : KV 10 RX10 TX10 18 yX10_beginMoment cX10_beginMoment 4 none 1 := ⟨rfl, ⟨tsm 589 (by decide +kernel) rfl, tsm 3 (by decide +kernel) rfl, wI_X10, tsm 590 (by decide +kernel) rfl⟩, by decide +kernel⟩
theorem kv_X10_welcome : KV 10 RX10 TX10 18 yX10_welcome cX10_welcome 4 none 2 := ⟨rfl, ⟨tsm 614 (by decide +kernel) rfl, tsm 5 (by decide +kernel) rfl, wI_X10, tsm 615 (by decide +kernel) rfl⟩, by decide +kernel⟩
theorem kv_X10_leastCount : KV 10 RX10 TX10 18 yX10_leastCount cX10_leastCount 4 (some .int) 1 := ⟨rfl, ⟨tsm 609 (by decide +kernel) rfl, tsm 4 (by decide +kernel) rfl, wI_X10, tsm 610 (by decide +kernel) rfl⟩, by decide +kernel⟩
theorem kv_X10_endSlice : KV 10 RX10 TX10 18 yX10_endSlice cX10_endSlice 2 none 0 := ⟨rfl, ⟨tsm 628 (by decide +kernel) rfl, tsm 7 (by decide +kernel) rfl, wI_X10, tsm 629 (by decide +kernel) rfl⟩, by decide +kernel⟩
theorem kv_X10_usesLevels : KV 10 RX10 TX10 18 yX10_usesLevels cX10_usesLevels 1 (some .boolean) 0 := ⟨rfl, ⟨tsm 619 (by decide +kernel) rfl, tsm 6 (by decide +kernel) rfl, wI_X10, tsm 620 (by decide +kernel) rfl⟩, by decide +kernel⟩
theorem kv_X10_choose : KV 10 RX10 TX10 18 yX10_choose cX10_choose 1 none 0 := ⟨rfl, ⟨tsm 661 (by decide +kernel) rfl, tsm 8 (by decide +kernel) rfl, wI_X10, tsm 662 (by decide +kernel) rfl⟩, by decide +kernel⟩
theorem kv_X10_turnOf : KV 10 RX10 TX10 18 yX10_turnOf cX10_turnOf 2 (some .int) 1 := ⟨rfl, ⟨tsm 695 (by decide +kernel) rfl, tsm 12 (by decide +kernel) rfl, wI_X10, tsm 696 (by decide +kernel) rfl⟩, by decide +kernel⟩
theorem kv_X10_drawn : KV 10 RX10 TX10 18 yX10_drawn cX10_drawn 4 (some .int) 0 := ⟨rfl, ⟨tsm 677 (by decide +kernel) rfl, tsm 9 (by decide +kernel) rfl, wI_X10, tsm 678 (by decide +kernel) rfl⟩, by decide +kernel⟩
theorem kv_X10_leastByKey : KV 10 RX10 TX10 18 yX10_leastByKey cX10_leastByKey 5 (some .int) 0 := ⟨rfl, ⟨tsm 687 (by decide +kernel) rfl, tsm 10 (by decide +kernel) rfl, wI_X10, tsm 688 (by decide +kernel) rfl⟩, by decide +kernel⟩
theorem kv_X10_keyOf : KV 10 RX10 TX10 18 yX10_keyOf cX10_keyOf 2 (some .int) 1 := ⟨rfl, ⟨tsm 691 (by decide +kernel) rfl, tsm 11 (by decide +kernel) rfl, wI_X10, tsm 692 (by decide +kernel) rfl⟩, by decide +kernel⟩
theorem kv_X10_pass : KV 10 RX10 TX10 18 yX10_pass cX10_pass 2 none 1 := ⟨rfl, ⟨tsm 699 (by decide +kernel) rfl, tsm 13 (by decide +kernel) rfl, wI_X10, tsm 700 (by decide +kernel) rfl⟩, by decide +kernel⟩
theorem kv_X10_workAtChosen : KV 10 RX10 TX10 18 yX10_workAtChosen cX10_workAtChosen 3 none 1 := ⟨rfl, ⟨tsm 717 (by decide +kernel) rfl, tsm 15 (by decide +kernel) rfl, wI_X10, tsm 718 (by decide +kernel) rfl⟩, by decide +kernel⟩
theorem kv_X10_countKept : KV 10 RX10 TX10 18 yX10_countKept cX10_countKept 3 none 0 := ⟨rfl, ⟨tsm 708 (by decide +kernel) rfl, tsm 14 (by decide +kernel) rfl, wI_X10, tsm 709 (by decide +kernel) rfl⟩, by decide +kernel⟩
theorem kv_X11_job : KV 11 RX11 TX11 8 yX11_job cX11_job 5 (some .int) 4 := ⟨rfl, ⟨tsm 410 (by decide +kernel) rfl, tsm 411 (by decide +kernel) rfl, wI_X11, tsm 412 (by decide +kernel) rfl⟩, by decide +kernel⟩
theorem kv_X11_after : KV 11 RX11 TX11 8 yX11_after cX11_after 3 (some .int) 2 := ⟨rfl, ⟨tsm 504 (by decide +kernel) rfl, tsm 505 (by decide +kernel) rfl, wI_X11, tsm 506 (by decide +kernel) rfl⟩, by decide +kernel⟩
theorem kv_X11_lock : KV 11 RX11 TX11 8 yX11_lock cX11_lock 5 (some .int) 4 := ⟨rfl, ⟨tsm 541 (by decide +kernel) rfl, tsm 542 (by decide +kernel) rfl, wI_X11, tsm 543 (by decide +kernel) rfl⟩, by decide +kernel⟩
theorem kv_X11_turns : KV 11 RX11 TX11 8 yX11_turns cX11_turns 7 (some .int) 5 := ⟨rfl, ⟨tsm 841 (by decide +kernel) rfl, tsm 842 (by decide +kernel) rfl, wI_X11, tsm 843 (by decide +kernel) rfl⟩, by decide +kernel⟩
theorem kv_X11_clear : KV 11 RX11 TX11 8 yX11_clear cX11_clear 2 (some .int) 0 := ⟨rfl, ⟨tsm 883 (by decide +kernel) rfl, tsm 884 (by decide +kernel) rfl, wI_X11, tsm 885 (by decide +kernel) rfl⟩, by decide +kernel⟩
theorem kv_X11_run : KV 11 RX11 TX11 8 yX11_run cX11_run 2 (some .int) 1 := ⟨rfl, ⟨tsm 554 (by decide +kernel) rfl, tsm 555 (by decide +kernel) rfl, wI_X11, tsm 556 (by decide +kernel) rfl⟩, by decide +kernel⟩
theorem kv_X11_running : KV 11 RX11 TX11 8 yX11_running cX11_running 2 (some .int) 1 := ⟨rfl, ⟨tsm 725 (by decide +kernel) rfl, tsm 726 (by decide +kernel) rfl, wI_X11, tsm 727 (by decide +kernel) rfl⟩, by decide +kernel⟩
theorem kv_X11_left : KV 11 RX11 TX11 8 yX11_left cX11_left 3 (some .int) 2 := ⟨rfl, ⟨tsm 900 (by decide +kernel) rfl, tsm 901 (by decide +kernel) rfl, wI_X11, tsm 902 (by decide +kernel) rfl⟩, by decide +kernel⟩
theorem kv_X11_work : KV 11 RX11 TX11 8 yX11_work cX11_work 4 (some .int) 1 := ⟨rfl, ⟨tsm 908 (by decide +kernel) rfl, tsm 909 (by decide +kernel) rfl, wI_X11, tsm 910 (by decide +kernel) rfl⟩, by decide +kernel⟩
theorem kv_X11_end : KV 11 RX11 TX11 8 yX11_end cX11_end 2 (some .int) 1 := ⟨rfl, ⟨tsm 742 (by decide +kernel) rfl, tsm 743 (by decide +kernel) rfl, wI_X11, tsm 744 (by decide +kernel) rfl⟩, by decide +kernel⟩
theorem kv_X11_sumOfEnds : KV 11 RX11 TX11 8 yX11_sumOfEnds cX11_sumOfEnds 1 (some .int) 0 := ⟨rfl, ⟨tsm 845 (by decide +kernel) rfl, tsm 846 (by decide +kernel) rfl, wI_X11, tsm 847 (by decide +kernel) rfl⟩, by decide +kernel⟩
theorem kv_X11_waits : KV 11 RX11 TX11 8 yX11_waits cX11_waits 2 (some .int) 1 := ⟨rfl, ⟨tsm 927 (by decide +kernel) rfl, tsm 928 (by decide +kernel) rfl, wI_X11, tsm 929 (by decide +kernel) rfl⟩, by decide +kernel⟩
theorem kv_X11_blocked : KV 11 RX11 TX11 8 yX11_blocked cX11_blocked 2 (some .int) 1 := ⟨rfl, ⟨tsm 958 (by decide +kernel) rfl, tsm 959 (by decide +kernel) rfl, wI_X11, tsm 960 (by decide +kernel) rfl⟩, by decide +kernel⟩
theorem kv_X11_late : KV 11 RX11 TX11 8 yX11_late cX11_late 2 (some .int) 1 := ⟨rfl, ⟨tsm 936 (by decide +kernel) rfl, tsm 937 (by decide +kernel) rfl, wI_X11, tsm 938 (by decide +kernel) rfl⟩, by decide +kernel⟩
theorem kv_X11_slowest : KV 11 RX11 TX11 8 yX11_slowest cX11_slowest 7 (some .int) 1 := ⟨rfl, ⟨tsm 834 (by decide +kernel) rfl, tsm 835 (by decide +kernel) rfl, wI_X11, tsm 836 (by decide +kernel) rfl⟩, by decide +kernel⟩
theorem kv_X11_busy : KV 11 RX11 TX11 8 yX11_busy cX11_busy 4 (some .int) 2 := ⟨rfl, ⟨tsm 746 (by decide +kernel) rfl, tsm 747 (by decide +kernel) rfl, wI_X11, tsm 748 (by decide +kernel) rfl⟩, by decide +kernel⟩
theorem kv_X11_checksum : KV 11 RX11 TX11 8 yX11_checksum cX11_checksum 3 (some .int) 0 := ⟨rfl, ⟨tsm 915 (by decide +kernel) rfl, tsm 916 (by decide +kernel) rfl, wI_X11, tsm 917 (by decide +kernel) rfl⟩, by decide +kernel⟩
theorem kv_X11_which : KV 11 RX11 TX11 8 yX11_which cX11_which 3 (some .int) 0 := ⟨rfl, ⟨tsm 919 (by decide +kernel) rfl, tsm 920 (by decide +kernel) rfl, wI_X11, tsm 921 (by decide +kernel) rfl⟩, by decide +kernel⟩
theorem kv_X11_best : KV 11 RX11 TX11 8 yX11_best cX11_best 5 (some .int) 0 := ⟨rfl, ⟨tsm 1036 (by decide +kernel) rfl, tsm 1037 (by decide +kernel) rfl, wI_X11, tsm 1038 (by decide +kernel) rfl⟩, by decide +kernel⟩
theorem kv_X11_two : KV 11 RX11 TX11 8 yX11_two cX11_two 3 (some .int) 2 := ⟨rfl, ⟨tsm 1018 (by decide +kernel) rfl, tsm 1019 (by decide +kernel) rfl, wI_X11, tsm 1020 (by decide +kernel) rfl⟩, by decide +kernel⟩
theorem kv_X11_isFeasible : KV 11 RX11 TX11 8 yX11_isFeasible cX11_isFeasible 1 (some .boolean) 0 := ⟨rfl, ⟨tsm 781 (by decide +kernel) rfl, tsm 782 (by decide +kernel) rfl, wI_X11, tsm 783 (by decide +kernel) rfl⟩, by decide +kernel⟩
theorem kv_X11_full : KV 11 RX11 TX11 8 yX11_full cX11_full 4 (some .int) 1 := ⟨rfl, ⟨tsm 798 (by decide +kernel) rfl, tsm 799 (by decide +kernel) rfl, wI_X11, tsm 800 (by decide +kernel) rfl⟩, by decide +kernel⟩
theorem kv_X11_task : KV 11 RX11 TX11 8 yX11_task cX11_task 4 (some .int) 3 := ⟨rfl, ⟨tsm 812 (by decide +kernel) rfl, tsm 813 (by decide +kernel) rfl, wI_X11, tsm 814 (by decide +kernel) rfl⟩, by decide +kernel⟩
theorem kv_X11_load : KV 11 RX11 TX11 8 yX11_load cX11_load 8 (some .long) 1 := ⟨rfl, ⟨tsm 853 (by decide +kernel) rfl, tsm 854 (by decide +kernel) rfl, wI_X11, tsm 855 (by decide +kernel) rfl⟩, by decide +kernel⟩
theorem kv_X11_response : KV 11 RX11 TX11 8 yX11_response cX11_response 3 (some .int) 1 := ⟨rfl, ⟨tsm 821 (by decide +kernel) rfl, tsm 822 (by decide +kernel) rfl, wI_X11, tsm 823 (by decide +kernel) rfl⟩, by decide +kernel⟩
theorem kv_X11_workShare : KV 11 RX11 TX11 8 yX11_workShare cX11_workShare 1 (some .float) 0 := ⟨rfl, ⟨tsm 941 (by decide +kernel) rfl, tsm 942 (by decide +kernel) rfl, wI_X11, tsm 943 (by decide +kernel) rfl⟩, by decide +kernel⟩
theorem kv_X11_errors : KV 11 RX11 TX11 8 yX11_errors cX11_errors 3 (some .int) 0 := ⟨rfl, ⟨tsm 968 (by decide +kernel) rfl, tsm 969 (by decide +kernel) rfl, wI_X11, tsm 970 (by decide +kernel) rfl⟩, by decide +kernel⟩
theorem kv_X11_haveRulesSameBusyTime : KV 11 RX11 TX11 8 yX11_haveRulesSameBusyTime cX11_haveRulesSameBusyTime 2 (some .boolean) 0 := ⟨rfl, ⟨tsm 973 (by decide +kernel) rfl, tsm 20 (by decide +kernel) rfl, wI_X11, tsm 974 (by decide +kernel) rfl⟩, by decide +kernel⟩
theorem kv_X11_hasLeastLeftLeastEnds : KV 11 RX11 TX11 8 yX11_hasLeastLeftLeastEnds cX11_hasLeastLeftLeastEnds 3 (some .boolean) 0 := ⟨rfl, ⟨tsm 986 (by decide +kernel) rfl, tsm 22 (by decide +kernel) rfl, wI_X11, tsm 987 (by decide +kernel) rfl⟩, by decide +kernel⟩
theorem kv_X11_keepsDeadlines : KV 11 RX11 TX11 8 yX11_keepsDeadlines cX11_keepsDeadlines 2 (some .boolean) 1 := ⟨rfl, ⟨tsm 982 (by decide +kernel) rfl, tsm 21 (by decide +kernel) rfl, wI_X11, tsm 983 (by decide +kernel) rfl⟩, by decide +kernel⟩
theorem kv_X11_doesSomeRuleKeepDeadlines : KV 11 RX11 TX11 8 yX11_doesSomeRuleKeepDeadlines cX11_doesSomeRuleKeepDeadlines 2 (some .boolean) 0 := ⟨rfl, ⟨tsm 990 (by decide +kernel) rfl, tsm 23 (by decide +kernel) rfl, wI_X11, tsm 991 (by decide +kernel) rfl⟩, by decide +kernel⟩
theorem kv_X11_isRingFair : KV 11 RX11 TX11 8 yX11_isRingFair cX11_isRingFair 3 (some .boolean) 0 := ⟨rfl, ⟨tsm 995 (by decide +kernel) rfl, tsm 24 (by decide +kernel) rfl, wI_X11, tsm 996 (by decide +kernel) rfl⟩, by decide +kernel⟩
theorem kv_X11_isHighestFreeInTime : KV 11 RX11 TX11 8 yX11_isHighestFreeInTime cX11_isHighestFreeInTime 2 (some .boolean) 0 := ⟨rfl, ⟨tsm 1003 (by decide +kernel) rfl, tsm 25 (by decide +kernel) rfl, wI_X11, tsm 1004 (by decide +kernel) rfl⟩, by decide +kernel⟩
theorem kv_X11_needJob : KV 11 RX11 TX11 8 yX11_needJob cX11_needJob 2 none 1 := ⟨rfl, ⟨tsm 509 (by decide +kernel) rfl, tsm 1 (by decide +kernel) rfl, wI_X11, tsm 510 (by decide +kernel) rfl⟩, by decide +kernel⟩
theorem kv_X11_needMoment : KV 11 RX11 TX11 8 yX11_needMoment cX11_needMoment 2 none 1 := ⟨rfl, ⟨tsm 730 (by decide +kernel) rfl, tsm 16 (by decide +kernel) rfl, wI_X11, tsm 731 (by decide +kernel) rfl⟩, by decide +kernel⟩
theorem kv_X11_needRun : KV 11 RX11 TX11 8 yX11_needRun cX11_needRun 1 none 0 := ⟨rfl, ⟨tsm 734 (by decide +kernel) rfl, tsm 17 (by decide +kernel) rfl, wI_X11, tsm 735 (by decide +kernel) rfl⟩, by decide +kernel⟩
theorem kv_X11_isOutside : KS RX11 yX11_isOutside cX11_isOutside 3 (some .boolean) 3 := ⟨⟨tsm 414 (by decide +kernel) rfl, wI_X11, tsm 415 (by decide +kernel) rfl⟩, by decide +kernel⟩
theorem kv_X11_reduced : KS RX11 yX11_reduced cX11_reduced 11 (some .long) 2 := ⟨⟨tsm 838 (by decide +kernel) rfl, wI_X11, tsm 839 (by decide +kernel) rfl⟩, by decide +kernel⟩
theorem kv_L_next : KS RL yL_next cL_next 1 (some .int) 1 := ⟨⟨tsm 863 (by decide +kernel) rfl, wI_L, tsm 864 (by decide +kernel) rfl⟩, by decide +kernel⟩
theorem kv_L_from : KS RL yL_from cL_from 3 (some .int) 3 := ⟨⟨tsm 860 (by decide +kernel) rfl, wI_L, tsm 861 (by decide +kernel) rfl⟩, by decide +kernel⟩
set_option maxRecDepth 100000 in
theorem kv_L_tells : KS RL yL_tells cL_tells 11 (some .boolean) 5 := ⟨⟨tsm 880 (by decide +kernel) rfl, wI_L, tsm 881 rfl rfl⟩, by decide +kernel⟩
set_option maxRecDepth 100000 in
theorem kv_L_locks : KS RL yL_locks cL_locks 10 (some .boolean) 4 := ⟨⟨tsm 888 (by decide +kernel) rfl, wI_L, tsm 889 rfl rfl⟩, by decide +kernel⟩
theorem kv_L_isReady : KS RL yL_isReady cL_isReady 6 (some .boolean) 4 := ⟨⟨tsm 897 (by decide +kernel) rfl, wI_L, tsm 898 (by decide +kernel) rfl⟩, by decide +kernel⟩
set_option maxRecDepth 100000 in
theorem kv_L_keeper : KS RL yL_keeper cL_keeper 8 (some .int) 3 := ⟨⟨tsm 912 (by decide +kernel) rfl, wI_L, tsm 913 rfl rfl⟩, by decide +kernel⟩
set_option maxRecDepth 100000 in
theorem kv_L_walks : KS RL yL_walks cL_walks 20 (some .boolean) 7 := ⟨⟨tsm 894 (by decide +kernel) rfl, wI_L, tsm 895 rfl rfl⟩, by decide +kernel⟩
theorem kv_L_isSlowest : KS RL yL_isSlowest cL_isSlowest 8 (some .boolean) 3 := ⟨⟨tsm 949 (by decide +kernel) rfl, wI_L, tsm 950 (by decide +kernel) rfl⟩, by decide +kernel⟩
set_option maxRecDepth 100000 in
theorem kv_L_runs : KS RL yL_runs cL_runs 18 (some .boolean) 7 := ⟨⟨tsm 891 (by decide +kernel) rfl, wI_L, tsm 892 rfl rfl⟩, by decide +kernel⟩
theorem kv_L_noWaits : KS RL yL_noWaits cL_noWaits 3 (some .boolean) 2 := ⟨⟨tsm 962 (by decide +kernel) rfl, wI_L, tsm 963 (by decide +kernel) rfl⟩, by decide +kernel⟩
theorem kv_L_gap : KS RL yL_gap cL_gap 6 (some .int) 3 := ⟨⟨tsm 952 (by decide +kernel) rfl, wI_L, tsm 953 (by decide +kernel) rfl⟩, by decide +kernel⟩
set_option maxRecDepth 100000 in
theorem kv_L_isShort : KS RL yL_isShort cL_isShort 10 (some .boolean) 3 := ⟨⟨tsm 955 (by decide +kernel) rfl, wI_L, tsm 956 rfl rfl⟩, by decide +kernel⟩
set_option maxRecDepth 100000 in
theorem kv_L_isFull : KS RL yL_isFull cL_isFull 11 (some .boolean) 4 := ⟨⟨tsm 965 (by decide +kernel) rfl, wI_L, tsm 966 rfl rfl⟩, by decide +kernel⟩
set_option maxRecDepth 100000 in
theorem kv_L_tasks : KS RL yL_tasks cL_tasks 15 (some .boolean) 3 := ⟨⟨tsm 857 (by decide +kernel) rfl, wI_L, tsm 858 rfl rfl⟩, by decide +kernel⟩
set_option maxRecDepth 100000 in
theorem kv_L_plays : KS RL yL_plays cL_plays 10 (some .boolean) 5 := ⟨⟨tsm 53 (by decide +kernel) rfl, wI_L, tsm 54 rfl rfl⟩, by decide +kernel⟩
theorem km_max : KM Lib.Math.max.name Lib.Math.max.code := ⟨tsm 657 (by decide +kernel) rfl, tsm 49 (by decide +kernel) rfl, tsm 658 (by decide +kernel) rfl⟩
theorem km_min : KM Lib.Math.min.name Lib.Math.min.code := ⟨tsm 631 (by decide +kernel) rfl, tsm 49 (by decide +kernel) rfl, tsm 632 (by decide +kernel) rfl⟩
set_option maxRecDepth 20000 in
theorem kt_X11_62 : KT RX11 62 64 "java/lang/IllegalArgumentException" ["java/lang/RuntimeException", "java/lang/Exception"] := ⟨by decide +kernel, ⟨wL_X11_62, tsm 44 (by decide +kernel) rfl⟩, by decide +kernel, by decide +kernel, by decide +kernel, by decide +kernel⟩
set_option maxRecDepth 20000 in
theorem kt_X11_69 : KT RX11 69 71 "java/lang/IllegalStateException" ["java/lang/RuntimeException", "java/lang/Exception"] := ⟨by decide +kernel, ⟨wL_X11_69, tsm 45 (by decide +kernel) rfl⟩, by decide +kernel, by decide +kernel, by decide +kernel, by decide +kernel⟩
set_option maxRecDepth 20000 in
theorem kt_X11_84 : KT RX11 84 86 "java/lang/IndexOutOfBoundsException" ["java/lang/RuntimeException", "java/lang/Exception"] := ⟨by decide +kernel, ⟨wL_X11_84, tsm 46 (by decide +kernel) rfl⟩, by decide +kernel, by decide +kernel, by decide +kernel, by decide +kernel⟩
set_option maxRecDepth 20000 in
theorem kt_X11_184 : KT RX11 184 186 "java/util/NoSuchElementException" ["java/lang/RuntimeException", "java/lang/Exception"] := ⟨by decide +kernel, ⟨wL_X11_184, tsm 50 (by decide +kernel) rfl⟩, by decide +kernel, by decide +kernel, by decide +kernel, by decide +kernel⟩
abbrev rm_X0_init : Room := { frames := 2, cells := 0, slots := 0, locals := 41 }
abbrev rm_X0_note : Room := { frames := 1, cells := 0, slots := 0, locals := 22 }
abbrev rm_X0_doingAt : Room := { frames := 1, cells := 0, slots := 0, locals := 21 }
abbrev rm_X0_leftOf : Room := { frames := 1, cells := 0, slots := 0, locals := 21 }
abbrev rm_X0_firstWork : Room := { frames := 1, cells := 0, slots := 0, locals := 21 }
abbrev rm_X0_longestGap : Room := { frames := 1, cells := 0, slots := 0, locals := 21 }
abbrev rm_X0_countWork : Room := { frames := 1, cells := 0, slots := 0, locals := 21 }
abbrev rm_X0_countBusy : Room := { frames := 2, cells := 0, slots := 0, locals := 42 }
abbrev rm_X0_busyBegin : Room := { frames := 2, cells := 0, slots := 0, locals := 42 }
abbrev rm_X0_busyEnd : Room := { frames := 1, cells := 0, slots := 0, locals := 21 }
abbrev rm_X0_beginsBusy : Room := { frames := 1, cells := 0, slots := 0, locals := 21 }
abbrev rm_X0_isSameAs : Room := { frames := 1, cells := 0, slots := 0, locals := 21 }
abbrev rm_X0_isAsBusyAs : Room := { frames := 2, cells := 0, slots := 0, locals := 42 }
abbrev rm_X1_init : Room := { frames := 2, cells := 0, slots := 0, locals := 41 }
abbrev rm_X1_tell : Room := { frames := 1, cells := 0, slots := 0, locals := 22 }
abbrev rm_X1_letWait : Room := { frames := 1, cells := 0, slots := 0, locals := 22 }
abbrev rm_X1_someWait : Room := { frames := 1, cells := 0, slots := 0, locals := 21 }
abbrev rm_X1_addStretch : Room := { frames := 1, cells := 0, slots := 0, locals := 22 }
abbrev rm_X1_overlaps : Room := { frames := 1, cells := 0, slots := 0, locals := 21 }
abbrev rm_X1_lockAt : Room := { frames := 1, cells := 0, slots := 0, locals := 21 }
abbrev rm_X1_highest : Room := { frames := 1, cells := 0, slots := 0, locals := 21 }
abbrev rm_X1_mostKept : Room := { frames := 2, cells := 0, slots := 0, locals := 47 }
abbrev rm_X1_longestRest : Room := { frames := 1, cells := 0, slots := 0, locals := 21 }
abbrev rm_X1_fullEnd : Room := { frames := 2, cells := 0, slots := 0, locals := 46 }
abbrev rm_X1_workBetween : Room := { frames := 1, cells := 0, slots := 0, locals := 21 }
abbrev rm_X2_init : Room := { frames := 2, cells := 0, slots := 0, locals := 40 }
abbrev rm_X2_empty : Room := { frames := 1, cells := 0, slots := 0, locals := 20 }
abbrev rm_X2_lineOf : Room := { frames := 0, cells := 0, slots := 0, locals := 0 }
abbrev rm_X2_rise : Room := { frames := 2, cells := 0, slots := 0, locals := 43 }
abbrev rm_X2_lowest : Room := { frames := 1, cells := 0, slots := 0, locals := 20 }
abbrev rm_X3_init : Room := { frames := 1, cells := 0, slots := 0, locals := 20 }
abbrev rm_X3_empty : Room := { frames := 0, cells := 0, slots := 0, locals := 0 }
abbrev rm_X3_isEmpty : Room := { frames := 0, cells := 0, slots := 0, locals := 0 }
abbrev rm_X3_join : Room := { frames := 0, cells := 0, slots := 0, locals := 0 }
abbrev rm_X3_takeFirst : Room := { frames := 0, cells := 0, slots := 0, locals := 0 }
abbrev rm_X3_moveTo : Room := { frames := 1, cells := 0, slots := 0, locals := 21 }
abbrev rm_X4_init : Room := { frames := 2, cells := 0, slots := 0, locals := 41 }
abbrev rm_X4_look : Room := { frames := 2, cells := 0, slots := 0, locals := 47 }
abbrev rm_X4_isBlocked : Room := { frames := 1, cells := 0, slots := 0, locals := 21 }
abbrev rm_X4_greatest : Room := { frames := 2, cells := 0, slots := 0, locals := 42 }
abbrev rm_X5_init : Room := { frames := 3, cells := 0, slots := 0, locals := 62 }
abbrev rm_X5_workBy : Room := { frames := 2, cells := 0, slots := 0, locals := 47 }
abbrev rm_X5_least : Room := { frames := 1, cells := 0, slots := 0, locals := 21 }
abbrev rm_X6_init : Room := { frames := 2, cells := 0, slots := 0, locals := 41 }
abbrev rm_X6_begin : Room := { frames := 1, cells := 0, slots := 0, locals := 22 }
abbrev rm_X6_admit : Room := { frames := 1, cells := 0, slots := 0, locals := 22 }
abbrev rm_X6_isReady : Room := { frames := 0, cells := 0, slots := 0, locals := 0 }
abbrev rm_X6_isOver : Room := { frames := 0, cells := 0, slots := 0, locals := 0 }
abbrev rm_X6_done : Room := { frames := 1, cells := 0, slots := 0, locals := 21 }
abbrev rm_X6_spendOn : Room := { frames := 1, cells := 0, slots := 0, locals := 22 }
abbrev rm_X6_endsTogether : Room := { frames := 1, cells := 0, slots := 0, locals := 21 }
abbrev rm_X6_lateness : Room := { frames := 1, cells := 0, slots := 0, locals := 21 }
abbrev rm_X6_countLate : Room := { frames := 2, cells := 0, slots := 0, locals := 43 }
abbrev rm_X7_init : Room := { frames := 1, cells := 0, slots := 0, locals := 20 }
abbrev rm_X7_at : Room := { frames := 0, cells := 0, slots := 0, locals := 0 }
abbrev rm_X7_put : Room := { frames := 0, cells := 0, slots := 0, locals := 0 }
abbrev rm_X7_add : Room := { frames := 0, cells := 0, slots := 0, locals := 0 }
abbrev rm_X7_fill : Room := { frames := 0, cells := 0, slots := 0, locals := 0 }
abbrev rm_X8_init : Room := { frames := 2, cells := 0, slots := 0, locals := 41 }
abbrev rm_X8_tell : Room := { frames := 1, cells := 0, slots := 0, locals := 22 }
abbrev rm_X8_workAhead : Room := { frames := 2, cells := 0, slots := 0, locals := 44 }
abbrev rm_X8_goesAhead : Room := { frames := 1, cells := 0, slots := 0, locals := 21 }
abbrev rm_X9_init : Room := { frames := 1, cells := 0, slots := 0, locals := 20 }
abbrev rm_X10_init : Room := { frames := 3, cells := 0, slots := 0, locals := 63 }
abbrev rm_X10_follow : Room := { frames := 4, cells := 0, slots := 0, locals := 94 }
abbrev rm_X10_begin : Room := { frames := 2, cells := 0, slots := 0, locals := 43 }
abbrev rm_X10_beginMoment : Room := { frames := 3, cells := 0, slots := 0, locals := 71 }
abbrev rm_X10_welcome : Room := { frames := 1, cells := 0, slots := 0, locals := 22 }
abbrev rm_X10_leastCount : Room := { frames := 1, cells := 0, slots := 0, locals := 21 }
abbrev rm_X10_endSlice : Room := { frames := 1, cells := 0, slots := 0, locals := 21 }
abbrev rm_X10_usesLevels : Room := { frames := 0, cells := 0, slots := 0, locals := 0 }
abbrev rm_X10_choose : Room := { frames := 3, cells := 0, slots := 0, locals := 66 }
abbrev rm_X10_turnOf : Room := { frames := 1, cells := 0, slots := 0, locals := 21 }
abbrev rm_X10_drawn : Room := { frames := 1, cells := 0, slots := 0, locals := 21 }
abbrev rm_X10_leastByKey : Room := { frames := 2, cells := 0, slots := 0, locals := 42 }
abbrev rm_X10_keyOf : Room := { frames := 1, cells := 0, slots := 0, locals := 21 }
abbrev rm_X10_pass : Room := { frames := 3, cells := 0, slots := 0, locals := 66 }
abbrev rm_X10_workAtChosen : Room := { frames := 2, cells := 0, slots := 0, locals := 44 }
abbrev rm_X10_countKept : Room := { frames := 2, cells := 0, slots := 0, locals := 42 }
abbrev rm_X11_init : Room := { frames := 4, cells := 0, slots := 0, locals := 85 }
abbrev rm_X11_job : Room := { frames := 6, cells := 1, slots := 6, locals := 89 }
abbrev rm_X11_after : Room := { frames := 7, cells := 3, slots := 18, locals := 110 }
abbrev rm_X11_lock : Room := { frames := 7, cells := 2, slots := 12, locals := 110 }
abbrev rm_X11_turns : Room := { frames := 6, cells := 1, slots := 6, locals := 89 }
abbrev rm_X11_clear : Room := { frames := 0, cells := 0, slots := 0, locals := 0 }
abbrev rm_X11_run : Room := { frames := 6, cells := 1, slots := 6, locals := 119 }
abbrev rm_X11_running : Room := { frames := 7, cells := 2, slots := 12, locals := 110 }
abbrev rm_X11_left : Room := { frames := 7, cells := 3, slots := 18, locals := 110 }
abbrev rm_X11_work : Room := { frames := 7, cells := 2, slots := 12, locals := 110 }
abbrev rm_X11_end : Room := { frames := 7, cells := 2, slots := 12, locals := 110 }
abbrev rm_X11_sumOfEnds : Room := { frames := 7, cells := 1, slots := 6, locals := 109 }
abbrev rm_X11_waits : Room := { frames := 7, cells := 2, slots := 12, locals := 110 }
abbrev rm_X11_blocked : Room := { frames := 7, cells := 2, slots := 12, locals := 110 }
abbrev rm_X11_late : Room := { frames := 7, cells := 2, slots := 12, locals := 110 }
abbrev rm_X11_slowest : Room := { frames := 7, cells := 2, slots := 12, locals := 109 }
abbrev rm_X11_busy : Room := { frames := 7, cells := 2, slots := 12, locals := 109 }
abbrev rm_X11_checksum : Room := { frames := 7, cells := 1, slots := 6, locals := 109 }
abbrev rm_X11_which : Room := { frames := 7, cells := 1, slots := 6, locals := 119 }
abbrev rm_X11_best : Room := { frames := 5, cells := 0, slots := 0, locals := 119 }
abbrev rm_X11_two : Room := { frames := 3, cells := 0, slots := 0, locals := 71 }
abbrev rm_X11_isFeasible : Room := { frames := 6, cells := 1, slots := 6, locals := 119 }
abbrev rm_X11_full : Room := { frames := 6, cells := 1, slots := 6, locals := 89 }
abbrev rm_X11_task : Room := { frames := 6, cells := 1, slots := 6, locals := 89 }
abbrev rm_X11_load : Room := { frames := 1, cells := 0, slots := 0, locals := 30 }
abbrev rm_X11_response : Room := { frames := 6, cells := 1, slots := 6, locals := 89 }
abbrev rm_X11_workShare : Room := { frames := 7, cells := 1, slots := 6, locals := 109 }
abbrev rm_X11_errors : Room := { frames := 7, cells := 1, slots := 6, locals := 161 }
abbrev rm_X11_haveRulesSameBusyTime : Room := { frames := 5, cells := 0, slots := 0, locals := 119 }
abbrev rm_X11_hasLeastLeftLeastEnds : Room := { frames := 5, cells := 0, slots := 0, locals := 119 }
abbrev rm_X11_keepsDeadlines : Room := { frames := 5, cells := 0, slots := 0, locals := 119 }
abbrev rm_X11_doesSomeRuleKeepDeadlines : Room := { frames := 6, cells := 0, slots := 0, locals := 140 }
abbrev rm_X11_isRingFair : Room := { frames := 5, cells := 0, slots := 0, locals := 119 }
abbrev rm_X11_isHighestFreeInTime : Room := { frames := 5, cells := 0, slots := 0, locals := 119 }
abbrev rm_X11_needJob : Room := { frames := 6, cells := 1, slots := 6, locals := 89 }
abbrev rm_X11_needMoment : Room := { frames := 6, cells := 1, slots := 6, locals := 89 }
abbrev rm_X11_needRun : Room := { frames := 6, cells := 1, slots := 6, locals := 89 }
abbrev rm_X11_isOutside : Room := { frames := 0, cells := 0, slots := 0, locals := 0 }
abbrev rm_X11_reduced : Room := { frames := 0, cells := 0, slots := 0, locals := 0 }
abbrev rm_L_next : Room := { frames := 0, cells := 0, slots := 0, locals := 0 }
abbrev rm_L_from : Room := { frames := 1, cells := 0, slots := 0, locals := 20 }
abbrev rm_L_done : Room := { frames := 8, cells := 20, slots := 120, locals := 140 }
abbrev rm_L_tells : Room := { frames := 10, cells := 3000, slots := 18000, locals := 195 }
abbrev rm_L_locks : Room := { frames := 9, cells := 20, slots := 120, locals := 166 }
abbrev rm_L_isReady : Room := { frames := 0, cells := 0, slots := 0, locals := 0 }
abbrev rm_L_keeper : Room := { frames := 0, cells := 0, slots := 0, locals := 0 }
abbrev rm_L_walks : Room := { frames := 9, cells := 400, slots := 2400, locals := 166 }
abbrev rm_L_isSlowest : Room := { frames := 9, cells := 40, slots := 240, locals := 166 }
abbrev rm_L_runs : Room := { frames := 10, cells := 5000, slots := 30000, locals := 205 }
abbrev rm_L_noWaits : Room := { frames := 0, cells := 0, slots := 0, locals := 0 }
abbrev rm_L_gap : Room := { frames := 1, cells := 0, slots := 0, locals := 21 }
abbrev rm_L_isShort : Room := { frames := 8, cells := 40, slots := 240, locals := 131 }
abbrev rm_L_isFull : Room := { frames := 9, cells := 100, slots := 600, locals := 166 }
abbrev rm_L_tasks : Room := { frames := 9, cells := 400, slots := 2400, locals := 166 }
abbrev rm_L_plays : Room := { frames := 11, cells := 20000, slots := 120000, locals := 242 }
