theorem wI_L : Cond.initialized RL ∈ TS := tsm 66 (by decide +kernel) rfl
theorem wI_X11 : Cond.initialized RX11 ∈ TS := tsm 67 (by decide +kernel) rfl
theorem wI_X1 : Cond.initialized RX1 ∈ TS := tsm 68 (by decide +kernel) rfl
theorem wI_X7 : Cond.initialized RX7 ∈ TS := tsm 69 (by decide +kernel) rfl
theorem wI_X8 : Cond.initialized RX8 ∈ TS := tsm 70 (by decide +kernel) rfl
theorem wI_X9 : Cond.initialized RX9 ∈ TS := tsm 71 (by decide +kernel) rfl
theorem wI_X10 : Cond.initialized RX10 ∈ TS := tsm 72 (by decide +kernel) rfl
theorem wI_X2 : Cond.initialized RX2 ∈ TS := tsm 73 (by decide +kernel) rfl
theorem wI_X3 : Cond.initialized RX3 ∈ TS := tsm 74 (by decide +kernel) rfl
theorem wI_X6 : Cond.initialized RX6 ∈ TS := tsm 75 (by decide +kernel) rfl
theorem wI_X0 : Cond.initialized RX0 ∈ TS := tsm 76 (by decide +kernel) rfl
theorem wI_X4 : Cond.initialized RX4 ∈ TS := tsm 77 (by decide +kernel) rfl
theorem wI_X5 : Cond.initialized RX5 ∈ TS := tsm 78 (by decide +kernel) rfl
theorem wI_X12 : Cond.initialized RX12 ∈ TS := tsm 79 (by decide +kernel) rfl
theorem wL_L_8 : Cond.classLink RL 8 "Slicehouse" ∈ TS := tsm 89 (by decide +kernel) rfl
theorem wM_L_97 : Cond.methodLink RL 97 yX11_init ∈ TS := tsm 91 (by decide +kernel) rfl
theorem wM_X11_1 : Cond.methodLink RX11 1 ⟨"java/lang/Object", "<init>", "()V"⟩ ∈ TS := tsm 94 (by decide +kernel) rfl
theorem wL_X11_7 : Cond.classLink RX11 7 "Slicehouse$Jobs" ∈ TS := tsm 97 (by decide +kernel) rfl
theorem wM_X1_3 : Cond.methodLink RX1 3 ⟨"java/lang/Object", "<init>", "()V"⟩ ∈ TS := tsm 102 (by decide +kernel) rfl
theorem wL_X1_9 : Cond.classLink RX1 9 "Slicehouse$Row" ∈ TS := tsm 103 (by decide +kernel) rfl
theorem wM_X1_11 : Cond.methodLink RX1 11 yX7_init ∈ TS := tsm 105 (by decide +kernel) rfl
theorem wM_X7_1 : Cond.methodLink RX7 1 ⟨"java/lang/Object", "<init>", "()V"⟩ ∈ TS := tsm 108 (by decide +kernel) rfl
theorem wF_X7_7 : Cond.fieldLink RX7 7 "Slicehouse$Row" "cells" "[I" ∈ TS := tsm 109 (by decide +kernel) rfl
theorem wF_X1_14 : Cond.fieldLink RX1 14 "Slicehouse$Jobs" "comes" "LSlicehouse$Row;" ∈ TS := tsm 114 (by decide +kernel) rfl
theorem wF_X6_56 : Cond.fieldLink RX6 56 "Slicehouse$Jobs" "comes" "LSlicehouse$Row;" ∈ TS := tsm 115 (by decide +kernel) rfl
theorem wF_X11_146 : Cond.fieldLink RX11 146 "Slicehouse$Jobs" "comes" "LSlicehouse$Row;" ∈ TS := tsm 116 (by decide +kernel) rfl
theorem wF_X10_212 : Cond.fieldLink RX10 212 "Slicehouse$Jobs" "comes" "LSlicehouse$Row;" ∈ TS := tsm 117 (by decide +kernel) rfl
theorem wF_X1_20 : Cond.fieldLink RX1 20 "Slicehouse$Jobs" "lengths" "LSlicehouse$Row;" ∈ TS := tsm 118 (by decide +kernel) rfl
theorem wF_X6_45 : Cond.fieldLink RX6 45 "Slicehouse$Jobs" "lengths" "LSlicehouse$Row;" ∈ TS := tsm 119 (by decide +kernel) rfl
theorem wF_X0_36 : Cond.fieldLink RX0 36 "Slicehouse$Jobs" "lengths" "LSlicehouse$Row;" ∈ TS := tsm 120 (by decide +kernel) rfl
theorem wF_X11_87 : Cond.fieldLink RX11 87 "Slicehouse$Jobs" "lengths" "LSlicehouse$Row;" ∈ TS := tsm 121 (by decide +kernel) rfl
theorem wF_X10_215 : Cond.fieldLink RX10 215 "Slicehouse$Jobs" "lengths" "LSlicehouse$Row;" ∈ TS := tsm 122 (by decide +kernel) rfl
theorem wF_X1_23 : Cond.fieldLink RX1 23 "Slicehouse$Jobs" "deadlines" "LSlicehouse$Row;" ∈ TS := tsm 123 (by decide +kernel) rfl
theorem wF_X6_65 : Cond.fieldLink RX6 65 "Slicehouse$Jobs" "deadlines" "LSlicehouse$Row;" ∈ TS := tsm 124 (by decide +kernel) rfl
theorem wF_X1_26 : Cond.fieldLink RX1 26 "Slicehouse$Jobs" "deadlineKeys" "LSlicehouse$Row;" ∈ TS := tsm 125 (by decide +kernel) rfl
theorem wF_X5_62 : Cond.fieldLink RX5 62 "Slicehouse$Jobs" "deadlineKeys" "LSlicehouse$Row;" ∈ TS := tsm 126 (by decide +kernel) rfl
theorem wF_X10_218 : Cond.fieldLink RX10 218 "Slicehouse$Jobs" "deadlineKeys" "LSlicehouse$Row;" ∈ TS := tsm 127 (by decide +kernel) rfl
theorem wF_X1_29 : Cond.fieldLink RX1 29 "Slicehouse$Jobs" "weights" "LSlicehouse$Row;" ∈ TS := tsm 128 (by decide +kernel) rfl
theorem wF_X4_57 : Cond.fieldLink RX4 57 "Slicehouse$Jobs" "weights" "LSlicehouse$Row;" ∈ TS := tsm 129 (by decide +kernel) rfl
theorem wF_X10_205 : Cond.fieldLink RX10 205 "Slicehouse$Jobs" "weights" "LSlicehouse$Row;" ∈ TS := tsm 130 (by decide +kernel) rfl
theorem wF_X1_32 : Cond.fieldLink RX1 32 "Slicehouse$Jobs" "waitsFor" "LSlicehouse$Row;" ∈ TS := tsm 131 (by decide +kernel) rfl
theorem wF_X6_59 : Cond.fieldLink RX6 59 "Slicehouse$Jobs" "waitsFor" "LSlicehouse$Row;" ∈ TS := tsm 132 (by decide +kernel) rfl
theorem wF_X1_35 : Cond.fieldLink RX1 35 "Slicehouse$Jobs" "stretchCounts" "LSlicehouse$Row;" ∈ TS := tsm 133 (by decide +kernel) rfl
theorem wF_X11_100 : Cond.fieldLink RX11 100 "Slicehouse$Jobs" "stretchCounts" "LSlicehouse$Row;" ∈ TS := tsm 134 (by decide +kernel) rfl
theorem wF_X1_38 : Cond.fieldLink RX1 38 "Slicehouse$Jobs" "stretchLocks" "LSlicehouse$Row;" ∈ TS := tsm 135 (by decide +kernel) rfl
theorem wF_X1_41 : Cond.fieldLink RX1 41 "Slicehouse$Jobs" "stretchFroms" "LSlicehouse$Row;" ∈ TS := tsm 136 (by decide +kernel) rfl
theorem wF_X1_44 : Cond.fieldLink RX1 44 "Slicehouse$Jobs" "stretchTos" "LSlicehouse$Row;" ∈ TS := tsm 137 (by decide +kernel) rfl
theorem wF_X1_47 : Cond.fieldLink RX1 47 "Slicehouse$Jobs" "count" "I" ∈ TS := tsm 138 (by decide +kernel) rfl
theorem wF_X4_37 : Cond.fieldLink RX4 37 "Slicehouse$Jobs" "count" "I" ∈ TS := tsm 139 (by decide +kernel) rfl
theorem wF_X6_40 : Cond.fieldLink RX6 40 "Slicehouse$Jobs" "count" "I" ∈ TS := tsm 140 (by decide +kernel) rfl
theorem wF_X11_65 : Cond.fieldLink RX11 65 "Slicehouse$Jobs" "count" "I" ∈ TS := tsm 141 (by decide +kernel) rfl
theorem wF_X5_43 : Cond.fieldLink RX5 43 "Slicehouse$Jobs" "count" "I" ∈ TS := tsm 142 (by decide +kernel) rfl
theorem wF_X10_150 : Cond.fieldLink RX10 150 "Slicehouse$Jobs" "count" "I" ∈ TS := tsm 143 (by decide +kernel) rfl
theorem wL_X11_16 : Cond.classLink RX11 16 "Slicehouse$Tasks" ∈ TS := tsm 167 (by decide +kernel) rfl
theorem wM_X8_3 : Cond.methodLink RX8 3 ⟨"java/lang/Object", "<init>", "()V"⟩ ∈ TS := tsm 172 (by decide +kernel) rfl
theorem wL_X8_9 : Cond.classLink RX8 9 "Slicehouse$Row" ∈ TS := tsm 173 (by decide +kernel) rfl
theorem wM_X8_11 : Cond.methodLink RX8 11 yX7_init ∈ TS := tsm 174 (by decide +kernel) rfl
theorem wF_X8_14 : Cond.fieldLink RX8 14 "Slicehouse$Tasks" "periods" "LSlicehouse$Row;" ∈ TS := tsm 175 (by decide +kernel) rfl
theorem wF_X11_216 : Cond.fieldLink RX11 216 "Slicehouse$Tasks" "periods" "LSlicehouse$Row;" ∈ TS := tsm 176 (by decide +kernel) rfl
theorem wF_X8_20 : Cond.fieldLink RX8 20 "Slicehouse$Tasks" "lengths" "LSlicehouse$Row;" ∈ TS := tsm 177 (by decide +kernel) rfl
theorem wF_X11_219 : Cond.fieldLink RX11 219 "Slicehouse$Tasks" "lengths" "LSlicehouse$Row;" ∈ TS := tsm 178 (by decide +kernel) rfl
theorem wF_X8_23 : Cond.fieldLink RX8 23 "Slicehouse$Tasks" "deadlines" "LSlicehouse$Row;" ∈ TS := tsm 179 (by decide +kernel) rfl
theorem wF_X11_220 : Cond.fieldLink RX11 220 "Slicehouse$Tasks" "deadlines" "LSlicehouse$Row;" ∈ TS := tsm 180 (by decide +kernel) rfl
theorem wF_X8_26 : Cond.fieldLink RX8 26 "Slicehouse$Tasks" "count" "I" ∈ TS := tsm 181 (by decide +kernel) rfl
theorem wF_X11_212 : Cond.fieldLink RX11 212 "Slicehouse$Tasks" "count" "I" ∈ TS := tsm 182 (by decide +kernel) rfl
theorem wL_X11_23 : Cond.classLink RX11 23 "Slicehouse$Ways" ∈ TS := tsm 192 (by decide +kernel) rfl
theorem wM_X9_1 : Cond.methodLink RX9 1 ⟨"java/lang/Object", "<init>", "()V"⟩ ∈ TS := tsm 197 (by decide +kernel) rfl
theorem wF_X9_7 : Cond.fieldLink RX9 7 "Slicehouse$Ways" "slice" "I" ∈ TS := tsm 198 (by decide +kernel) rfl
theorem wF_X11_106 : Cond.fieldLink RX11 106 "Slicehouse$Ways" "slice" "I" ∈ TS := tsm 199 (by decide +kernel) rfl
theorem wF_X9_13 : Cond.fieldLink RX9 13 "Slicehouse$Ways" "change" "I" ∈ TS := tsm 200 (by decide +kernel) rfl
theorem wF_X11_109 : Cond.fieldLink RX11 109 "Slicehouse$Ways" "change" "I" ∈ TS := tsm 201 (by decide +kernel) rfl
theorem wF_X9_16 : Cond.fieldLink RX9 16 "Slicehouse$Ways" "rise" "I" ∈ TS := tsm 202 (by decide +kernel) rfl
theorem wF_X10_124 : Cond.fieldLink RX10 124 "Slicehouse$Ways" "rise" "I" ∈ TS := tsm 203 (by decide +kernel) rfl
theorem wF_X11_112 : Cond.fieldLink RX11 112 "Slicehouse$Ways" "rise" "I" ∈ TS := tsm 204 (by decide +kernel) rfl
theorem wF_X9_19 : Cond.fieldLink RX9 19 "Slicehouse$Ways" "seed" "I" ∈ TS := tsm 205 (by decide +kernel) rfl
theorem wF_X10_121 : Cond.fieldLink RX10 121 "Slicehouse$Ways" "seed" "I" ∈ TS := tsm 206 (by decide +kernel) rfl
theorem wF_X11_115 : Cond.fieldLink RX11 115 "Slicehouse$Ways" "seed" "I" ∈ TS := tsm 207 (by decide +kernel) rfl
theorem wF_X9_22 : Cond.fieldLink RX9 22 "Slicehouse$Ways" "lending" "Z" ∈ TS := tsm 208 (by decide +kernel) rfl
theorem wF_X11_118 : Cond.fieldLink RX11 118 "Slicehouse$Ways" "lending" "Z" ∈ TS := tsm 209 (by decide +kernel) rfl
theorem wL_X11_30 : Cond.classLink RX11 30 "Slicehouse$Worker" ∈ TS := tsm 221 (by decide +kernel) rfl
theorem wM_X11_32 : Cond.methodLink RX11 32 yX10_init ∈ TS := tsm 223 (by decide +kernel) rfl
theorem wM_X10_3 : Cond.methodLink RX10 3 ⟨"java/lang/Object", "<init>", "()V"⟩ ∈ TS := tsm 226 (by decide +kernel) rfl
theorem wL_X10_9 : Cond.classLink RX10 9 "Slicehouse$Row" ∈ TS := tsm 227 (by decide +kernel) rfl
theorem wM_X10_11 : Cond.methodLink RX10 11 yX7_init ∈ TS := tsm 228 (by decide +kernel) rfl
theorem wL_X10_20 : Cond.classLink RX10 20 "Slicehouse$Levels" ∈ TS := tsm 229 (by decide +kernel) rfl
theorem wM_X2_1 : Cond.methodLink RX2 1 ⟨"java/lang/Object", "<init>", "()V"⟩ ∈ TS := tsm 234 (by decide +kernel) rfl
theorem wL_X2_7 : Cond.classLink RX2 7 "Slicehouse$Line" ∈ TS := tsm 235 (by decide +kernel) rfl
theorem wM_X3_3 : Cond.methodLink RX3 3 ⟨"java/lang/Object", "<init>", "()V"⟩ ∈ TS := tsm 240 (by decide +kernel) rfl
theorem wF_X3_9 : Cond.fieldLink RX3 9 "Slicehouse$Line" "places" "[I" ∈ TS := tsm 241 (by decide +kernel) rfl
theorem wF_X3_15 : Cond.fieldLink RX3 15 "Slicehouse$Line" "size" "I" ∈ TS := tsm 242 (by decide +kernel) rfl
theorem wF_X2_10 : Cond.fieldLink RX2 10 "Slicehouse$Levels" "low" "LSlicehouse$Line;" ∈ TS := tsm 248 (by decide +kernel) rfl
theorem wF_X2_16 : Cond.fieldLink RX2 16 "Slicehouse$Levels" "middle" "LSlicehouse$Line;" ∈ TS := tsm 249 (by decide +kernel) rfl
theorem wF_X2_19 : Cond.fieldLink RX2 19 "Slicehouse$Levels" "high" "LSlicehouse$Line;" ∈ TS := tsm 250 (by decide +kernel) rfl
theorem wL_X10_70 : Cond.classLink RX10 70 "Slicehouse$Progress" ∈ TS := tsm 258 (by decide +kernel) rfl
theorem wM_X10_72 : Cond.methodLink RX10 72 yX6_init ∈ TS := tsm 260 (by decide +kernel) rfl
theorem wM_X6_3 : Cond.methodLink RX6 3 ⟨"java/lang/Object", "<init>", "()V"⟩ ∈ TS := tsm 263 (by decide +kernel) rfl
theorem wL_X6_9 : Cond.classLink RX6 9 "Slicehouse$Row" ∈ TS := tsm 264 (by decide +kernel) rfl
theorem wM_X6_11 : Cond.methodLink RX6 11 yX7_init ∈ TS := tsm 265 (by decide +kernel) rfl
theorem wF_X6_14 : Cond.fieldLink RX6 14 "Slicehouse$Progress" "lefts" "LSlicehouse$Row;" ∈ TS := tsm 266 (by decide +kernel) rfl
theorem wF_X5_53 : Cond.fieldLink RX5 53 "Slicehouse$Progress" "lefts" "LSlicehouse$Row;" ∈ TS := tsm 267 (by decide +kernel) rfl
theorem wF_X10_198 : Cond.fieldLink RX10 198 "Slicehouse$Progress" "lefts" "LSlicehouse$Row;" ∈ TS := tsm 268 (by decide +kernel) rfl
theorem wF_X6_20 : Cond.fieldLink RX6 20 "Slicehouse$Progress" "ends" "LSlicehouse$Row;" ∈ TS := tsm 269 (by decide +kernel) rfl
theorem wF_X11_153 : Cond.fieldLink RX11 153 "Slicehouse$Progress" "ends" "LSlicehouse$Row;" ∈ TS := tsm 270 (by decide +kernel) rfl
theorem wF_X6_23 : Cond.fieldLink RX6 23 "Slicehouse$Progress" "readySince" "LSlicehouse$Row;" ∈ TS := tsm 271 (by decide +kernel) rfl
theorem wF_X11_162 : Cond.fieldLink RX11 162 "Slicehouse$Progress" "readySince" "LSlicehouse$Row;" ∈ TS := tsm 272 (by decide +kernel) rfl
theorem wF_X6_26 : Cond.fieldLink RX6 26 "Slicehouse$Progress" "ready" "I" ∈ TS := tsm 273 (by decide +kernel) rfl
theorem wF_X10_129 : Cond.fieldLink RX10 129 "Slicehouse$Progress" "ready" "I" ∈ TS := tsm 274 (by decide +kernel) rfl
theorem wF_X6_36 : Cond.fieldLink RX6 36 "Slicehouse$Progress" "jobs" "LSlicehouse$Jobs;" ∈ TS := tsm 275 (by decide +kernel) rfl
theorem wF_X6_30 : Cond.fieldLink RX6 30 "Slicehouse$Progress" "ended" "I" ∈ TS := tsm 276 (by decide +kernel) rfl
theorem wF_X6_33 : Cond.fieldLink RX6 33 "Slicehouse$Progress" "all" "I" ∈ TS := tsm 277 (by decide +kernel) rfl
theorem wL_X10_79 : Cond.classLink RX10 79 "Slicehouse$Course" ∈ TS := tsm 293 (by decide +kernel) rfl
theorem wM_X10_81 : Cond.methodLink RX10 81 yX0_init ∈ TS := tsm 295 (by decide +kernel) rfl
theorem wM_X0_3 : Cond.methodLink RX0 3 ⟨"java/lang/Object", "<init>", "()V"⟩ ∈ TS := tsm 298 (by decide +kernel) rfl
theorem wL_X0_15 : Cond.classLink RX0 15 "Slicehouse$Row" ∈ TS := tsm 299 (by decide +kernel) rfl
theorem wM_X0_17 : Cond.methodLink RX0 17 yX7_init ∈ TS := tsm 300 (by decide +kernel) rfl
theorem wF_X0_9 : Cond.fieldLink RX0 9 "Slicehouse$Course" "length" "I" ∈ TS := tsm 301 (by decide +kernel) rfl
theorem wF_X10_112 : Cond.fieldLink RX10 112 "Slicehouse$Course" "length" "I" ∈ TS := tsm 302 (by decide +kernel) rfl
theorem wF_X11_129 : Cond.fieldLink RX11 129 "Slicehouse$Course" "length" "I" ∈ TS := tsm 303 (by decide +kernel) rfl
theorem wF_X0_20 : Cond.fieldLink RX0 20 "Slicehouse$Course" "doings" "LSlicehouse$Row;" ∈ TS := tsm 304 (by decide +kernel) rfl
theorem wF_X0_24 : Cond.fieldLink RX0 24 "Slicehouse$Course" "jobs" "LSlicehouse$Jobs;" ∈ TS := tsm 305 (by decide +kernel) rfl
theorem wL_X10_86 : Cond.classLink RX10 86 "Slicehouse$Locks" ∈ TS := tsm 313 (by decide +kernel) rfl
theorem wM_X10_88 : Cond.methodLink RX10 88 yX4_init ∈ TS := tsm 315 (by decide +kernel) rfl
theorem wM_X4_3 : Cond.methodLink RX4 3 ⟨"java/lang/Object", "<init>", "()V"⟩ ∈ TS := tsm 318 (by decide +kernel) rfl
theorem wL_X4_9 : Cond.classLink RX4 9 "Slicehouse$Row" ∈ TS := tsm 319 (by decide +kernel) rfl
theorem wM_X4_11 : Cond.methodLink RX4 11 yX7_init ∈ TS := tsm 320 (by decide +kernel) rfl
theorem wF_X4_26 : Cond.fieldLink RX4 26 "Slicehouse$Locks" "jobs" "LSlicehouse$Jobs;" ∈ TS := tsm 321 (by decide +kernel) rfl
theorem wF_X4_30 : Cond.fieldLink RX4 30 "Slicehouse$Locks" "progress" "LSlicehouse$Progress;" ∈ TS := tsm 322 (by decide +kernel) rfl
theorem wF_X4_14 : Cond.fieldLink RX4 14 "Slicehouse$Locks" "holders" "LSlicehouse$Row;" ∈ TS := tsm 323 (by decide +kernel) rfl
theorem wF_X4_20 : Cond.fieldLink RX4 20 "Slicehouse$Locks" "blockers" "LSlicehouse$Row;" ∈ TS := tsm 324 (by decide +kernel) rfl
theorem wF_X4_23 : Cond.fieldLink RX4 23 "Slicehouse$Locks" "ranks" "LSlicehouse$Row;" ∈ TS := tsm 325 (by decide +kernel) rfl
theorem wF_X10_75 : Cond.fieldLink RX10 75 "Slicehouse$Worker" "progress" "LSlicehouse$Progress;" ∈ TS := tsm 337 (by decide +kernel) rfl
theorem wF_X11_149 : Cond.fieldLink RX11 149 "Slicehouse$Worker" "progress" "LSlicehouse$Progress;" ∈ TS := tsm 338 (by decide +kernel) rfl
theorem wF_X10_82 : Cond.fieldLink RX10 82 "Slicehouse$Worker" "course" "LSlicehouse$Course;" ∈ TS := tsm 339 (by decide +kernel) rfl
theorem wF_X11_125 : Cond.fieldLink RX11 125 "Slicehouse$Worker" "course" "LSlicehouse$Course;" ∈ TS := tsm 340 (by decide +kernel) rfl
theorem wF_X10_14 : Cond.fieldLink RX10 14 "Slicehouse$Worker" "keptWaiting" "LSlicehouse$Row;" ∈ TS := tsm 341 (by decide +kernel) rfl
theorem wF_X11_168 : Cond.fieldLink RX11 168 "Slicehouse$Worker" "keptWaiting" "LSlicehouse$Row;" ∈ TS := tsm 342 (by decide +kernel) rfl
theorem wF_X10_62 : Cond.fieldLink RX10 62 "Slicehouse$Worker" "jobs" "LSlicehouse$Jobs;" ∈ TS := tsm 343 (by decide +kernel) rfl
theorem wF_X10_66 : Cond.fieldLink RX10 66 "Slicehouse$Worker" "ways" "LSlicehouse$Ways;" ∈ TS := tsm 344 (by decide +kernel) rfl
theorem wF_X10_23 : Cond.fieldLink RX10 23 "Slicehouse$Worker" "levels" "LSlicehouse$Levels;" ∈ TS := tsm 345 (by decide +kernel) rfl
theorem wF_X10_27 : Cond.fieldLink RX10 27 "Slicehouse$Worker" "counts" "LSlicehouse$Row;" ∈ TS := tsm 346 (by decide +kernel) rfl
theorem wF_X10_91 : Cond.fieldLink RX10 91 "Slicehouse$Worker" "locks" "LSlicehouse$Locks;" ∈ TS := tsm 347 (by decide +kernel) rfl
theorem wF_X10_30 : Cond.fieldLink RX10 30 "Slicehouse$Worker" "rule" "I" ∈ TS := tsm 348 (by decide +kernel) rfl
theorem wF_X10_34 : Cond.fieldLink RX10 34 "Slicehouse$Worker" "slice" "I" ∈ TS := tsm 349 (by decide +kernel) rfl
theorem wF_X10_37 : Cond.fieldLink RX10 37 "Slicehouse$Worker" "change" "I" ∈ TS := tsm 350 (by decide +kernel) rfl
theorem wF_X10_40 : Cond.fieldLink RX10 40 "Slicehouse$Worker" "lending" "Z" ∈ TS := tsm 351 (by decide +kernel) rfl
theorem wF_X10_44 : Cond.fieldLink RX10 44 "Slicehouse$Worker" "seed" "I" ∈ TS := tsm 352 (by decide +kernel) rfl
theorem wF_X10_47 : Cond.fieldLink RX10 47 "Slicehouse$Worker" "chosen" "I" ∈ TS := tsm 353 (by decide +kernel) rfl
theorem wF_X10_50 : Cond.fieldLink RX10 50 "Slicehouse$Worker" "level" "I" ∈ TS := tsm 354 (by decide +kernel) rfl
theorem wF_X10_53 : Cond.fieldLink RX10 53 "Slicehouse$Worker" "turnLeft" "I" ∈ TS := tsm 355 (by decide +kernel) rfl
theorem wF_X10_56 : Cond.fieldLink RX10 56 "Slicehouse$Worker" "changesLeft" "I" ∈ TS := tsm 356 (by decide +kernel) rfl
theorem wF_X10_59 : Cond.fieldLink RX10 59 "Slicehouse$Worker" "lastWorked" "I" ∈ TS := tsm 357 (by decide +kernel) rfl
theorem wL_X11_45 : Cond.classLink RX11 45 "Slicehouse$Pair" ∈ TS := tsm 395 (by decide +kernel) rfl
theorem wM_X11_47 : Cond.methodLink RX11 47 yX5_init ∈ TS := tsm 397 (by decide +kernel) rfl
theorem wM_X5_3 : Cond.methodLink RX5 3 ⟨"java/lang/Object", "<init>", "()V"⟩ ∈ TS := tsm 400 (by decide +kernel) rfl
theorem wL_X5_15 : Cond.classLink RX5 15 "Slicehouse$Progress" ∈ TS := tsm 401 (by decide +kernel) rfl
theorem wM_X5_17 : Cond.methodLink RX5 17 yX6_init ∈ TS := tsm 402 (by decide +kernel) rfl
theorem wF_X5_20 : Cond.fieldLink RX5 20 "Slicehouse$Pair" "progress" "LSlicehouse$Progress;" ∈ TS := tsm 403 (by decide +kernel) rfl
theorem wF_X11_198 : Cond.fieldLink RX11 198 "Slicehouse$Pair" "progress" "LSlicehouse$Progress;" ∈ TS := tsm 404 (by decide +kernel) rfl
theorem wF_X5_9 : Cond.fieldLink RX5 9 "Slicehouse$Pair" "jobs" "LSlicehouse$Jobs;" ∈ TS := tsm 405 (by decide +kernel) rfl
theorem wF_X11_10 : Cond.fieldLink RX11 10 "Slicehouse" "jobs" "LSlicehouse$Jobs;" ∈ TS := tsm 411 (by decide +kernel) rfl
theorem wF_X11_19 : Cond.fieldLink RX11 19 "Slicehouse" "tasks" "LSlicehouse$Tasks;" ∈ TS := tsm 412 (by decide +kernel) rfl
theorem wF_X11_26 : Cond.fieldLink RX11 26 "Slicehouse" "ways" "LSlicehouse$Ways;" ∈ TS := tsm 413 (by decide +kernel) rfl
theorem wF_X11_35 : Cond.fieldLink RX11 35 "Slicehouse" "worker" "LSlicehouse$Worker;" ∈ TS := tsm 414 (by decide +kernel) rfl
theorem wF_X11_39 : Cond.fieldLink RX11 39 "Slicehouse" "trial" "LSlicehouse$Worker;" ∈ TS := tsm 415 (by decide +kernel) rfl
theorem wF_X11_42 : Cond.fieldLink RX11 42 "Slicehouse" "model" "LSlicehouse$Worker;" ∈ TS := tsm 416 (by decide +kernel) rfl
theorem wF_X11_50 : Cond.fieldLink RX11 50 "Slicehouse" "pair" "LSlicehouse$Pair;" ∈ TS := tsm 417 (by decide +kernel) rfl
theorem wF_X11_54 : Cond.fieldLink RX11 54 "Slicehouse" "hasRun" "Z" ∈ TS := tsm 418 (by decide +kernel) rfl
theorem wM_L_121 : Cond.methodLink RL 121 yX11_clear ∈ TS := tsm 436 (by decide +kernel) rfl
theorem wM_L_168 : Cond.methodLink RL 168 yX11_best ∈ TS := tsm 440 (by decide +kernel) rfl
theorem wM_X11_121 : Cond.methodLink RX11 121 yX10_follow ∈ TS := tsm 444 (by decide +kernel) rfl
theorem wM_X10_95 : Cond.methodLink RX10 95 yX10_begin ∈ TS := tsm 448 (by decide +kernel) rfl
theorem wM_X10_111 : Cond.methodLink RX10 111 yX6_begin ∈ TS := tsm 452 (by decide +kernel) rfl
theorem wM_X6_48 : Cond.methodLink RX6 48 yX7_at ∈ TS := tsm 456 (by decide +kernel) rfl
theorem wM_X6_52 : Cond.methodLink RX6 52 yX7_put ∈ TS := tsm 460 (by decide +kernel) rfl
theorem wM_X10_115 : Cond.methodLink RX10 115 yX2_empty ∈ TS := tsm 464 (by decide +kernel) rfl
theorem wM_X2_22 : Cond.methodLink RX2 22 yX3_empty ∈ TS := tsm 468 (by decide +kernel) rfl
theorem wM_X10_118 : Cond.methodLink RX10 118 yX7_fill ∈ TS := tsm 472 (by decide +kernel) rfl
theorem wM_X10_98 : Cond.methodLink RX10 98 yX6_isOver ∈ TS := tsm 476 (by decide +kernel) rfl
theorem wM_X10_102 : Cond.methodLink RX10 102 yX10_beginMoment ∈ TS := tsm 480 (by decide +kernel) rfl
theorem wM_X10_127 : Cond.methodLink RX10 127 yX2_rise ∈ TS := tsm 484 (by decide +kernel) rfl
theorem wM_X2_25 : Cond.methodLink RX2 25 yX3_moveTo ∈ TS := tsm 488 (by decide +kernel) rfl
theorem wM_X3_19 : Cond.methodLink RX3 19 yX3_join ∈ TS := tsm 492 (by decide +kernel) rfl
theorem wM_X10_132 : Cond.methodLink RX10 132 yX6_admit ∈ TS := tsm 496 (by decide +kernel) rfl
theorem wM_X10_136 : Cond.methodLink RX10 136 yX10_leastCount ∈ TS := tsm 500 (by decide +kernel) rfl
theorem wM_X10_170 : Cond.methodLink RX10 170 yX7_at ∈ TS := tsm 504 (by decide +kernel) rfl
theorem wM_X10_139 : Cond.methodLink RX10 139 yX10_welcome ∈ TS := tsm 505 (by decide +kernel) rfl
theorem wM_X10_155 : Cond.methodLink RX10 155 yX7_put ∈ TS := tsm 509 (by decide +kernel) rfl
theorem wM_X10_158 : Cond.methodLink RX10 158 yX10_usesLevels ∈ TS := tsm 510 (by decide +kernel) rfl
theorem wM_X10_161 : Cond.methodLink RX10 161 yX2_lineOf ∈ TS := tsm 514 (by decide +kernel) rfl
theorem wM_X10_165 : Cond.methodLink RX10 165 yX3_join ∈ TS := tsm 518 (by decide +kernel) rfl
theorem wM_X10_143 : Cond.methodLink RX10 143 yX10_endSlice ∈ TS := tsm 519 (by decide +kernel) rfl
theorem wM_X10_173 : Cond.methodLink RX10 173 ⟨"java/lang/Math", "min", "(II)I"⟩ ∈ TS := tsm 523 (by decide +kernel) rfl
theorem wM_X10_146 : Cond.methodLink RX10 146 yX4_look ∈ TS := tsm 526 (by decide +kernel) rfl
theorem wM_X4_34 : Cond.methodLink RX4 34 yX7_fill ∈ TS := tsm 530 (by decide +kernel) rfl
theorem wM_X4_43 : Cond.methodLink RX4 43 yX6_done ∈ TS := tsm 531 (by decide +kernel) rfl
theorem wM_X4_49 : Cond.methodLink RX4 49 yX1_lockAt ∈ TS := tsm 535 (by decide +kernel) rfl
theorem wM_X1_55 : Cond.methodLink RX1 55 yX7_at ∈ TS := tsm 539 (by decide +kernel) rfl
theorem wM_X4_53 : Cond.methodLink RX4 53 yX7_put ∈ TS := tsm 540 (by decide +kernel) rfl
theorem wM_X4_60 : Cond.methodLink RX4 60 yX7_at ∈ TS := tsm 541 (by decide +kernel) rfl
theorem wM_X4_63 : Cond.methodLink RX4 63 yX6_isReady ∈ TS := tsm 542 (by decide +kernel) rfl
theorem wM_X4_67 : Cond.methodLink RX4 67 yX4_isBlocked ∈ TS := tsm 546 (by decide +kernel) rfl
theorem wM_X4_70 : Cond.methodLink RX4 70 ⟨"java/lang/Math", "max", "(II)I"⟩ ∈ TS := tsm 550 (by decide +kernel) rfl
theorem wM_X10_105 : Cond.methodLink RX10 105 yX10_choose ∈ TS := tsm 553 (by decide +kernel) rfl
theorem wM_X10_179 : Cond.methodLink RX10 179 yX2_lowest ∈ TS := tsm 557 (by decide +kernel) rfl
theorem wM_X2_29 : Cond.methodLink RX2 29 yX3_isEmpty ∈ TS := tsm 561 (by decide +kernel) rfl
theorem wM_X10_183 : Cond.methodLink RX10 183 yX3_takeFirst ∈ TS := tsm 565 (by decide +kernel) rfl
theorem wM_X10_186 : Cond.methodLink RX10 186 yX10_drawn ∈ TS := tsm 569 (by decide +kernel) rfl
theorem wM_X10_201 : Cond.methodLink RX10 201 yX6_isReady ∈ TS := tsm 573 (by decide +kernel) rfl
theorem wK_X10_208 : Cond.constant RX10 208 (Int32.ofInt 1103515245) ∈ TS := tsm 574 (by decide +kernel) rfl
theorem wM_X10_189 : Cond.methodLink RX10 189 yX4_greatest ∈ TS := tsm 575 (by decide +kernel) rfl
theorem wM_X10_192 : Cond.methodLink RX10 192 yX10_leastByKey ∈ TS := tsm 579 (by decide +kernel) rfl
theorem wM_X10_209 : Cond.methodLink RX10 209 yX10_keyOf ∈ TS := tsm 583 (by decide +kernel) rfl
theorem wM_X10_195 : Cond.methodLink RX10 195 yX10_turnOf ∈ TS := tsm 587 (by decide +kernel) rfl
theorem wM_X10_108 : Cond.methodLink RX10 108 yX10_pass ∈ TS := tsm 591 (by decide +kernel) rfl
theorem wM_X10_221 : Cond.methodLink RX10 221 yX0_note ∈ TS := tsm 595 (by decide +kernel) rfl
theorem wM_X0_28 : Cond.methodLink RX0 28 yX7_put ∈ TS := tsm 599 (by decide +kernel) rfl
theorem wM_X10_224 : Cond.methodLink RX10 224 yX10_countKept ∈ TS := tsm 600 (by decide +kernel) rfl
theorem wM_X10_236 : Cond.methodLink RX10 236 yX4_isBlocked ∈ TS := tsm 604 (by decide +kernel) rfl
theorem wM_X10_230 : Cond.methodLink RX10 230 yX7_add ∈ TS := tsm 605 (by decide +kernel) rfl
theorem wM_X10_227 : Cond.methodLink RX10 227 yX10_workAtChosen ∈ TS := tsm 609 (by decide +kernel) rfl
theorem wM_X10_233 : Cond.methodLink RX10 233 yX6_spendOn ∈ TS := tsm 613 (by decide +kernel) rfl
theorem wM_X6_62 : Cond.methodLink RX6 62 yX7_add ∈ TS := tsm 617 (by decide +kernel) rfl
theorem wM_X11_158 : Cond.methodLink RX11 158 yX6_endsTogether ∈ TS := tsm 618 (by decide +kernel) rfl
theorem wM_L_172 : Cond.methodLink RL 172 yX11_two ∈ TS := tsm 622 (by decide +kernel) rfl
theorem wM_X11_194 : Cond.methodLink RX11 194 yX5_workBy ∈ TS := tsm 626 (by decide +kernel) rfl
theorem wM_X5_24 : Cond.methodLink RX5 24 yX6_begin ∈ TS := tsm 630 (by decide +kernel) rfl
theorem wM_X5_27 : Cond.methodLink RX5 27 yX6_isOver ∈ TS := tsm 631 (by decide +kernel) rfl
theorem wM_X5_31 : Cond.methodLink RX5 31 yX6_admit ∈ TS := tsm 632 (by decide +kernel) rfl
theorem wM_X5_35 : Cond.methodLink RX5 35 yX5_least ∈ TS := tsm 633 (by decide +kernel) rfl
theorem wM_X5_49 : Cond.methodLink RX5 49 yX6_isReady ∈ TS := tsm 637 (by decide +kernel) rfl
theorem wM_X5_57 : Cond.methodLink RX5 57 yX7_at ∈ TS := tsm 638 (by decide +kernel) rfl
theorem wM_X5_39 : Cond.methodLink RX5 39 yX6_spendOn ∈ TS := tsm 639 (by decide +kernel) rfl
theorem wM_X11_199 : Cond.methodLink RX11 199 yX6_countLate ∈ TS := tsm 640 (by decide +kernel) rfl
theorem wM_X6_74 : Cond.methodLink RX6 74 yX6_lateness ∈ TS := tsm 644 (by decide +kernel) rfl
theorem wM_X6_68 : Cond.methodLink RX6 68 ⟨"java/lang/Math", "max", "(II)I"⟩ ∈ TS := tsm 648 (by decide +kernel) rfl
theorem wM_L_187 : Cond.methodLink RL 187 yX11_load ∈ TS := tsm 649 (by decide +kernel) rfl
theorem wM_X11_91 : Cond.methodLink RX11 91 yX7_at ∈ TS := tsm 653 (by decide +kernel) rfl
theorem wM_X11_174 : Cond.methodLink RX11 174 yX11_reduced ∈ TS := tsm 654 (by decide +kernel) rfl
theorem wM_L_202 : Cond.methodLink RL 202 yX11_errors ∈ TS := tsm 657 (by decide +kernel) rfl
theorem wM_X11_229 : Cond.methodLink RX11 229 yX11_haveRulesSameBusyTime ∈ TS := tsm 661 (by decide +kernel) rfl
theorem wM_X11_251 : Cond.methodLink RX11 251 yX0_isAsBusyAs ∈ TS := tsm 665 (by decide +kernel) rfl
theorem wM_X0_41 : Cond.methodLink RX0 41 ⟨"java/lang/Math", "max", "(II)I"⟩ ∈ TS := tsm 669 (by decide +kernel) rfl
theorem wM_X0_51 : Cond.methodLink RX0 51 yX0_doingAt ∈ TS := tsm 670 (by decide +kernel) rfl
theorem wM_X0_32 : Cond.methodLink RX0 32 yX7_at ∈ TS := tsm 674 (by decide +kernel) rfl
theorem wM_X11_202 : Cond.methodLink RX11 202 yX1_someWait ∈ TS := tsm 675 (by decide +kernel) rfl
theorem wM_X11_232 : Cond.methodLink RX11 232 yX11_keepsDeadlines ∈ TS := tsm 679 (by decide +kernel) rfl
theorem wM_X11_236 : Cond.methodLink RX11 236 yX11_hasLeastLeftLeastEnds ∈ TS := tsm 683 (by decide +kernel) rfl
theorem wM_X11_239 : Cond.methodLink RX11 239 yX11_doesSomeRuleKeepDeadlines ∈ TS := tsm 687 (by decide +kernel) rfl
theorem wM_X11_242 : Cond.methodLink RX11 242 yX11_full ∈ TS := tsm 691 (by decide +kernel) rfl
theorem wM_X11_58 : Cond.methodLink RX11 58 yX11_isOutside ∈ TS := tsm 695 (by decide +kernel) rfl
theorem wL_X11_62 : Cond.classLink RX11 62 "java/lang/IllegalArgumentException" ∈ TS := tsm 698 (by decide +kernel) rfl
theorem wM_X11_64 : Cond.methodLink RX11 64 ⟨"java/lang/IllegalArgumentException", "<init>", "()V"⟩ ∈ TS := tsm 740 (by decide +kernel) rfl
theorem wM_X11_206 : Cond.methodLink RX11 206 yX1_fullEnd ∈ TS := tsm 762 (by decide +kernel) rfl
theorem wM_X1_68 : Cond.methodLink RX1 68 ⟨"java/lang/Math", "max", "(II)I"⟩ ∈ TS := tsm 766 (by decide +kernel) rfl
theorem wM_X1_73 : Cond.methodLink RX1 73 yX1_workBetween ∈ TS := tsm 767 (by decide +kernel) rfl
theorem wM_X11_209 : Cond.methodLink RX11 209 yX1_workBetween ∈ TS := tsm 771 (by decide +kernel) rfl
theorem wM_X11_245 : Cond.methodLink RX11 245 yX11_isRingFair ∈ TS := tsm 772 (by decide +kernel) rfl
theorem wM_X11_254 : Cond.methodLink RX11 254 yX0_firstWork ∈ TS := tsm 776 (by decide +kernel) rfl
theorem wM_X11_165 : Cond.methodLink RX11 165 yX0_longestGap ∈ TS := tsm 780 (by decide +kernel) rfl
theorem wM_X11_248 : Cond.methodLink RX11 248 yX11_isHighestFreeInTime ∈ TS := tsm 784 (by decide +kernel) rfl
theorem wM_X11_257 : Cond.methodLink RX11 257 yX1_highest ∈ TS := tsm 788 (by decide +kernel) rfl
theorem wM_X11_260 : Cond.methodLink RX11 260 yX1_mostKept ∈ TS := tsm 792 (by decide +kernel) rfl
theorem wM_X1_64 : Cond.methodLink RX1 64 yX1_longestRest ∈ TS := tsm 796 (by decide +kernel) rfl
theorem wM_L_101 : Cond.methodLink RL 101 yL_job ∈ TS := tsm 800 (by decide +kernel) rfl
theorem wL_L_13 : Cond.classLink RL 13 "java/lang/IllegalArgumentException" ∈ TS := tsm 803 (by decide +kernel) rfl
theorem wL_L_15 : Cond.classLink RL 15 "java/lang/IllegalStateException" ∈ TS := tsm 804 (by decide +kernel) rfl
theorem wM_L_7 : Cond.methodLink RL 7 yX11_job ∈ TS := tsm 805 (by decide +kernel) rfl
theorem wL_X11_69 : Cond.classLink RX11 69 "java/lang/IllegalStateException" ∈ TS := tsm 809 (by decide +kernel) rfl
theorem wM_X11_71 : Cond.methodLink RX11 71 ⟨"java/lang/IllegalStateException", "<init>", "()V"⟩ ∈ TS := tsm 818 (by decide +kernel) rfl
theorem wM_X11_72 : Cond.methodLink RX11 72 yX1_tell ∈ TS := tsm 824 (by decide +kernel) rfl
theorem wM_X1_51 : Cond.methodLink RX1 51 yX7_put ∈ TS := tsm 828 (by decide +kernel) rfl
theorem wM_L_110 : Cond.methodLink RL 110 yL_after ∈ TS := tsm 829 (by decide +kernel) rfl
theorem wL_L_21 : Cond.classLink RL 21 "java/lang/IndexOutOfBoundsException" ∈ TS := tsm 832 (by decide +kernel) rfl
theorem wM_L_17 : Cond.methodLink RL 17 yX11_after ∈ TS := tsm 833 (by decide +kernel) rfl
theorem wM_X11_76 : Cond.methodLink RX11 76 yX11_needJob ∈ TS := tsm 837 (by decide +kernel) rfl
theorem wL_X11_84 : Cond.classLink RX11 84 "java/lang/IndexOutOfBoundsException" ∈ TS := tsm 841 (by decide +kernel) rfl
theorem wM_X11_86 : Cond.methodLink RX11 86 ⟨"java/lang/IndexOutOfBoundsException", "<init>", "()V"⟩ ∈ TS := tsm 850 (by decide +kernel) rfl
theorem wM_X11_80 : Cond.methodLink RX11 80 yX1_letWait ∈ TS := tsm 856 (by decide +kernel) rfl
theorem wM_L_114 : Cond.methodLink RL 114 yL_lock ∈ TS := tsm 866 (by decide +kernel) rfl
theorem wM_L_23 : Cond.methodLink RL 23 yX11_lock ∈ TS := tsm 869 (by decide +kernel) rfl
theorem wM_X11_97 : Cond.methodLink RX11 97 yX1_overlaps ∈ TS := tsm 873 (by decide +kernel) rfl
theorem wM_X11_103 : Cond.methodLink RX11 103 yX1_addStretch ∈ TS := tsm 877 (by decide +kernel) rfl
theorem wM_L_117 : Cond.methodLink RL 117 yL_turns ∈ TS := tsm 881 (by decide +kernel) rfl
theorem wM_L_26 : Cond.methodLink RL 26 yX11_turns ∈ TS := tsm 884 (by decide +kernel) rfl
theorem wM_L_125 : Cond.methodLink RL 125 yL_run ∈ TS := tsm 888 (by decide +kernel) rfl
theorem wM_L_30 : Cond.methodLink RL 30 yX11_run ∈ TS := tsm 891 (by decide +kernel) rfl
theorem wM_L_129 : Cond.methodLink RL 129 yL_running ∈ TS := tsm 895 (by decide +kernel) rfl
theorem wM_L_34 : Cond.methodLink RL 34 yX11_running ∈ TS := tsm 898 (by decide +kernel) rfl
theorem wM_X11_134 : Cond.methodLink RX11 134 yX11_needMoment ∈ TS := tsm 902 (by decide +kernel) rfl
theorem wM_X11_137 : Cond.methodLink RX11 137 yX11_needRun ∈ TS := tsm 906 (by decide +kernel) rfl
theorem wM_X11_140 : Cond.methodLink RX11 140 yX0_doingAt ∈ TS := tsm 910 (by decide +kernel) rfl
theorem wM_L_132 : Cond.methodLink RL 132 yL_left ∈ TS := tsm 911 (by decide +kernel) rfl
theorem wM_L_37 : Cond.methodLink RL 37 yX11_left ∈ TS := tsm 914 (by decide +kernel) rfl
theorem wM_X11_143 : Cond.methodLink RX11 143 yX0_leftOf ∈ TS := tsm 918 (by decide +kernel) rfl
theorem wM_L_135 : Cond.methodLink RL 135 yL_work ∈ TS := tsm 922 (by decide +kernel) rfl
theorem wM_L_40 : Cond.methodLink RL 40 yX11_work ∈ TS := tsm 925 (by decide +kernel) rfl
theorem wM_L_138 : Cond.methodLink RL 138 yL_end ∈ TS := tsm 929 (by decide +kernel) rfl
theorem wM_L_43 : Cond.methodLink RL 43 yX11_end ∈ TS := tsm 932 (by decide +kernel) rfl
theorem wM_L_141 : Cond.methodLink RL 141 yL_sumOfEnds ∈ TS := tsm 936 (by decide +kernel) rfl
theorem wM_L_46 : Cond.methodLink RL 46 yX11_sumOfEnds ∈ TS := tsm 939 (by decide +kernel) rfl
theorem wM_L_145 : Cond.methodLink RL 145 yL_waits ∈ TS := tsm 943 (by decide +kernel) rfl
theorem wM_L_50 : Cond.methodLink RL 50 yX11_waits ∈ TS := tsm 946 (by decide +kernel) rfl
theorem wM_L_148 : Cond.methodLink RL 148 yL_blocked ∈ TS := tsm 950 (by decide +kernel) rfl
theorem wM_L_53 : Cond.methodLink RL 53 yX11_blocked ∈ TS := tsm 953 (by decide +kernel) rfl
theorem wM_L_151 : Cond.methodLink RL 151 yL_late ∈ TS := tsm 957 (by decide +kernel) rfl
theorem wM_L_56 : Cond.methodLink RL 56 yX11_late ∈ TS := tsm 960 (by decide +kernel) rfl
theorem wM_X11_171 : Cond.methodLink RX11 171 yX6_lateness ∈ TS := tsm 964 (by decide +kernel) rfl
theorem wM_L_154 : Cond.methodLink RL 154 yL_slowest ∈ TS := tsm 965 (by decide +kernel) rfl
theorem wM_L_59 : Cond.methodLink RL 59 yX11_slowest ∈ TS := tsm 968 (by decide +kernel) rfl
theorem wM_L_158 : Cond.methodLink RL 158 yL_busy ∈ TS := tsm 972 (by decide +kernel) rfl
theorem wL_L_67 : Cond.classLink RL 67 "java/util/NoSuchElementException" ∈ TS := tsm 975 (by decide +kernel) rfl
theorem wM_L_63 : Cond.methodLink RL 63 yX11_busy ∈ TS := tsm 976 (by decide +kernel) rfl
theorem wM_X11_178 : Cond.methodLink RX11 178 yX0_countBusy ∈ TS := tsm 980 (by decide +kernel) rfl
theorem wM_X0_47 : Cond.methodLink RX0 47 yX0_beginsBusy ∈ TS := tsm 984 (by decide +kernel) rfl
theorem wM_X11_181 : Cond.methodLink RX11 181 yX0_busyBegin ∈ TS := tsm 988 (by decide +kernel) rfl
theorem wL_X11_184 : Cond.classLink RX11 184 "java/util/NoSuchElementException" ∈ TS := tsm 992 (by decide +kernel) rfl
theorem wM_X11_186 : Cond.methodLink RX11 186 ⟨"java/util/NoSuchElementException", "<init>", "()V"⟩ ∈ TS := tsm 1001 (by decide +kernel) rfl
theorem wM_X11_187 : Cond.methodLink RX11 187 yX0_busyEnd ∈ TS := tsm 1007 (by decide +kernel) rfl
theorem wM_L_162 : Cond.methodLink RL 162 yL_checksum ∈ TS := tsm 1011 (by decide +kernel) rfl
theorem wM_L_69 : Cond.methodLink RL 69 yX11_checksum ∈ TS := tsm 1014 (by decide +kernel) rfl
theorem wM_L_165 : Cond.methodLink RL 165 yL_which ∈ TS := tsm 1018 (by decide +kernel) rfl
theorem wM_L_72 : Cond.methodLink RL 72 yX11_which ∈ TS := tsm 1021 (by decide +kernel) rfl
theorem wM_X11_190 : Cond.methodLink RX11 190 yX0_isSameAs ∈ TS := tsm 1025 (by decide +kernel) rfl
theorem wM_L_177 : Cond.methodLink RL 177 yL_isFeasible ∈ TS := tsm 1029 (by decide +kernel) rfl
theorem wM_L_75 : Cond.methodLink RL 75 yX11_isFeasible ∈ TS := tsm 1032 (by decide +kernel) rfl
theorem wM_L_180 : Cond.methodLink RL 180 yL_full ∈ TS := tsm 1036 (by decide +kernel) rfl
theorem wM_L_79 : Cond.methodLink RL 79 yX11_full ∈ TS := tsm 1039 (by decide +kernel) rfl
theorem wM_L_183 : Cond.methodLink RL 183 yL_task ∈ TS := tsm 1040 (by decide +kernel) rfl
theorem wM_L_82 : Cond.methodLink RL 82 yX11_task ∈ TS := tsm 1043 (by decide +kernel) rfl
theorem wM_X11_213 : Cond.methodLink RX11 213 yX8_tell ∈ TS := tsm 1047 (by decide +kernel) rfl
theorem wM_X8_30 : Cond.methodLink RX8 30 yX7_put ∈ TS := tsm 1051 (by decide +kernel) rfl
theorem wM_L_192 : Cond.methodLink RL 192 yL_response ∈ TS := tsm 1052 (by decide +kernel) rfl
theorem wM_L_86 : Cond.methodLink RL 86 yX11_response ∈ TS := tsm 1055 (by decide +kernel) rfl
theorem wM_X11_223 : Cond.methodLink RX11 223 yX8_workAhead ∈ TS := tsm 1059 (by decide +kernel) rfl
theorem wM_X8_34 : Cond.methodLink RX8 34 yX7_at ∈ TS := tsm 1063 (by decide +kernel) rfl
theorem wM_X8_38 : Cond.methodLink RX8 38 yX8_goesAhead ∈ TS := tsm 1064 (by decide +kernel) rfl
theorem wM_L_195 : Cond.methodLink RL 195 yL_meanEnd ∈ TS := tsm 1068 (by decide +kernel) rfl
theorem wM_L_89 : Cond.methodLink RL 89 yX11_meanEnd ∈ TS := tsm 1071 (by decide +kernel) rfl
theorem wM_L_199 : Cond.methodLink RL 199 yL_workShare ∈ TS := tsm 1075 (by decide +kernel) rfl
theorem wM_L_93 : Cond.methodLink RL 93 yX11_workShare ∈ TS := tsm 1078 (by decide +kernel) rfl
theorem wM_X11_226 : Cond.methodLink RX11 226 yX0_countWork ∈ TS := tsm 1082 (by decide +kernel) rfl
theorem wL_L_98 : Cond.classLink RL 98 "SlicehouseModel" ∈ TS := tsm 1086 (by decide +kernel) rfl
theorem wM_L_100 : Cond.methodLink RL 100 yX12_init ∈ TS := tsm 1088 (by decide +kernel) rfl
theorem wM_X12_1 : Cond.methodLink RX12 1 ⟨"java/lang/Object", "<init>", "()V"⟩ ∈ TS := tsm 1091 (by decide +kernel) rfl
theorem wF_X12_7 : Cond.fieldLink RX12 7 "SlicehouseModel" "comes" "[I" ∈ TS := tsm 1092 (by decide +kernel) rfl
theorem wF_X12_13 : Cond.fieldLink RX12 13 "SlicehouseModel" "length" "[I" ∈ TS := tsm 1093 (by decide +kernel) rfl
theorem wF_X12_16 : Cond.fieldLink RX12 16 "SlicehouseModel" "deadline" "[I" ∈ TS := tsm 1094 (by decide +kernel) rfl
theorem wF_X12_19 : Cond.fieldLink RX12 19 "SlicehouseModel" "weight" "[I" ∈ TS := tsm 1095 (by decide +kernel) rfl
theorem wF_X12_22 : Cond.fieldLink RX12 22 "SlicehouseModel" "waitsFor" "[I" ∈ TS := tsm 1096 (by decide +kernel) rfl
theorem wF_X12_25 : Cond.fieldLink RX12 25 "SlicehouseModel" "lockMany" "[I" ∈ TS := tsm 1097 (by decide +kernel) rfl
theorem wF_X12_28 : Cond.fieldLink RX12 28 "SlicehouseModel" "lockOf" "[I" ∈ TS := tsm 1098 (by decide +kernel) rfl
theorem wF_X12_31 : Cond.fieldLink RX12 31 "SlicehouseModel" "lockFrom" "[I" ∈ TS := tsm 1099 (by decide +kernel) rfl
theorem wF_X12_34 : Cond.fieldLink RX12 34 "SlicehouseModel" "lockTo" "[I" ∈ TS := tsm 1100 (by decide +kernel) rfl
theorem wF_X12_108 : Cond.fieldLink RX12 108 "SlicehouseModel" "jobs" "I" ∈ TS := tsm 1101 (by decide +kernel) rfl
theorem wF_X12_37 : Cond.fieldLink RX12 37 "SlicehouseModel" "slice" "I" ∈ TS := tsm 1102 (by decide +kernel) rfl
theorem wF_X12_132 : Cond.fieldLink RX12 132 "SlicehouseModel" "change" "I" ∈ TS := tsm 1103 (by decide +kernel) rfl
theorem wF_X12_41 : Cond.fieldLink RX12 41 "SlicehouseModel" "rise" "I" ∈ TS := tsm 1104 (by decide +kernel) rfl
theorem wF_X12_44 : Cond.fieldLink RX12 44 "SlicehouseModel" "seed" "I" ∈ TS := tsm 1105 (by decide +kernel) rfl
theorem wF_X12_105 : Cond.fieldLink RX12 105 "SlicehouseModel" "thrown" "I" ∈ TS := tsm 1106 (by decide +kernel) rfl
theorem wF_X12_135 : Cond.fieldLink RX12 135 "SlicehouseModel" "isLending" "Z" ∈ TS := tsm 1107 (by decide +kernel) rfl
theorem wF_X12_47 : Cond.fieldLink RX12 47 "SlicehouseModel" "period" "[I" ∈ TS := tsm 1108 (by decide +kernel) rfl
theorem wF_X12_50 : Cond.fieldLink RX12 50 "SlicehouseModel" "taskLength" "[I" ∈ TS := tsm 1109 (by decide +kernel) rfl
theorem wF_X12_53 : Cond.fieldLink RX12 53 "SlicehouseModel" "taskDeadline" "[I" ∈ TS := tsm 1110 (by decide +kernel) rfl
theorem wF_X12_269 : Cond.fieldLink RX12 269 "SlicehouseModel" "tasks" "I" ∈ TS := tsm 1111 (by decide +kernel) rfl
theorem wF_X12_56 : Cond.fieldLink RX12 56 "SlicehouseModel" "log" "[I" ∈ TS := tsm 1112 (by decide +kernel) rfl
theorem wF_X12_59 : Cond.fieldLink RX12 59 "SlicehouseModel" "endOf" "[I" ∈ TS := tsm 1113 (by decide +kernel) rfl
theorem wF_X12_62 : Cond.fieldLink RX12 62 "SlicehouseModel" "readyOf" "[I" ∈ TS := tsm 1114 (by decide +kernel) rfl
theorem wF_X12_65 : Cond.fieldLink RX12 65 "SlicehouseModel" "blockedOf" "[I" ∈ TS := tsm 1115 (by decide +kernel) rfl
theorem wF_X12_214 : Cond.fieldLink RX12 214 "SlicehouseModel" "moments" "I" ∈ TS := tsm 1116 (by decide +kernel) rfl
theorem wF_X12_68 : Cond.fieldLink RX12 68 "SlicehouseModel" "latestRule" "I" ∈ TS := tsm 1117 (by decide +kernel) rfl
theorem wF_X12_71 : Cond.fieldLink RX12 71 "SlicehouseModel" "work" "[I" ∈ TS := tsm 1118 (by decide +kernel) rfl
theorem wF_X12_74 : Cond.fieldLink RX12 74 "SlicehouseModel" "left" "[I" ∈ TS := tsm 1119 (by decide +kernel) rfl
theorem wF_X12_77 : Cond.fieldLink RX12 77 "SlicehouseModel" "end" "[I" ∈ TS := tsm 1120 (by decide +kernel) rfl
theorem wF_X12_80 : Cond.fieldLink RX12 80 "SlicehouseModel" "ready" "[I" ∈ TS := tsm 1121 (by decide +kernel) rfl
theorem wF_X12_83 : Cond.fieldLink RX12 83 "SlicehouseModel" "kept" "[I" ∈ TS := tsm 1122 (by decide +kernel) rfl
theorem wF_X12_86 : Cond.fieldLink RX12 86 "SlicehouseModel" "count" "[I" ∈ TS := tsm 1123 (by decide +kernel) rfl
theorem wF_X12_89 : Cond.fieldLink RX12 89 "SlicehouseModel" "isReady" "[Z" ∈ TS := tsm 1124 (by decide +kernel) rfl
theorem wF_X12_207 : Cond.fieldLink RX12 207 "SlicehouseModel" "workMoments" "I" ∈ TS := tsm 1125 (by decide +kernel) rfl
theorem wF_X12_184 : Cond.fieldLink RX12 184 "SlicehouseModel" "ended" "I" ∈ TS := tsm 1126 (by decide +kernel) rfl
theorem wF_X12_165 : Cond.fieldLink RX12 165 "SlicehouseModel" "drawn" "I" ∈ TS := tsm 1127 (by decide +kernel) rfl
theorem wF_X12_93 : Cond.fieldLink RX12 93 "SlicehouseModel" "row" "[I" ∈ TS := tsm 1128 (by decide +kernel) rfl
theorem wF_X12_96 : Cond.fieldLink RX12 96 "SlicehouseModel" "rowMany" "[I" ∈ TS := tsm 1129 (by decide +kernel) rfl
theorem wF_X12_99 : Cond.fieldLink RX12 99 "SlicehouseModel" "levelOf" "[I" ∈ TS := tsm 1130 (by decide +kernel) rfl
theorem wF_X12_260 : Cond.fieldLink RX12 260 "SlicehouseModel" "fullFrom" "I" ∈ TS := tsm 1131 (by decide +kernel) rfl
theorem wF_X12_263 : Cond.fieldLink RX12 263 "SlicehouseModel" "fullTo" "I" ∈ TS := tsm 1132 (by decide +kernel) rfl
theorem wF_X12_102 : Cond.fieldLink RX12 102 "SlicehouseModel" "isBusy" "[Z" ∈ TS := tsm 1133 (by decide +kernel) rfl
theorem wF_X12_272 : Cond.fieldLink RX12 272 "SlicehouseModel" "busyMoments" "I" ∈ TS := tsm 1134 (by decide +kernel) rfl
theorem wM_L_107 : Cond.methodLink RL 107 yX12_thrown ∈ TS := tsm 1223 (by decide +kernel) rfl
theorem wM_L_106 : Cond.methodLink RL 106 yX12_job ∈ TS := tsm 1227 (by decide +kernel) rfl
theorem wM_X12_111 : Cond.methodLink RX12 111 yX12_in ∈ TS := tsm 1231 (by decide +kernel) rfl
theorem wM_X12_119 : Cond.methodLink RX12 119 yX12_refuse ∈ TS := tsm 1234 (by decide +kernel) rfl
theorem wM_X12_122 : Cond.methodLink RX12 122 yX12_changed ∈ TS := tsm 1238 (by decide +kernel) rfl
theorem wM_X12_115 : Cond.methodLink RX12 115 yX12_told ∈ TS := tsm 1242 (by decide +kernel) rfl
theorem wM_L_113 : Cond.methodLink RL 113 yX12_after ∈ TS := tsm 1246 (by decide +kernel) rfl
theorem wM_X12_125 : Cond.methodLink RX12 125 yX12_isJob ∈ TS := tsm 1250 (by decide +kernel) rfl
theorem wM_X12_129 : Cond.methodLink RX12 129 yX12_bits ∈ TS := tsm 1254 (by decide +kernel) rfl
theorem wM_L_116 : Cond.methodLink RL 116 yX12_lock ∈ TS := tsm 1257 (by decide +kernel) rfl
theorem wM_L_120 : Cond.methodLink RL 120 yX12_turns ∈ TS := tsm 1261 (by decide +kernel) rfl
theorem wM_L_124 : Cond.methodLink RL 124 yX12_clear ∈ TS := tsm 1265 (by decide +kernel) rfl
theorem wM_L_128 : Cond.methodLink RL 128 yX12_run ∈ TS := tsm 1269 (by decide +kernel) rfl
theorem wM_X12_210 : Cond.methodLink RX12 210 yX12_runs ∈ TS := tsm 1273 (by decide +kernel) rfl
theorem wM_X12_187 : Cond.methodLink RX12 187 yX12_begins ∈ TS := tsm 1277 (by decide +kernel) rfl
theorem wM_X12_190 : Cond.methodLink RX12 190 yX12_rises ∈ TS := tsm 1281 (by decide +kernel) rfl
theorem wM_X12_139 : Cond.methodLink RX12 139 yX12_takes ∈ TS := tsm 1285 (by decide +kernel) rfl
theorem wM_X12_142 : Cond.methodLink RX12 142 yX12_joins ∈ TS := tsm 1289 (by decide +kernel) rfl
theorem wM_X12_193 : Cond.methodLink RX12 193 yX12_becomesReady ∈ TS := tsm 1293 (by decide +kernel) rfl
theorem wM_X12_146 : Cond.methodLink RX12 146 yX12_canBegin ∈ TS := tsm 1297 (by decide +kernel) rfl
theorem wM_X12_150 : Cond.methodLink RX12 150 yX12_leastCount ∈ TS := tsm 1301 (by decide +kernel) rfl
theorem wM_X12_196 : Cond.methodLink RX12 196 yX12_chooses ∈ TS := tsm 1305 (by decide +kernel) rfl
theorem wM_X12_159 : Cond.methodLink RX12 159 yX12_isThere ∈ TS := tsm 1309 (by decide +kernel) rfl
theorem wM_X12_162 : Cond.methodLink RX12 162 yX12_keeper ∈ TS := tsm 1313 (by decide +kernel) rfl
theorem wM_X12_153 : Cond.methodLink RX12 153 yX12_needs ∈ TS := tsm 1317 (by decide +kernel) rfl
theorem wM_X12_156 : Cond.methodLink RX12 156 yX12_has ∈ TS := tsm 1321 (by decide +kernel) rfl
theorem wM_X12_176 : Cond.methodLink RX12 176 yX12_keyOf ∈ TS := tsm 1325 (by decide +kernel) rfl
theorem wM_X12_172 : Cond.methodLink RX12 172 yX12_rankOf ∈ TS := tsm 1329 (by decide +kernel) rfl
theorem wM_X12_180 : Cond.methodLink RX12 180 yX12_drawnJob ∈ TS := tsm 1333 (by decide +kernel) rfl
theorem wM_X12_169 : Cond.methodLink RX12 169 yX12_draws ∈ TS := tsm 1337 (by decide +kernel) rfl
theorem wK_X12_168 : Cond.constant RX12 168 (Int32.ofInt 1103515245) ∈ TS := tsm 1341 (by decide +kernel) rfl
theorem wM_X12_199 : Cond.methodLink RX12 199 yX12_turnOf ∈ TS := tsm 1342 (by decide +kernel) rfl
theorem wM_X12_203 : Cond.methodLink RX12 203 yX12_keepsWaiting ∈ TS := tsm 1346 (by decide +kernel) rfl
theorem wM_L_131 : Cond.methodLink RL 131 yX12_running ∈ TS := tsm 1350 (by decide +kernel) rfl
theorem wM_X12_217 : Cond.methodLink RX12 217 yX12_isRun ∈ TS := tsm 1354 (by decide +kernel) rfl
theorem wM_X12_221 : Cond.methodLink RX12 221 yX12_atMoment ∈ TS := tsm 1358 (by decide +kernel) rfl
theorem wM_L_134 : Cond.methodLink RL 134 yX12_left ∈ TS := tsm 1362 (by decide +kernel) rfl
theorem wM_X12_224 : Cond.methodLink RX12 224 yX12_leftOf ∈ TS := tsm 1366 (by decide +kernel) rfl
theorem wM_L_137 : Cond.methodLink RL 137 yX12_work ∈ TS := tsm 1370 (by decide +kernel) rfl
theorem wM_L_140 : Cond.methodLink RL 140 yX12_end ∈ TS := tsm 1374 (by decide +kernel) rfl
theorem wM_L_144 : Cond.methodLink RL 144 yX12_sumOfEnds ∈ TS := tsm 1378 (by decide +kernel) rfl
theorem wM_X12_228 : Cond.methodLink RX12 228 yX12_sumOf ∈ TS := tsm 1382 (by decide +kernel) rfl
theorem wM_L_147 : Cond.methodLink RL 147 yX12_waits ∈ TS := tsm 1386 (by decide +kernel) rfl
theorem wM_X12_231 : Cond.methodLink RX12 231 yX12_longest ∈ TS := tsm 1390 (by decide +kernel) rfl
theorem wM_L_150 : Cond.methodLink RL 150 yX12_blocked ∈ TS := tsm 1393 (by decide +kernel) rfl
theorem wM_L_153 : Cond.methodLink RL 153 yX12_late ∈ TS := tsm 1397 (by decide +kernel) rfl
theorem wM_L_157 : Cond.methodLink RL 157 yX12_slowest ∈ TS := tsm 1401 (by decide +kernel) rfl
theorem wM_X12_235 : Cond.methodLink RX12 235 yX12_common ∈ TS := tsm 1405 (by decide +kernel) rfl
theorem wM_L_161 : Cond.methodLink RL 161 yX12_busy ∈ TS := tsm 1408 (by decide +kernel) rfl
theorem wM_L_164 : Cond.methodLink RL 164 yX12_checksum ∈ TS := tsm 1412 (by decide +kernel) rfl
theorem wM_L_167 : Cond.methodLink RL 167 yX12_which ∈ TS := tsm 1416 (by decide +kernel) rfl
theorem wM_X12_239 : Cond.methodLink RX12 239 yX12_isLikeLatest ∈ TS := tsm 1420 (by decide +kernel) rfl
theorem wM_L_171 : Cond.methodLink RL 171 yX12_best ∈ TS := tsm 1424 (by decide +kernel) rfl
theorem wM_X12_242 : Cond.methodLink RX12 242 yX12_sumOfWork ∈ TS := tsm 1428 (by decide +kernel) rfl
theorem wM_L_176 : Cond.methodLink RL 176 yX12_two ∈ TS := tsm 1432 (by decide +kernel) rfl
theorem wM_X12_245 : Cond.methodLink RX12 245 yX12_works ∈ TS := tsm 1436 (by decide +kernel) rfl
theorem wM_L_179 : Cond.methodLink RL 179 yX12_isFeasible ∈ TS := tsm 1440 (by decide +kernel) rfl
theorem wM_X12_248 : Cond.methodLink RX12 248 yX12_isAnyWaiting ∈ TS := tsm 1444 (by decide +kernel) rfl
theorem wM_X12_251 : Cond.methodLink RX12 251 yX12_denies ∈ TS := tsm 1448 (by decide +kernel) rfl
theorem wM_X12_254 : Cond.methodLink RX12 254 yX12_areKept ∈ TS := tsm 1452 (by decide +kernel) rfl
theorem wM_L_182 : Cond.methodLink RL 182 yX12_full ∈ TS := tsm 1456 (by decide +kernel) rfl
theorem wM_X12_266 : Cond.methodLink RX12 266 yX12_isAnyFull ∈ TS := tsm 1460 (by decide +kernel) rfl
theorem wM_X12_257 : Cond.methodLink RX12 257 yX12_workWithin ∈ TS := tsm 1464 (by decide +kernel) rfl
theorem wM_L_186 : Cond.methodLink RL 186 yX12_task ∈ TS := tsm 1468 (by decide +kernel) rfl
theorem wM_L_191 : Cond.methodLink RL 191 yX12_load ∈ TS := tsm 1472 (by decide +kernel) rfl
theorem wM_L_194 : Cond.methodLink RL 194 yX12_response ∈ TS := tsm 1476 (by decide +kernel) rfl
theorem wM_L_198 : Cond.methodLink RL 198 yX12_meanEnd ∈ TS := tsm 1480 (by decide +kernel) rfl
theorem wM_L_201 : Cond.methodLink RL 201 yX12_workShare ∈ TS := tsm 1484 (by decide +kernel) rfl
theorem wM_L_205 : Cond.methodLink RL 205 yX12_errors ∈ TS := tsm 1488 (by decide +kernel) rfl
theorem wM_X12_278 : Cond.methodLink RX12 278 yX12_isLikeBusy ∈ TS := tsm 1492 (by decide +kernel) rfl
theorem wM_X12_281 : Cond.methodLink RX12 281 yX12_lentErrors ∈ TS := tsm 1496 (by decide +kernel) rfl
theorem wM_X12_275 : Cond.methodLink RX12 275 yX12_longestFor ∈ TS := tsm 1500 (by decide +kernel) rfl
theorem kv_X0_note : KV 0 RX0 TX0 3 yX0_note cX0_note 2 none 1 := ⟨rfl, ⟨tsm 596 (by decide +kernel) rfl, tsm 597 (by decide +kernel) rfl, wI_X0, tsm 598 (by decide +kernel) rfl⟩, by decide +kernel⟩
theorem kv_X0_doingAt : KV 0 RX0 TX0 3 yX0_doingAt cX0_doingAt 2 (some .int) 1 := ⟨rfl, ⟨tsm 671 (by decide +kernel) rfl, tsm 672 (by decide +kernel) rfl, wI_X0, tsm 673 (by decide +kernel) rfl⟩, by decide +kernel⟩
theorem kv_X0_leftOf : KV 0 RX0 TX0 3 yX0_leftOf cX0_leftOf 5 (some .int) 2 := ⟨rfl, ⟨tsm 919 (by decide +kernel) rfl, tsm 920 (by decide +kernel) rfl, wI_X0, tsm 921 (by decide +kernel) rfl⟩, by decide +kernel⟩
theorem kv_X0_firstWork : KV 0 RX0 TX0 3 yX0_firstWork cX0_firstWork 3 (some .int) 1 := ⟨rfl, ⟨tsm 777 (by decide +kernel) rfl, tsm 778 (by decide +kernel) rfl, wI_X0, tsm 779 (by decide +kernel) rfl⟩, by decide +kernel⟩
theorem kv_X0_longestGap : KV 0 RX0 TX0 3 yX0_longestGap cX0_longestGap 6 (some .int) 2 := ⟨rfl, ⟨tsm 781 (by decide +kernel) rfl, tsm 782 (by decide +kernel) rfl, wI_X0, tsm 783 (by decide +kernel) rfl⟩, by decide +kernel⟩
theorem kv_X0_countWork : KV 0 RX0 TX0 3 yX0_countWork cX0_countWork 3 (some .int) 0 := ⟨rfl, ⟨tsm 1083 (by decide +kernel) rfl, tsm 1084 (by decide +kernel) rfl, wI_X0, tsm 1085 (by decide +kernel) rfl⟩, by decide +kernel⟩
theorem kv_X0_countBusy : KV 0 RX0 TX0 3 yX0_countBusy cX0_countBusy 3 (some .int) 0 := ⟨rfl, ⟨tsm 981 (by decide +kernel) rfl, tsm 982 (by decide +kernel) rfl, wI_X0, tsm 983 (by decide +kernel) rfl⟩, by decide +kernel⟩
theorem kv_X0_busyBegin : KV 0 RX0 TX0 3 yX0_busyBegin cX0_busyBegin 4 (some .int) 1 := ⟨rfl, ⟨tsm 989 (by decide +kernel) rfl, tsm 990 (by decide +kernel) rfl, wI_X0, tsm 991 (by decide +kernel) rfl⟩, by decide +kernel⟩
theorem kv_X0_busyEnd : KV 0 RX0 TX0 3 yX0_busyEnd cX0_busyEnd 3 (some .int) 1 := ⟨rfl, ⟨tsm 1008 (by decide +kernel) rfl, tsm 1009 (by decide +kernel) rfl, wI_X0, tsm 1010 (by decide +kernel) rfl⟩, by decide +kernel⟩
theorem kv_X0_beginsBusy : KV 0 RX0 TX0 3 yX0_beginsBusy cX0_beginsBusy 2 (some .boolean) 1 := ⟨rfl, ⟨tsm 986 (by decide +kernel) rfl, tsm 26 (by decide +kernel) rfl, wI_X0, tsm 987 (by decide +kernel) rfl⟩, by decide +kernel⟩
theorem kv_X0_isSameAs : KV 0 RX0 TX0 3 yX0_isSameAs cX0_isSameAs 3 (some .boolean) 1 := ⟨rfl, ⟨tsm 1026 (by decide +kernel) rfl, tsm 1027 (by decide +kernel) rfl, wI_X0, tsm 1028 (by decide +kernel) rfl⟩, by decide +kernel⟩
theorem kv_X0_isAsBusyAs : KV 0 RX0 TX0 3 yX0_isAsBusyAs cX0_isAsBusyAs 6 (some .boolean) 1 := ⟨rfl, ⟨tsm 666 (by decide +kernel) rfl, tsm 667 (by decide +kernel) rfl, wI_X0, tsm 668 (by decide +kernel) rfl⟩, by decide +kernel⟩
theorem kv_X1_tell : KV 1 RX1 TX1 11 yX1_tell cX1_tell 6 (some .int) 4 := ⟨rfl, ⟨tsm 825 (by decide +kernel) rfl, tsm 826 (by decide +kernel) rfl, wI_X1, tsm 827 (by decide +kernel) rfl⟩, by decide +kernel⟩
theorem kv_X1_letWait : KV 1 RX1 TX1 11 yX1_letWait cX1_letWait 4 (some .int) 2 := ⟨rfl, ⟨tsm 857 (by decide +kernel) rfl, tsm 858 (by decide +kernel) rfl, wI_X1, tsm 859 (by decide +kernel) rfl⟩, by decide +kernel⟩
theorem kv_X1_someWait : KV 1 RX1 TX1 11 yX1_someWait cX1_someWait 2 (some .boolean) 0 := ⟨rfl, ⟨tsm 676 (by decide +kernel) rfl, tsm 677 (by decide +kernel) rfl, wI_X1, tsm 678 (by decide +kernel) rfl⟩, by decide +kernel⟩
theorem kv_X1_addStretch : KV 1 RX1 TX1 11 yX1_addStretch cX1_addStretch 7 (some .int) 4 := ⟨rfl, ⟨tsm 878 (by decide +kernel) rfl, tsm 879 (by decide +kernel) rfl, wI_X1, tsm 880 (by decide +kernel) rfl⟩, by decide +kernel⟩
theorem kv_X1_overlaps : KV 1 RX1 TX1 11 yX1_overlaps cX1_overlaps 6 (some .boolean) 3 := ⟨rfl, ⟨tsm 874 (by decide +kernel) rfl, tsm 875 (by decide +kernel) rfl, wI_X1, tsm 876 (by decide +kernel) rfl⟩, by decide +kernel⟩
theorem kv_X1_lockAt : KV 1 RX1 TX1 11 yX1_lockAt cX1_lockAt 7 (some .int) 3 := ⟨rfl, ⟨tsm 536 (by decide +kernel) rfl, tsm 537 (by decide +kernel) rfl, wI_X1, tsm 538 (by decide +kernel) rfl⟩, by decide +kernel⟩
theorem kv_X1_highest : KV 1 RX1 TX1 11 yX1_highest cX1_highest 5 (some .int) 0 := ⟨rfl, ⟨tsm 789 (by decide +kernel) rfl, tsm 790 (by decide +kernel) rfl, wI_X1, tsm 791 (by decide +kernel) rfl⟩, by decide +kernel⟩
theorem kv_X1_mostKept : KV 1 RX1 TX1 11 yX1_mostKept cX1_mostKept 5 (some .int) 1 := ⟨rfl, ⟨tsm 793 (by decide +kernel) rfl, tsm 794 (by decide +kernel) rfl, wI_X1, tsm 795 (by decide +kernel) rfl⟩, by decide +kernel⟩
theorem kv_X1_longestRest : KV 1 RX1 TX1 11 yX1_longestRest cX1_longestRest 7 (some .int) 2 := ⟨rfl, ⟨tsm 798 (by decide +kernel) rfl, tsm 22 (by decide +kernel) rfl, wI_X1, tsm 799 (by decide +kernel) rfl⟩, by decide +kernel⟩
theorem kv_X1_fullEnd : KV 1 RX1 TX1 11 yX1_fullEnd cX1_fullEnd 6 (some .int) 1 := ⟨rfl, ⟨tsm 763 (by decide +kernel) rfl, tsm 764 (by decide +kernel) rfl, wI_X1, tsm 765 (by decide +kernel) rfl⟩, by decide +kernel⟩
theorem kv_X1_workBetween : KV 1 RX1 TX1 11 yX1_workBetween cX1_workBetween 6 (some .int) 2 := ⟨rfl, ⟨tsm 768 (by decide +kernel) rfl, tsm 769 (by decide +kernel) rfl, wI_X1, tsm 770 (by decide +kernel) rfl⟩, by decide +kernel⟩
theorem kv_X2_empty : KV 2 RX2 TX2 3 yX2_empty cX2_empty 1 none 0 := ⟨rfl, ⟨tsm 465 (by decide +kernel) rfl, tsm 466 (by decide +kernel) rfl, wI_X2, tsm 467 (by decide +kernel) rfl⟩, by decide +kernel⟩
theorem kv_X2_lineOf : KV 2 RX2 TX2 3 yX2_lineOf cX2_lineOf 2 (some (.object "Slicehouse$Line")) 1 := ⟨rfl, ⟨tsm 515 (by decide +kernel) rfl, tsm 516 (by decide +kernel) rfl, wI_X2, tsm 517 (by decide +kernel) rfl⟩, by decide +kernel⟩
theorem kv_X2_rise : KV 2 RX2 TX2 3 yX2_rise cX2_rise 1 none 0 := ⟨rfl, ⟨tsm 485 (by decide +kernel) rfl, tsm 486 (by decide +kernel) rfl, wI_X2, tsm 487 (by decide +kernel) rfl⟩, by decide +kernel⟩
theorem kv_X2_lowest : KV 2 RX2 TX2 3 yX2_lowest cX2_lowest 1 (some .int) 0 := ⟨rfl, ⟨tsm 558 (by decide +kernel) rfl, tsm 559 (by decide +kernel) rfl, wI_X2, tsm 560 (by decide +kernel) rfl⟩, by decide +kernel⟩
theorem kv_X3_empty : KV 3 RX3 TX3 2 yX3_empty cX3_empty 1 none 0 := ⟨rfl, ⟨tsm 469 (by decide +kernel) rfl, tsm 470 (by decide +kernel) rfl, wI_X3, tsm 471 (by decide +kernel) rfl⟩, by decide +kernel⟩
theorem kv_X3_isEmpty : KV 3 RX3 TX3 2 yX3_isEmpty cX3_isEmpty 1 (some .boolean) 0 := ⟨rfl, ⟨tsm 562 (by decide +kernel) rfl, tsm 563 (by decide +kernel) rfl, wI_X3, tsm 564 (by decide +kernel) rfl⟩, by decide +kernel⟩
theorem kv_X3_join : KV 3 RX3 TX3 2 yX3_join cX3_join 2 none 1 := ⟨rfl, ⟨tsm 493 (by decide +kernel) rfl, tsm 494 (by decide +kernel) rfl, wI_X3, tsm 495 (by decide +kernel) rfl⟩, by decide +kernel⟩
theorem kv_X3_takeFirst : KV 3 RX3 TX3 2 yX3_takeFirst cX3_takeFirst 3 (some .int) 0 := ⟨rfl, ⟨tsm 566 (by decide +kernel) rfl, tsm 567 (by decide +kernel) rfl, wI_X3, tsm 568 (by decide +kernel) rfl⟩, by decide +kernel⟩
theorem kv_X3_moveTo : KV 3 RX3 TX3 2 yX3_moveTo cX3_moveTo 3 none 1 := ⟨rfl, ⟨tsm 489 (by decide +kernel) rfl, tsm 490 (by decide +kernel) rfl, wI_X3, tsm 491 (by decide +kernel) rfl⟩, by decide +kernel⟩
theorem kv_X4_look : KV 4 RX4 TX4 5 yX4_look cX4_look 5 none 1 := ⟨rfl, ⟨tsm 527 (by decide +kernel) rfl, tsm 528 (by decide +kernel) rfl, wI_X4, tsm 529 (by decide +kernel) rfl⟩, by decide +kernel⟩
theorem kv_X4_isBlocked : KV 4 RX4 TX4 5 yX4_isBlocked cX4_isBlocked 2 (some .boolean) 1 := ⟨rfl, ⟨tsm 547 (by decide +kernel) rfl, tsm 548 (by decide +kernel) rfl, wI_X4, tsm 549 (by decide +kernel) rfl⟩, by decide +kernel⟩
theorem kv_X4_greatest : KV 4 RX4 TX4 5 yX4_greatest cX4_greatest 4 (some .int) 0 := ⟨rfl, ⟨tsm 576 (by decide +kernel) rfl, tsm 577 (by decide +kernel) rfl, wI_X4, tsm 578 (by decide +kernel) rfl⟩, by decide +kernel⟩
theorem kv_X5_workBy : KV 5 RX5 TX5 2 yX5_workBy cX5_workBy 5 none 1 := ⟨rfl, ⟨tsm 627 (by decide +kernel) rfl, tsm 628 (by decide +kernel) rfl, wI_X5, tsm 629 (by decide +kernel) rfl⟩, by decide +kernel⟩
theorem kv_X5_least : KV 5 RX5 TX5 2 yX5_least cX5_least 7 (some .int) 2 := ⟨rfl, ⟨tsm 635 (by decide +kernel) rfl, tsm 14 (by decide +kernel) rfl, wI_X5, tsm 636 (by decide +kernel) rfl⟩, by decide +kernel⟩
theorem kv_X6_begin : KV 6 RX6 TX6 7 yX6_begin cX6_begin 2 none 0 := ⟨rfl, ⟨tsm 453 (by decide +kernel) rfl, tsm 454 (by decide +kernel) rfl, wI_X6, tsm 455 (by decide +kernel) rfl⟩, by decide +kernel⟩
theorem kv_X6_admit : KV 6 RX6 TX6 7 yX6_admit cX6_admit 6 (some .int) 1 := ⟨rfl, ⟨tsm 497 (by decide +kernel) rfl, tsm 498 (by decide +kernel) rfl, wI_X6, tsm 499 (by decide +kernel) rfl⟩, by decide +kernel⟩
theorem kv_X6_isReady : KV 6 RX6 TX6 7 yX6_isReady cX6_isReady 2 (some .boolean) 1 := ⟨rfl, ⟨tsm 543 (by decide +kernel) rfl, tsm 544 (by decide +kernel) rfl, wI_X6, tsm 545 (by decide +kernel) rfl⟩, by decide +kernel⟩
theorem kv_X6_isOver : KV 6 RX6 TX6 7 yX6_isOver cX6_isOver 1 (some .boolean) 0 := ⟨rfl, ⟨tsm 477 (by decide +kernel) rfl, tsm 478 (by decide +kernel) rfl, wI_X6, tsm 479 (by decide +kernel) rfl⟩, by decide +kernel⟩
theorem kv_X6_done : KV 6 RX6 TX6 7 yX6_done cX6_done 2 (some .int) 1 := ⟨rfl, ⟨tsm 532 (by decide +kernel) rfl, tsm 533 (by decide +kernel) rfl, wI_X6, tsm 534 (by decide +kernel) rfl⟩, by decide +kernel⟩
theorem kv_X6_spendOn : KV 6 RX6 TX6 7 yX6_spendOn cX6_spendOn 3 none 2 := ⟨rfl, ⟨tsm 614 (by decide +kernel) rfl, tsm 615 (by decide +kernel) rfl, wI_X6, tsm 616 (by decide +kernel) rfl⟩, by decide +kernel⟩
theorem kv_X6_endsTogether : KV 6 RX6 TX6 7 yX6_endsTogether cX6_endsTogether 3 (some .int) 0 := ⟨rfl, ⟨tsm 619 (by decide +kernel) rfl, tsm 620 (by decide +kernel) rfl, wI_X6, tsm 621 (by decide +kernel) rfl⟩, by decide +kernel⟩
theorem kv_X6_lateness : KV 6 RX6 TX6 7 yX6_lateness cX6_lateness 3 (some .int) 1 := ⟨rfl, ⟨tsm 645 (by decide +kernel) rfl, tsm 646 (by decide +kernel) rfl, wI_X6, tsm 647 (by decide +kernel) rfl⟩, by decide +kernel⟩
theorem kv_X6_countLate : KV 6 RX6 TX6 7 yX6_countLate cX6_countLate 3 (some .int) 0 := ⟨rfl, ⟨tsm 641 (by decide +kernel) rfl, tsm 642 (by decide +kernel) rfl, wI_X6, tsm 643 (by decide +kernel) rfl⟩, by decide +kernel⟩
theorem kv_X7_at : KV 7 RX7 TX7 1 yX7_at cX7_at 2 (some .int) 1 := ⟨rfl, ⟨tsm 457 (by decide +kernel) rfl, tsm 458 (by decide +kernel) rfl, wI_X7, tsm 459 (by decide +kernel) rfl⟩, by decide +kernel⟩
theorem kv_X7_put : KV 7 RX7 TX7 1 yX7_put cX7_put 3 none 2 := ⟨rfl, ⟨tsm 461 (by decide +kernel) rfl, tsm 462 (by decide +kernel) rfl, wI_X7, tsm 463 (by decide +kernel) rfl⟩, by decide +kernel⟩
theorem kv_X7_add : KV 7 RX7 TX7 1 yX7_add cX7_add 3 none 2 := ⟨rfl, ⟨tsm 606 (by decide +kernel) rfl, tsm 607 (by decide +kernel) rfl, wI_X7, tsm 608 (by decide +kernel) rfl⟩, by decide +kernel⟩
theorem kv_X7_fill : KV 7 RX7 TX7 1 yX7_fill cX7_fill 3 none 1 := ⟨rfl, ⟨tsm 473 (by decide +kernel) rfl, tsm 474 (by decide +kernel) rfl, wI_X7, tsm 475 (by decide +kernel) rfl⟩, by decide +kernel⟩
theorem kv_X8_tell : KV 8 RX8 TX8 4 yX8_tell cX8_tell 5 (some .int) 3 := ⟨rfl, ⟨tsm 1048 (by decide +kernel) rfl, tsm 1049 (by decide +kernel) rfl, wI_X8, tsm 1050 (by decide +kernel) rfl⟩, by decide +kernel⟩
theorem kv_X8_workAhead : KV 8 RX8 TX8 4 yX8_workAhead cX8_workAhead 6 (some .int) 2 := ⟨rfl, ⟨tsm 1060 (by decide +kernel) rfl, tsm 1061 (by decide +kernel) rfl, wI_X8, tsm 1062 (by decide +kernel) rfl⟩, by decide +kernel⟩
theorem kv_X8_goesAhead : KV 8 RX8 TX8 4 yX8_goesAhead cX8_goesAhead 4 (some .boolean) 2 := ⟨rfl, ⟨tsm 1066 (by decide +kernel) rfl, tsm 27 (by decide +kernel) rfl, wI_X8, tsm 1067 (by decide +kernel) rfl⟩, by decide +kernel⟩
theorem kv_X10_follow : KV 10 RX10 TX10 18 yX10_follow cX10_follow 6 none 4 := ⟨rfl, ⟨tsm 445 (by decide +kernel) rfl, tsm 446 (by decide +kernel) rfl, wI_X10, tsm 447 (by decide +kernel) rfl⟩, by decide +kernel⟩
theorem kv_X10_begin : KV 10 RX10 TX10 18 yX10_begin cX10_begin 1 none 0 := ⟨rfl, ⟨tsm 450 (by decide +kernel) rfl, tsm 0 (by decide +kernel) rfl, wI_X10, tsm 451 (by decide +kernel) rfl⟩, by decide +kernel⟩
theorem kv_X10_beginMoment : KV 10 RX10 TX10 18 yX10_beginMoment cX10_beginMoment 4 none 1 := ⟨rfl, ⟨tsm 482 (by decide +kernel) rfl, tsm 1 (by decide +kernel) rfl, wI_X10, tsm 483 (by decide +kernel) rfl⟩, by decide +kernel⟩
theorem kv_X10_welcome : KV 10 RX10 TX10 18 yX10_welcome cX10_welcome 4 none 2 := ⟨rfl, ⟨tsm 507 (by decide +kernel) rfl, tsm 3 (by decide +kernel) rfl, wI_X10, tsm 508 (by decide +kernel) rfl⟩, by decide +kernel⟩
theorem kv_X10_leastCount : KV 10 RX10 TX10 18 yX10_leastCount cX10_leastCount 4 (some .int) 1 := ⟨rfl, ⟨tsm 502 (by decide +kernel) rfl, tsm 2 (by decide +kernel) rfl, wI_X10, tsm 503 (by decide +kernel) rfl⟩, by decide +kernel⟩
theorem kv_X10_endSlice : KV 10 RX10 TX10 18 yX10_endSlice cX10_endSlice 2 none 0 := ⟨rfl, ⟨tsm 521 (by decide +kernel) rfl, tsm 5 (by decide +kernel) rfl, wI_X10, tsm 522 (by decide +kernel) rfl⟩, by decide +kernel⟩
theorem kv_X10_usesLevels : KV 10 RX10 TX10 18 yX10_usesLevels cX10_usesLevels 1 (some .boolean) 0 := ⟨rfl, ⟨tsm 512 (by decide +kernel) rfl, tsm 4 (by decide +kernel) rfl, wI_X10, tsm 513 (by decide +kernel) rfl⟩, by decide +kernel⟩
theorem kv_X10_choose : KV 10 RX10 TX10 18 yX10_choose cX10_choose 1 none 0 := ⟨rfl, ⟨tsm 555 (by decide +kernel) rfl, tsm 6 (by decide +kernel) rfl, wI_X10, tsm 556 (by decide +kernel) rfl⟩, by decide +kernel⟩
theorem kv_X10_turnOf : KV 10 RX10 TX10 18 yX10_turnOf cX10_turnOf 2 (some .int) 1 := ⟨rfl, ⟨tsm 589 (by decide +kernel) rfl, tsm 10 (by decide +kernel) rfl, wI_X10, tsm 590 (by decide +kernel) rfl⟩, by decide +kernel⟩
theorem kv_X10_drawn : KV 10 RX10 TX10 18 yX10_drawn cX10_drawn 4 (some .int) 0 := ⟨rfl, ⟨tsm 571 (by decide +kernel) rfl, tsm 7 (by decide +kernel) rfl, wI_X10, tsm 572 (by decide +kernel) rfl⟩, by decide +kernel⟩
theorem kv_X10_leastByKey : KV 10 RX10 TX10 18 yX10_leastByKey cX10_leastByKey 5 (some .int) 0 := ⟨rfl, ⟨tsm 581 (by decide +kernel) rfl, tsm 8 (by decide +kernel) rfl, wI_X10, tsm 582 (by decide +kernel) rfl⟩, by decide +kernel⟩
theorem kv_X10_keyOf : KV 10 RX10 TX10 18 yX10_keyOf cX10_keyOf 2 (some .int) 1 := ⟨rfl, ⟨tsm 585 (by decide +kernel) rfl, tsm 9 (by decide +kernel) rfl, wI_X10, tsm 586 (by decide +kernel) rfl⟩, by decide +kernel⟩
theorem kv_X10_pass : KV 10 RX10 TX10 18 yX10_pass cX10_pass 2 none 1 := ⟨rfl, ⟨tsm 593 (by decide +kernel) rfl, tsm 11 (by decide +kernel) rfl, wI_X10, tsm 594 (by decide +kernel) rfl⟩, by decide +kernel⟩
theorem kv_X10_workAtChosen : KV 10 RX10 TX10 18 yX10_workAtChosen cX10_workAtChosen 3 none 1 := ⟨rfl, ⟨tsm 611 (by decide +kernel) rfl, tsm 13 (by decide +kernel) rfl, wI_X10, tsm 612 (by decide +kernel) rfl⟩, by decide +kernel⟩
theorem kv_X10_countKept : KV 10 RX10 TX10 18 yX10_countKept cX10_countKept 3 none 0 := ⟨rfl, ⟨tsm 602 (by decide +kernel) rfl, tsm 12 (by decide +kernel) rfl, wI_X10, tsm 603 (by decide +kernel) rfl⟩, by decide +kernel⟩
theorem kv_X11_job : KV 11 RX11 TX11 8 yX11_job cX11_job 5 (some .int) 4 := ⟨rfl, ⟨tsm 806 (by decide +kernel) rfl, tsm 807 (by decide +kernel) rfl, wI_X11, tsm 808 (by decide +kernel) rfl⟩, by decide +kernel⟩
theorem kv_X11_after : KV 11 RX11 TX11 8 yX11_after cX11_after 3 (some .int) 2 := ⟨rfl, ⟨tsm 834 (by decide +kernel) rfl, tsm 835 (by decide +kernel) rfl, wI_X11, tsm 836 (by decide +kernel) rfl⟩, by decide +kernel⟩
theorem kv_X11_lock : KV 11 RX11 TX11 8 yX11_lock cX11_lock 5 (some .int) 4 := ⟨rfl, ⟨tsm 870 (by decide +kernel) rfl, tsm 871 (by decide +kernel) rfl, wI_X11, tsm 872 (by decide +kernel) rfl⟩, by decide +kernel⟩
theorem kv_X11_turns : KV 11 RX11 TX11 8 yX11_turns cX11_turns 7 (some .int) 5 := ⟨rfl, ⟨tsm 885 (by decide +kernel) rfl, tsm 886 (by decide +kernel) rfl, wI_X11, tsm 887 (by decide +kernel) rfl⟩, by decide +kernel⟩
theorem kv_X11_clear : KV 11 RX11 TX11 8 yX11_clear cX11_clear 2 (some .int) 0 := ⟨rfl, ⟨tsm 437 (by decide +kernel) rfl, tsm 438 (by decide +kernel) rfl, wI_X11, tsm 439 (by decide +kernel) rfl⟩, by decide +kernel⟩
theorem kv_X11_run : KV 11 RX11 TX11 8 yX11_run cX11_run 2 (some .int) 1 := ⟨rfl, ⟨tsm 892 (by decide +kernel) rfl, tsm 893 (by decide +kernel) rfl, wI_X11, tsm 894 (by decide +kernel) rfl⟩, by decide +kernel⟩
theorem kv_X11_running : KV 11 RX11 TX11 8 yX11_running cX11_running 2 (some .int) 1 := ⟨rfl, ⟨tsm 899 (by decide +kernel) rfl, tsm 900 (by decide +kernel) rfl, wI_X11, tsm 901 (by decide +kernel) rfl⟩, by decide +kernel⟩
theorem kv_X11_left : KV 11 RX11 TX11 8 yX11_left cX11_left 3 (some .int) 2 := ⟨rfl, ⟨tsm 915 (by decide +kernel) rfl, tsm 916 (by decide +kernel) rfl, wI_X11, tsm 917 (by decide +kernel) rfl⟩, by decide +kernel⟩
theorem kv_X11_work : KV 11 RX11 TX11 8 yX11_work cX11_work 4 (some .int) 1 := ⟨rfl, ⟨tsm 926 (by decide +kernel) rfl, tsm 927 (by decide +kernel) rfl, wI_X11, tsm 928 (by decide +kernel) rfl⟩, by decide +kernel⟩
theorem kv_X11_end : KV 11 RX11 TX11 8 yX11_end cX11_end 2 (some .int) 1 := ⟨rfl, ⟨tsm 933 (by decide +kernel) rfl, tsm 934 (by decide +kernel) rfl, wI_X11, tsm 935 (by decide +kernel) rfl⟩, by decide +kernel⟩
theorem kv_X11_sumOfEnds : KV 11 RX11 TX11 8 yX11_sumOfEnds cX11_sumOfEnds 1 (some .int) 0 := ⟨rfl, ⟨tsm 940 (by decide +kernel) rfl, tsm 941 (by decide +kernel) rfl, wI_X11, tsm 942 (by decide +kernel) rfl⟩, by decide +kernel⟩
theorem kv_X11_waits : KV 11 RX11 TX11 8 yX11_waits cX11_waits 2 (some .int) 1 := ⟨rfl, ⟨tsm 947 (by decide +kernel) rfl, tsm 948 (by decide +kernel) rfl, wI_X11, tsm 949 (by decide +kernel) rfl⟩, by decide +kernel⟩
theorem kv_X11_blocked : KV 11 RX11 TX11 8 yX11_blocked cX11_blocked 2 (some .int) 1 := ⟨rfl, ⟨tsm 954 (by decide +kernel) rfl, tsm 955 (by decide +kernel) rfl, wI_X11, tsm 956 (by decide +kernel) rfl⟩, by decide +kernel⟩
theorem kv_X11_late : KV 11 RX11 TX11 8 yX11_late cX11_late 2 (some .int) 1 := ⟨rfl, ⟨tsm 961 (by decide +kernel) rfl, tsm 962 (by decide +kernel) rfl, wI_X11, tsm 963 (by decide +kernel) rfl⟩, by decide +kernel⟩
theorem kv_X11_slowest : KV 11 RX11 TX11 8 yX11_slowest cX11_slowest 7 (some .int) 1 := ⟨rfl, ⟨tsm 969 (by decide +kernel) rfl, tsm 970 (by decide +kernel) rfl, wI_X11, tsm 971 (by decide +kernel) rfl⟩, by decide +kernel⟩
theorem kv_X11_busy : KV 11 RX11 TX11 8 yX11_busy cX11_busy 4 (some .int) 2 := ⟨rfl, ⟨tsm 977 (by decide +kernel) rfl, tsm 978 (by decide +kernel) rfl, wI_X11, tsm 979 (by decide +kernel) rfl⟩, by decide +kernel⟩
theorem kv_X11_checksum : KV 11 RX11 TX11 8 yX11_checksum cX11_checksum 3 (some .int) 0 := ⟨rfl, ⟨tsm 1015 (by decide +kernel) rfl, tsm 1016 (by decide +kernel) rfl, wI_X11, tsm 1017 (by decide +kernel) rfl⟩, by decide +kernel⟩
theorem kv_X11_which : KV 11 RX11 TX11 8 yX11_which cX11_which 3 (some .int) 0 := ⟨rfl, ⟨tsm 1022 (by decide +kernel) rfl, tsm 1023 (by decide +kernel) rfl, wI_X11, tsm 1024 (by decide +kernel) rfl⟩, by decide +kernel⟩
theorem kv_X11_best : KV 11 RX11 TX11 8 yX11_best cX11_best 5 (some .int) 0 := ⟨rfl, ⟨tsm 441 (by decide +kernel) rfl, tsm 442 (by decide +kernel) rfl, wI_X11, tsm 443 (by decide +kernel) rfl⟩, by decide +kernel⟩
theorem kv_X11_two : KV 11 RX11 TX11 8 yX11_two cX11_two 3 (some .int) 2 := ⟨rfl, ⟨tsm 623 (by decide +kernel) rfl, tsm 624 (by decide +kernel) rfl, wI_X11, tsm 625 (by decide +kernel) rfl⟩, by decide +kernel⟩
theorem kv_X11_isFeasible : KV 11 RX11 TX11 8 yX11_isFeasible cX11_isFeasible 1 (some .boolean) 0 := ⟨rfl, ⟨tsm 1033 (by decide +kernel) rfl, tsm 1034 (by decide +kernel) rfl, wI_X11, tsm 1035 (by decide +kernel) rfl⟩, by decide +kernel⟩
theorem kv_X11_full : KV 11 RX11 TX11 8 yX11_full cX11_full 4 (some .int) 1 := ⟨rfl, ⟨tsm 692 (by decide +kernel) rfl, tsm 693 (by decide +kernel) rfl, wI_X11, tsm 694 (by decide +kernel) rfl⟩, by decide +kernel⟩
theorem kv_X11_task : KV 11 RX11 TX11 8 yX11_task cX11_task 4 (some .int) 3 := ⟨rfl, ⟨tsm 1044 (by decide +kernel) rfl, tsm 1045 (by decide +kernel) rfl, wI_X11, tsm 1046 (by decide +kernel) rfl⟩, by decide +kernel⟩
theorem kv_X11_load : KV 11 RX11 TX11 8 yX11_load cX11_load 8 (some .long) 1 := ⟨rfl, ⟨tsm 650 (by decide +kernel) rfl, tsm 651 (by decide +kernel) rfl, wI_X11, tsm 652 (by decide +kernel) rfl⟩, by decide +kernel⟩
theorem kv_X11_response : KV 11 RX11 TX11 8 yX11_response cX11_response 3 (some .int) 1 := ⟨rfl, ⟨tsm 1056 (by decide +kernel) rfl, tsm 1057 (by decide +kernel) rfl, wI_X11, tsm 1058 (by decide +kernel) rfl⟩, by decide +kernel⟩
theorem kv_X11_meanEnd : KV 11 RX11 TX11 8 yX11_meanEnd cX11_meanEnd 1 (some .double) 0 := ⟨rfl, ⟨tsm 1072 (by decide +kernel) rfl, tsm 1073 (by decide +kernel) rfl, wI_X11, tsm 1074 (by decide +kernel) rfl⟩, by decide +kernel⟩
theorem kv_X11_workShare : KV 11 RX11 TX11 8 yX11_workShare cX11_workShare 1 (some .float) 0 := ⟨rfl, ⟨tsm 1079 (by decide +kernel) rfl, tsm 1080 (by decide +kernel) rfl, wI_X11, tsm 1081 (by decide +kernel) rfl⟩, by decide +kernel⟩
theorem kv_X11_errors : KV 11 RX11 TX11 8 yX11_errors cX11_errors 3 (some .int) 0 := ⟨rfl, ⟨tsm 658 (by decide +kernel) rfl, tsm 659 (by decide +kernel) rfl, wI_X11, tsm 660 (by decide +kernel) rfl⟩, by decide +kernel⟩
theorem kv_X11_haveRulesSameBusyTime : KV 11 RX11 TX11 8 yX11_haveRulesSameBusyTime cX11_haveRulesSameBusyTime 2 (some .boolean) 0 := ⟨rfl, ⟨tsm 663 (by decide +kernel) rfl, tsm 15 (by decide +kernel) rfl, wI_X11, tsm 664 (by decide +kernel) rfl⟩, by decide +kernel⟩
theorem kv_X11_hasLeastLeftLeastEnds : KV 11 RX11 TX11 8 yX11_hasLeastLeftLeastEnds cX11_hasLeastLeftLeastEnds 3 (some .boolean) 0 := ⟨rfl, ⟨tsm 685 (by decide +kernel) rfl, tsm 17 (by decide +kernel) rfl, wI_X11, tsm 686 (by decide +kernel) rfl⟩, by decide +kernel⟩
theorem kv_X11_keepsDeadlines : KV 11 RX11 TX11 8 yX11_keepsDeadlines cX11_keepsDeadlines 2 (some .boolean) 1 := ⟨rfl, ⟨tsm 681 (by decide +kernel) rfl, tsm 16 (by decide +kernel) rfl, wI_X11, tsm 682 (by decide +kernel) rfl⟩, by decide +kernel⟩
theorem kv_X11_doesSomeRuleKeepDeadlines : KV 11 RX11 TX11 8 yX11_doesSomeRuleKeepDeadlines cX11_doesSomeRuleKeepDeadlines 2 (some .boolean) 0 := ⟨rfl, ⟨tsm 689 (by decide +kernel) rfl, tsm 18 (by decide +kernel) rfl, wI_X11, tsm 690 (by decide +kernel) rfl⟩, by decide +kernel⟩
theorem kv_X11_isRingFair : KV 11 RX11 TX11 8 yX11_isRingFair cX11_isRingFair 3 (some .boolean) 0 := ⟨rfl, ⟨tsm 774 (by decide +kernel) rfl, tsm 20 (by decide +kernel) rfl, wI_X11, tsm 775 (by decide +kernel) rfl⟩, by decide +kernel⟩
theorem kv_X11_isHighestFreeInTime : KV 11 RX11 TX11 8 yX11_isHighestFreeInTime cX11_isHighestFreeInTime 2 (some .boolean) 0 := ⟨rfl, ⟨tsm 786 (by decide +kernel) rfl, tsm 21 (by decide +kernel) rfl, wI_X11, tsm 787 (by decide +kernel) rfl⟩, by decide +kernel⟩
theorem kv_X11_needJob : KV 11 RX11 TX11 8 yX11_needJob cX11_needJob 2 none 1 := ⟨rfl, ⟨tsm 839 (by decide +kernel) rfl, tsm 23 (by decide +kernel) rfl, wI_X11, tsm 840 (by decide +kernel) rfl⟩, by decide +kernel⟩
theorem kv_X11_needMoment : KV 11 RX11 TX11 8 yX11_needMoment cX11_needMoment 2 none 1 := ⟨rfl, ⟨tsm 904 (by decide +kernel) rfl, tsm 24 (by decide +kernel) rfl, wI_X11, tsm 905 (by decide +kernel) rfl⟩, by decide +kernel⟩
theorem kv_X11_needRun : KV 11 RX11 TX11 8 yX11_needRun cX11_needRun 1 none 0 := ⟨rfl, ⟨tsm 908 (by decide +kernel) rfl, tsm 25 (by decide +kernel) rfl, wI_X11, tsm 909 (by decide +kernel) rfl⟩, by decide +kernel⟩
theorem kv_X11_isOutside : KS RX11 yX11_isOutside cX11_isOutside 3 (some .boolean) 3 := ⟨⟨tsm 696 (by decide +kernel) rfl, wI_X11, tsm 697 (by decide +kernel) rfl⟩, by decide +kernel⟩
theorem kv_X11_reduced : KS RX11 yX11_reduced cX11_reduced 11 (some .long) 2 := ⟨⟨tsm 655 (by decide +kernel) rfl, wI_X11, tsm 656 (by decide +kernel) rfl⟩, by decide +kernel⟩
theorem kv_X12_thrown : KV 12 RX12 TX12 43 yX12_thrown cX12_thrown 1 (some .int) 0 := ⟨rfl, ⟨tsm 1224 (by decide +kernel) rfl, tsm 1225 (by decide +kernel) rfl, wI_X12, tsm 1226 (by decide +kernel) rfl⟩, by decide +kernel⟩
theorem kv_X12_in : KS RX12 yX12_in cX12_in 3 (some .boolean) 3 := ⟨⟨tsm 1232 (by decide +kernel) rfl, wI_X12, tsm 1233 (by decide +kernel) rfl⟩, by decide +kernel⟩
theorem kv_X12_isJob : KV 12 RX12 TX12 43 yX12_isJob cX12_isJob 2 (some .boolean) 1 := ⟨rfl, ⟨tsm 1252 (by decide +kernel) rfl, tsm 31 (by decide +kernel) rfl, wI_X12, tsm 1253 (by decide +kernel) rfl⟩, by decide +kernel⟩
theorem kv_X12_refuse : KV 12 RX12 TX12 43 yX12_refuse cX12_refuse 2 (some .int) 1 := ⟨rfl, ⟨tsm 1236 (by decide +kernel) rfl, tsm 28 (by decide +kernel) rfl, wI_X12, tsm 1237 (by decide +kernel) rfl⟩, by decide +kernel⟩
theorem kv_X12_told : KV 12 RX12 TX12 43 yX12_told cX12_told 2 (some .int) 1 := ⟨rfl, ⟨tsm 1244 (by decide +kernel) rfl, tsm 30 (by decide +kernel) rfl, wI_X12, tsm 1245 (by decide +kernel) rfl⟩, by decide +kernel⟩
theorem kv_X12_denies : KV 12 RX12 TX12 43 yX12_denies cX12_denies 2 (some .boolean) 1 := ⟨rfl, ⟨tsm 1450 (by decide +kernel) rfl, tsm 59 (by decide +kernel) rfl, wI_X12, tsm 1451 (by decide +kernel) rfl⟩, by decide +kernel⟩
theorem kv_X12_changed : KV 12 RX12 TX12 43 yX12_changed cX12_changed 2 (some .int) 1 := ⟨rfl, ⟨tsm 1240 (by decide +kernel) rfl, tsm 29 (by decide +kernel) rfl, wI_X12, tsm 1241 (by decide +kernel) rfl⟩, by decide +kernel⟩
theorem kv_X12_job : KV 12 RX12 TX12 43 yX12_job cX12_job 5 (some .int) 4 := ⟨rfl, ⟨tsm 1228 (by decide +kernel) rfl, tsm 1229 (by decide +kernel) rfl, wI_X12, tsm 1230 (by decide +kernel) rfl⟩, by decide +kernel⟩
theorem kv_X12_bits : KS RX12 yX12_bits cX12_bits 3 (some .int) 1 := ⟨⟨tsm 1255 (by decide +kernel) rfl, wI_X12, tsm 1256 (by decide +kernel) rfl⟩, by decide +kernel⟩
theorem kv_X12_after : KV 12 RX12 TX12 43 yX12_after cX12_after 3 (some .int) 2 := ⟨rfl, ⟨tsm 1247 (by decide +kernel) rfl, tsm 1248 (by decide +kernel) rfl, wI_X12, tsm 1249 (by decide +kernel) rfl⟩, by decide +kernel⟩
theorem kv_X12_lock : KV 12 RX12 TX12 43 yX12_lock cX12_lock 7 (some .int) 4 := ⟨rfl, ⟨tsm 1258 (by decide +kernel) rfl, tsm 1259 (by decide +kernel) rfl, wI_X12, tsm 1260 (by decide +kernel) rfl⟩, by decide +kernel⟩
theorem kv_X12_turns : KV 12 RX12 TX12 43 yX12_turns cX12_turns 7 (some .int) 5 := ⟨rfl, ⟨tsm 1262 (by decide +kernel) rfl, tsm 1263 (by decide +kernel) rfl, wI_X12, tsm 1264 (by decide +kernel) rfl⟩, by decide +kernel⟩
theorem kv_X12_clear : KV 12 RX12 TX12 43 yX12_clear cX12_clear 2 (some .int) 0 := ⟨rfl, ⟨tsm 1266 (by decide +kernel) rfl, tsm 1267 (by decide +kernel) rfl, wI_X12, tsm 1268 (by decide +kernel) rfl⟩, by decide +kernel⟩
theorem kv_X12_joins : KV 12 RX12 TX12 43 yX12_joins cX12_joins 3 none 2 := ⟨rfl, ⟨tsm 1291 (by decide +kernel) rfl, tsm 36 (by decide +kernel) rfl, wI_X12, tsm 1292 (by decide +kernel) rfl⟩, by decide +kernel⟩
theorem kv_X12_takes : KV 12 RX12 TX12 43 yX12_takes cX12_takes 4 (some .int) 1 := ⟨rfl, ⟨tsm 1287 (by decide +kernel) rfl, tsm 35 (by decide +kernel) rfl, wI_X12, tsm 1288 (by decide +kernel) rfl⟩, by decide +kernel⟩
theorem kv_X12_rises : KV 12 RX12 TX12 43 yX12_rises cX12_rises 2 none 0 := ⟨rfl, ⟨tsm 1283 (by decide +kernel) rfl, tsm 34 (by decide +kernel) rfl, wI_X12, tsm 1284 (by decide +kernel) rfl⟩, by decide +kernel⟩
theorem kv_X12_canBegin : KV 12 RX12 TX12 43 yX12_canBegin cX12_canBegin 5 (some .boolean) 2 := ⟨rfl, ⟨tsm 1299 (by decide +kernel) rfl, tsm 38 (by decide +kernel) rfl, wI_X12, tsm 1300 (by decide +kernel) rfl⟩, by decide +kernel⟩
theorem kv_X12_leastCount : KV 12 RX12 TX12 43 yX12_leastCount cX12_leastCount 4 (some .int) 1 := ⟨rfl, ⟨tsm 1303 (by decide +kernel) rfl, tsm 39 (by decide +kernel) rfl, wI_X12, tsm 1304 (by decide +kernel) rfl⟩, by decide +kernel⟩
theorem kv_X12_becomesReady : KV 12 RX12 TX12 43 yX12_becomesReady cX12_becomesReady 4 none 2 := ⟨rfl, ⟨tsm 1295 (by decide +kernel) rfl, tsm 37 (by decide +kernel) rfl, wI_X12, tsm 1296 (by decide +kernel) rfl⟩, by decide +kernel⟩
theorem kv_X12_isThere : KV 12 RX12 TX12 43 yX12_isThere cX12_isThere 2 (some .boolean) 1 := ⟨rfl, ⟨tsm 1311 (by decide +kernel) rfl, tsm 41 (by decide +kernel) rfl, wI_X12, tsm 1312 (by decide +kernel) rfl⟩, by decide +kernel⟩
theorem kv_X12_needs : KV 12 RX12 TX12 43 yX12_needs cX12_needs 4 (some .int) 1 := ⟨rfl, ⟨tsm 1319 (by decide +kernel) rfl, tsm 43 (by decide +kernel) rfl, wI_X12, tsm 1320 (by decide +kernel) rfl⟩, by decide +kernel⟩
theorem kv_X12_has : KV 12 RX12 TX12 43 yX12_has cX12_has 6 (some .boolean) 2 := ⟨rfl, ⟨tsm 1323 (by decide +kernel) rfl, tsm 44 (by decide +kernel) rfl, wI_X12, tsm 1324 (by decide +kernel) rfl⟩, by decide +kernel⟩
theorem kv_X12_keeper : KV 12 RX12 TX12 43 yX12_keeper cX12_keeper 4 (some .int) 1 := ⟨rfl, ⟨tsm 1315 (by decide +kernel) rfl, tsm 42 (by decide +kernel) rfl, wI_X12, tsm 1316 (by decide +kernel) rfl⟩, by decide +kernel⟩
theorem kv_X12_rankOf : KV 12 RX12 TX12 43 yX12_rankOf cX12_rankOf 5 (some .int) 2 := ⟨rfl, ⟨tsm 1331 (by decide +kernel) rfl, tsm 46 (by decide +kernel) rfl, wI_X12, tsm 1332 (by decide +kernel) rfl⟩, by decide +kernel⟩
theorem kv_X12_draws : KV 12 RX12 TX12 43 yX12_draws cX12_draws 2 (some .int) 1 := ⟨rfl, ⟨tsm 1339 (by decide +kernel) rfl, tsm 48 (by decide +kernel) rfl, wI_X12, tsm 1340 (by decide +kernel) rfl⟩, by decide +kernel⟩
theorem kv_X12_drawnJob : KV 12 RX12 TX12 43 yX12_drawnJob cX12_drawnJob 5 (some .int) 0 := ⟨rfl, ⟨tsm 1335 (by decide +kernel) rfl, tsm 47 (by decide +kernel) rfl, wI_X12, tsm 1336 (by decide +kernel) rfl⟩, by decide +kernel⟩
theorem kv_X12_keyOf : KV 12 RX12 TX12 43 yX12_keyOf cX12_keyOf 4 (some .int) 3 := ⟨rfl, ⟨tsm 1327 (by decide +kernel) rfl, tsm 45 (by decide +kernel) rfl, wI_X12, tsm 1328 (by decide +kernel) rfl⟩, by decide +kernel⟩
theorem kv_X12_chooses : KV 12 RX12 TX12 43 yX12_chooses cX12_chooses 6 (some .int) 2 := ⟨rfl, ⟨tsm 1307 (by decide +kernel) rfl, tsm 40 (by decide +kernel) rfl, wI_X12, tsm 1308 (by decide +kernel) rfl⟩, by decide +kernel⟩
theorem kv_X12_turnOf : KV 12 RX12 TX12 43 yX12_turnOf cX12_turnOf 4 (some .int) 3 := ⟨rfl, ⟨tsm 1344 (by decide +kernel) rfl, tsm 49 (by decide +kernel) rfl, wI_X12, tsm 1345 (by decide +kernel) rfl⟩, by decide +kernel⟩
theorem kv_X12_begins : KV 12 RX12 TX12 43 yX12_begins cX12_begins 2 none 0 := ⟨rfl, ⟨tsm 1279 (by decide +kernel) rfl, tsm 33 (by decide +kernel) rfl, wI_X12, tsm 1280 (by decide +kernel) rfl⟩, by decide +kernel⟩
theorem kv_X12_keepsWaiting : KV 12 RX12 TX12 43 yX12_keepsWaiting cX12_keepsWaiting 3 none 1 := ⟨rfl, ⟨tsm 1348 (by decide +kernel) rfl, tsm 50 (by decide +kernel) rfl, wI_X12, tsm 1349 (by decide +kernel) rfl⟩, by decide +kernel⟩
theorem kv_X12_runs : KV 12 RX12 TX12 43 yX12_runs cX12_runs 11 none 4 := ⟨rfl, ⟨tsm 1275 (by decide +kernel) rfl, tsm 32 (by decide +kernel) rfl, wI_X12, tsm 1276 (by decide +kernel) rfl⟩, by decide +kernel⟩
theorem kv_X12_sumOfWork : KV 12 RX12 TX12 43 yX12_sumOfWork cX12_sumOfWork 3 (some .int) 0 := ⟨rfl, ⟨tsm 1430 (by decide +kernel) rfl, tsm 56 (by decide +kernel) rfl, wI_X12, tsm 1431 (by decide +kernel) rfl⟩, by decide +kernel⟩
theorem kv_X12_run : KV 12 RX12 TX12 43 yX12_run cX12_run 3 (some .int) 1 := ⟨rfl, ⟨tsm 1270 (by decide +kernel) rfl, tsm 1271 (by decide +kernel) rfl, wI_X12, tsm 1272 (by decide +kernel) rfl⟩, by decide +kernel⟩
theorem kv_X12_isRun : KV 12 RX12 TX12 43 yX12_isRun cX12_isRun 1 (some .boolean) 0 := ⟨rfl, ⟨tsm 1356 (by decide +kernel) rfl, tsm 51 (by decide +kernel) rfl, wI_X12, tsm 1357 (by decide +kernel) rfl⟩, by decide +kernel⟩
theorem kv_X12_atMoment : KV 12 RX12 TX12 43 yX12_atMoment cX12_atMoment 2 (some .int) 1 := ⟨rfl, ⟨tsm 1360 (by decide +kernel) rfl, tsm 52 (by decide +kernel) rfl, wI_X12, tsm 1361 (by decide +kernel) rfl⟩, by decide +kernel⟩
theorem kv_X12_running : KV 12 RX12 TX12 43 yX12_running cX12_running 2 (some .int) 1 := ⟨rfl, ⟨tsm 1351 (by decide +kernel) rfl, tsm 1352 (by decide +kernel) rfl, wI_X12, tsm 1353 (by decide +kernel) rfl⟩, by decide +kernel⟩
theorem kv_X12_leftOf : KV 12 RX12 TX12 43 yX12_leftOf cX12_leftOf 5 (some .int) 2 := ⟨rfl, ⟨tsm 1368 (by decide +kernel) rfl, tsm 53 (by decide +kernel) rfl, wI_X12, tsm 1369 (by decide +kernel) rfl⟩, by decide +kernel⟩
theorem kv_X12_left : KV 12 RX12 TX12 43 yX12_left cX12_left 3 (some .int) 2 := ⟨rfl, ⟨tsm 1363 (by decide +kernel) rfl, tsm 1364 (by decide +kernel) rfl, wI_X12, tsm 1365 (by decide +kernel) rfl⟩, by decide +kernel⟩
theorem kv_X12_work : KV 12 RX12 TX12 43 yX12_work cX12_work 4 (some .int) 1 := ⟨rfl, ⟨tsm 1371 (by decide +kernel) rfl, tsm 1372 (by decide +kernel) rfl, wI_X12, tsm 1373 (by decide +kernel) rfl⟩, by decide +kernel⟩
theorem kv_X12_end : KV 12 RX12 TX12 43 yX12_end cX12_end 2 (some .int) 1 := ⟨rfl, ⟨tsm 1375 (by decide +kernel) rfl, tsm 1376 (by decide +kernel) rfl, wI_X12, tsm 1377 (by decide +kernel) rfl⟩, by decide +kernel⟩
theorem kv_X12_sumOf : KV 12 RX12 TX12 43 yX12_sumOf cX12_sumOf 3 (some .int) 0 := ⟨rfl, ⟨tsm 1384 (by decide +kernel) rfl, tsm 54 (by decide +kernel) rfl, wI_X12, tsm 1385 (by decide +kernel) rfl⟩, by decide +kernel⟩
theorem kv_X12_sumOfEnds : KV 12 RX12 TX12 43 yX12_sumOfEnds cX12_sumOfEnds 1 (some .int) 0 := ⟨rfl, ⟨tsm 1379 (by decide +kernel) rfl, tsm 1380 (by decide +kernel) rfl, wI_X12, tsm 1381 (by decide +kernel) rfl⟩, by decide +kernel⟩
theorem kv_X12_longest : KS RX12 yX12_longest cX12_longest 7 (some .int) 4 := ⟨⟨tsm 1391 (by decide +kernel) rfl, wI_X12, tsm 1392 (by decide +kernel) rfl⟩, by decide +kernel⟩
theorem kv_X12_waits : KV 12 RX12 TX12 43 yX12_waits cX12_waits 2 (some .int) 1 := ⟨rfl, ⟨tsm 1387 (by decide +kernel) rfl, tsm 1388 (by decide +kernel) rfl, wI_X12, tsm 1389 (by decide +kernel) rfl⟩, by decide +kernel⟩
theorem kv_X12_blocked : KV 12 RX12 TX12 43 yX12_blocked cX12_blocked 2 (some .int) 1 := ⟨rfl, ⟨tsm 1394 (by decide +kernel) rfl, tsm 1395 (by decide +kernel) rfl, wI_X12, tsm 1396 (by decide +kernel) rfl⟩, by decide +kernel⟩
theorem kv_X12_late : KV 12 RX12 TX12 43 yX12_late cX12_late 2 (some .int) 1 := ⟨rfl, ⟨tsm 1398 (by decide +kernel) rfl, tsm 1399 (by decide +kernel) rfl, wI_X12, tsm 1400 (by decide +kernel) rfl⟩, by decide +kernel⟩
theorem kv_X12_common : KS RX12 yX12_common cX12_common 10 (some .long) 2 := ⟨⟨tsm 1406 (by decide +kernel) rfl, wI_X12, tsm 1407 (by decide +kernel) rfl⟩, by decide +kernel⟩
theorem kv_X12_slowest : KV 12 RX12 TX12 43 yX12_slowest cX12_slowest 6 (some .int) 1 := ⟨rfl, ⟨tsm 1402 (by decide +kernel) rfl, tsm 1403 (by decide +kernel) rfl, wI_X12, tsm 1404 (by decide +kernel) rfl⟩, by decide +kernel⟩
theorem kv_X12_busy : KV 12 RX12 TX12 43 yX12_busy cX12_busy 6 (some .int) 2 := ⟨rfl, ⟨tsm 1409 (by decide +kernel) rfl, tsm 1410 (by decide +kernel) rfl, wI_X12, tsm 1411 (by decide +kernel) rfl⟩, by decide +kernel⟩
theorem kv_X12_checksum : KV 12 RX12 TX12 43 yX12_checksum cX12_checksum 3 (some .int) 0 := ⟨rfl, ⟨tsm 1413 (by decide +kernel) rfl, tsm 1414 (by decide +kernel) rfl, wI_X12, tsm 1415 (by decide +kernel) rfl⟩, by decide +kernel⟩
theorem kv_X12_isLikeLatest : KV 12 RX12 TX12 43 yX12_isLikeLatest cX12_isLikeLatest 3 (some .boolean) 0 := ⟨rfl, ⟨tsm 1422 (by decide +kernel) rfl, tsm 55 (by decide +kernel) rfl, wI_X12, tsm 1423 (by decide +kernel) rfl⟩, by decide +kernel⟩
theorem kv_X12_which : KV 12 RX12 TX12 43 yX12_which cX12_which 3 (some .int) 0 := ⟨rfl, ⟨tsm 1417 (by decide +kernel) rfl, tsm 1418 (by decide +kernel) rfl, wI_X12, tsm 1419 (by decide +kernel) rfl⟩, by decide +kernel⟩
theorem kv_X12_best : KV 12 RX12 TX12 43 yX12_best cX12_best 5 (some .int) 0 := ⟨rfl, ⟨tsm 1425 (by decide +kernel) rfl, tsm 1426 (by decide +kernel) rfl, wI_X12, tsm 1427 (by decide +kernel) rfl⟩, by decide +kernel⟩
theorem kv_X12_two : KV 12 RX12 TX12 43 yX12_two cX12_two 8 (some .int) 2 := ⟨rfl, ⟨tsm 1433 (by decide +kernel) rfl, tsm 1434 (by decide +kernel) rfl, wI_X12, tsm 1435 (by decide +kernel) rfl⟩, by decide +kernel⟩
theorem kv_X12_works : KV 12 RX12 TX12 43 yX12_works cX12_works 3 none 2 := ⟨rfl, ⟨tsm 1438 (by decide +kernel) rfl, tsm 57 (by decide +kernel) rfl, wI_X12, tsm 1439 (by decide +kernel) rfl⟩, by decide +kernel⟩
theorem kv_X12_isAnyWaiting : KV 12 RX12 TX12 43 yX12_isAnyWaiting cX12_isAnyWaiting 3 (some .boolean) 0 := ⟨rfl, ⟨tsm 1446 (by decide +kernel) rfl, tsm 58 (by decide +kernel) rfl, wI_X12, tsm 1447 (by decide +kernel) rfl⟩, by decide +kernel⟩
theorem kv_X12_areKept : KV 12 RX12 TX12 43 yX12_areKept cX12_areKept 3 (some .boolean) 0 := ⟨rfl, ⟨tsm 1454 (by decide +kernel) rfl, tsm 60 (by decide +kernel) rfl, wI_X12, tsm 1455 (by decide +kernel) rfl⟩, by decide +kernel⟩
theorem kv_X12_isFeasible : KV 12 RX12 TX12 43 yX12_isFeasible cX12_isFeasible 1 (some .boolean) 0 := ⟨rfl, ⟨tsm 1441 (by decide +kernel) rfl, tsm 1442 (by decide +kernel) rfl, wI_X12, tsm 1443 (by decide +kernel) rfl⟩, by decide +kernel⟩
theorem kv_X12_workWithin : KV 12 RX12 TX12 43 yX12_workWithin cX12_workWithin 5 (some .int) 2 := ⟨rfl, ⟨tsm 1466 (by decide +kernel) rfl, tsm 62 (by decide +kernel) rfl, wI_X12, tsm 1467 (by decide +kernel) rfl⟩, by decide +kernel⟩
theorem kv_X12_isAnyFull : KV 12 RX12 TX12 43 yX12_isAnyFull cX12_isAnyFull 3 (some .boolean) 0 := ⟨rfl, ⟨tsm 1462 (by decide +kernel) rfl, tsm 61 (by decide +kernel) rfl, wI_X12, tsm 1463 (by decide +kernel) rfl⟩, by decide +kernel⟩
theorem kv_X12_full : KV 12 RX12 TX12 43 yX12_full cX12_full 2 (some .int) 1 := ⟨rfl, ⟨tsm 1457 (by decide +kernel) rfl, tsm 1458 (by decide +kernel) rfl, wI_X12, tsm 1459 (by decide +kernel) rfl⟩, by decide +kernel⟩
theorem kv_X12_task : KV 12 RX12 TX12 43 yX12_task cX12_task 4 (some .int) 3 := ⟨rfl, ⟨tsm 1469 (by decide +kernel) rfl, tsm 1470 (by decide +kernel) rfl, wI_X12, tsm 1471 (by decide +kernel) rfl⟩, by decide +kernel⟩
theorem kv_X12_load : KV 12 RX12 TX12 43 yX12_load cX12_load 8 (some .long) 1 := ⟨rfl, ⟨tsm 1473 (by decide +kernel) rfl, tsm 1474 (by decide +kernel) rfl, wI_X12, tsm 1475 (by decide +kernel) rfl⟩, by decide +kernel⟩
theorem kv_X12_response : KV 12 RX12 TX12 43 yX12_response cX12_response 6 (some .int) 1 := ⟨rfl, ⟨tsm 1477 (by decide +kernel) rfl, tsm 1478 (by decide +kernel) rfl, wI_X12, tsm 1479 (by decide +kernel) rfl⟩, by decide +kernel⟩
theorem kv_X12_meanEnd : KV 12 RX12 TX12 43 yX12_meanEnd cX12_meanEnd 1 (some .double) 0 := ⟨rfl, ⟨tsm 1481 (by decide +kernel) rfl, tsm 1482 (by decide +kernel) rfl, wI_X12, tsm 1483 (by decide +kernel) rfl⟩, by decide +kernel⟩
theorem kv_X12_workShare : KV 12 RX12 TX12 43 yX12_workShare cX12_workShare 3 (some .float) 0 := ⟨rfl, ⟨tsm 1485 (by decide +kernel) rfl, tsm 1486 (by decide +kernel) rfl, wI_X12, tsm 1487 (by decide +kernel) rfl⟩, by decide +kernel⟩
theorem kv_X12_isLikeBusy : KV 12 RX12 TX12 43 yX12_isLikeBusy cX12_isLikeBusy 3 (some .boolean) 0 := ⟨rfl, ⟨tsm 1494 (by decide +kernel) rfl, tsm 63 (by decide +kernel) rfl, wI_X12, tsm 1495 (by decide +kernel) rfl⟩, by decide +kernel⟩
theorem kv_X12_longestFor : KV 12 RX12 TX12 43 yX12_longestFor cX12_longestFor 7 (some .int) 2 := ⟨rfl, ⟨tsm 1502 (by decide +kernel) rfl, tsm 65 (by decide +kernel) rfl, wI_X12, tsm 1503 (by decide +kernel) rfl⟩, by decide +kernel⟩
theorem kv_X12_lentErrors : KV 12 RX12 TX12 43 yX12_lentErrors cX12_lentErrors 6 (some .int) 0 := ⟨rfl, ⟨tsm 1498 (by decide +kernel) rfl, tsm 64 (by decide +kernel) rfl, wI_X12, tsm 1499 (by decide +kernel) rfl⟩, by decide +kernel⟩
theorem kv_X12_errors : KV 12 RX12 TX12 43 yX12_errors cX12_errors 9 (some .int) 0 := ⟨rfl, ⟨tsm 1489 (by decide +kernel) rfl, tsm 1490 (by decide +kernel) rfl, wI_X12, tsm 1491 (by decide +kernel) rfl⟩, by decide +kernel⟩
theorem km_max : KM Lib.Math.max.name Lib.Math.max.code := ⟨tsm 551 (by decide +kernel) rfl, tsm 87 (by decide +kernel) rfl, tsm 552 (by decide +kernel) rfl⟩
theorem km_min : KM Lib.Math.min.name Lib.Math.min.code := ⟨tsm 524 (by decide +kernel) rfl, tsm 87 (by decide +kernel) rfl, tsm 525 (by decide +kernel) rfl⟩
set_option maxRecDepth 20000 in
theorem kt_X11_62 : KT RX11 62 64 "java/lang/IllegalArgumentException" ["java/lang/RuntimeException", "java/lang/Exception"] := ⟨by decide +kernel, ⟨wL_X11_62, tsm 83 (by decide +kernel) rfl⟩, by decide +kernel, by decide +kernel, by decide +kernel, by decide +kernel⟩
set_option maxRecDepth 20000 in
theorem kt_X11_69 : KT RX11 69 71 "java/lang/IllegalStateException" ["java/lang/RuntimeException", "java/lang/Exception"] := ⟨by decide +kernel, ⟨wL_X11_69, tsm 84 (by decide +kernel) rfl⟩, by decide +kernel, by decide +kernel, by decide +kernel, by decide +kernel⟩
set_option maxRecDepth 20000 in
theorem kt_X11_84 : KT RX11 84 86 "java/lang/IndexOutOfBoundsException" ["java/lang/RuntimeException", "java/lang/Exception"] := ⟨by decide +kernel, ⟨wL_X11_84, tsm 85 (by decide +kernel) rfl⟩, by decide +kernel, by decide +kernel, by decide +kernel, by decide +kernel⟩
set_option maxRecDepth 20000 in
theorem kt_X11_184 : KT RX11 184 186 "java/util/NoSuchElementException" ["java/lang/RuntimeException", "java/lang/Exception"] := ⟨by decide +kernel, ⟨wL_X11_184, tsm 88 (by decide +kernel) rfl⟩, by decide +kernel, by decide +kernel, by decide +kernel, by decide +kernel⟩
abbrev rm_X0_init : Room := { frames := 2, cells := 0, slots := 0, locals := 41 }
abbrev rm_X0_note : Room := { frames := 1, cells := 0, slots := 0, locals := 22 }
abbrev rm_X0_doingAt : Room := { frames := 1, cells := 0, slots := 0, locals := 21 }
abbrev rm_X0_leftOf : Room := { frames := 1, cells := 0, slots := 0, locals := 21 }
abbrev rm_X0_firstWork : Room := { frames := 1, cells := 0, slots := 0, locals := 21 }
abbrev rm_X0_longestGap : Room := { frames := 1, cells := 0, slots := 0, locals := 21 }
abbrev rm_X0_countWork : Room := { frames := 1, cells := 0, slots := 0, locals := 21 }
abbrev rm_X0_countBusy : Room := { frames := 2, cells := 0, slots := 0, locals := 42 }
abbrev rm_X0_busyBegin : Room := { frames := 2, cells := 0, slots := 0, locals := 42 }
abbrev rm_X0_busyEnd : Room := { frames := 1, cells := 0, slots := 0, locals := 21 }
abbrev rm_X0_beginsBusy : Room := { frames := 1, cells := 0, slots := 0, locals := 21 }
abbrev rm_X0_isSameAs : Room := { frames := 1, cells := 0, slots := 0, locals := 21 }
abbrev rm_X0_isAsBusyAs : Room := { frames := 2, cells := 0, slots := 0, locals := 42 }
abbrev rm_X1_init : Room := { frames := 2, cells := 0, slots := 0, locals := 41 }
abbrev rm_X1_tell : Room := { frames := 1, cells := 0, slots := 0, locals := 22 }
abbrev rm_X1_letWait : Room := { frames := 1, cells := 0, slots := 0, locals := 22 }
abbrev rm_X1_someWait : Room := { frames := 1, cells := 0, slots := 0, locals := 21 }
abbrev rm_X1_addStretch : Room := { frames := 1, cells := 0, slots := 0, locals := 22 }
abbrev rm_X1_overlaps : Room := { frames := 1, cells := 0, slots := 0, locals := 21 }
abbrev rm_X1_lockAt : Room := { frames := 1, cells := 0, slots := 0, locals := 21 }
abbrev rm_X1_highest : Room := { frames := 1, cells := 0, slots := 0, locals := 21 }
abbrev rm_X1_mostKept : Room := { frames := 2, cells := 0, slots := 0, locals := 47 }
abbrev rm_X1_longestRest : Room := { frames := 1, cells := 0, slots := 0, locals := 21 }
abbrev rm_X1_fullEnd : Room := { frames := 2, cells := 0, slots := 0, locals := 46 }
abbrev rm_X1_workBetween : Room := { frames := 1, cells := 0, slots := 0, locals := 21 }
abbrev rm_X2_init : Room := { frames := 2, cells := 0, slots := 0, locals := 40 }
abbrev rm_X2_empty : Room := { frames := 1, cells := 0, slots := 0, locals := 20 }
abbrev rm_X2_lineOf : Room := { frames := 0, cells := 0, slots := 0, locals := 0 }
abbrev rm_X2_rise : Room := { frames := 2, cells := 0, slots := 0, locals := 43 }
abbrev rm_X2_lowest : Room := { frames := 1, cells := 0, slots := 0, locals := 20 }
abbrev rm_X3_init : Room := { frames := 1, cells := 0, slots := 0, locals := 20 }
abbrev rm_X3_empty : Room := { frames := 0, cells := 0, slots := 0, locals := 0 }
abbrev rm_X3_isEmpty : Room := { frames := 0, cells := 0, slots := 0, locals := 0 }
abbrev rm_X3_join : Room := { frames := 0, cells := 0, slots := 0, locals := 0 }
abbrev rm_X3_takeFirst : Room := { frames := 0, cells := 0, slots := 0, locals := 0 }
abbrev rm_X3_moveTo : Room := { frames := 1, cells := 0, slots := 0, locals := 21 }
abbrev rm_X4_init : Room := { frames := 2, cells := 0, slots := 0, locals := 41 }
abbrev rm_X4_look : Room := { frames := 2, cells := 0, slots := 0, locals := 47 }
abbrev rm_X4_isBlocked : Room := { frames := 1, cells := 0, slots := 0, locals := 21 }
abbrev rm_X4_greatest : Room := { frames := 2, cells := 0, slots := 0, locals := 42 }
abbrev rm_X5_init : Room := { frames := 3, cells := 0, slots := 0, locals := 62 }
abbrev rm_X5_workBy : Room := { frames := 2, cells := 0, slots := 0, locals := 47 }
abbrev rm_X5_least : Room := { frames := 1, cells := 0, slots := 0, locals := 21 }
abbrev rm_X6_init : Room := { frames := 2, cells := 0, slots := 0, locals := 41 }
abbrev rm_X6_begin : Room := { frames := 1, cells := 0, slots := 0, locals := 22 }
abbrev rm_X6_admit : Room := { frames := 1, cells := 0, slots := 0, locals := 22 }
abbrev rm_X6_isReady : Room := { frames := 0, cells := 0, slots := 0, locals := 0 }
abbrev rm_X6_isOver : Room := { frames := 0, cells := 0, slots := 0, locals := 0 }
abbrev rm_X6_done : Room := { frames := 1, cells := 0, slots := 0, locals := 21 }
abbrev rm_X6_spendOn : Room := { frames := 1, cells := 0, slots := 0, locals := 22 }
abbrev rm_X6_endsTogether : Room := { frames := 1, cells := 0, slots := 0, locals := 21 }
abbrev rm_X6_lateness : Room := { frames := 1, cells := 0, slots := 0, locals := 21 }
abbrev rm_X6_countLate : Room := { frames := 2, cells := 0, slots := 0, locals := 43 }
abbrev rm_X7_init : Room := { frames := 1, cells := 0, slots := 0, locals := 20 }
abbrev rm_X7_at : Room := { frames := 0, cells := 0, slots := 0, locals := 0 }
abbrev rm_X7_put : Room := { frames := 0, cells := 0, slots := 0, locals := 0 }
abbrev rm_X7_add : Room := { frames := 0, cells := 0, slots := 0, locals := 0 }
abbrev rm_X7_fill : Room := { frames := 0, cells := 0, slots := 0, locals := 0 }
abbrev rm_X8_init : Room := { frames := 2, cells := 0, slots := 0, locals := 41 }
abbrev rm_X8_tell : Room := { frames := 1, cells := 0, slots := 0, locals := 22 }
abbrev rm_X8_workAhead : Room := { frames := 2, cells := 0, slots := 0, locals := 44 }
abbrev rm_X8_goesAhead : Room := { frames := 1, cells := 0, slots := 0, locals := 21 }
abbrev rm_X9_init : Room := { frames := 1, cells := 0, slots := 0, locals := 20 }
abbrev rm_X10_init : Room := { frames := 3, cells := 0, slots := 0, locals := 63 }
abbrev rm_X10_follow : Room := { frames := 4, cells := 0, slots := 0, locals := 94 }
abbrev rm_X10_begin : Room := { frames := 2, cells := 0, slots := 0, locals := 43 }
abbrev rm_X10_beginMoment : Room := { frames := 3, cells := 0, slots := 0, locals := 71 }
abbrev rm_X10_welcome : Room := { frames := 1, cells := 0, slots := 0, locals := 22 }
abbrev rm_X10_leastCount : Room := { frames := 1, cells := 0, slots := 0, locals := 21 }
abbrev rm_X10_endSlice : Room := { frames := 1, cells := 0, slots := 0, locals := 21 }
abbrev rm_X10_usesLevels : Room := { frames := 0, cells := 0, slots := 0, locals := 0 }
abbrev rm_X10_choose : Room := { frames := 3, cells := 0, slots := 0, locals := 66 }
abbrev rm_X10_turnOf : Room := { frames := 1, cells := 0, slots := 0, locals := 21 }
abbrev rm_X10_drawn : Room := { frames := 1, cells := 0, slots := 0, locals := 21 }
abbrev rm_X10_leastByKey : Room := { frames := 2, cells := 0, slots := 0, locals := 42 }
abbrev rm_X10_keyOf : Room := { frames := 1, cells := 0, slots := 0, locals := 21 }
abbrev rm_X10_pass : Room := { frames := 3, cells := 0, slots := 0, locals := 66 }
abbrev rm_X10_workAtChosen : Room := { frames := 2, cells := 0, slots := 0, locals := 44 }
abbrev rm_X10_countKept : Room := { frames := 2, cells := 0, slots := 0, locals := 42 }
abbrev rm_X11_init : Room := { frames := 4, cells := 0, slots := 0, locals := 85 }
abbrev rm_X11_job : Room := { frames := 6, cells := 1, slots := 6, locals := 89 }
abbrev rm_X11_after : Room := { frames := 7, cells := 3, slots := 18, locals := 110 }
abbrev rm_X11_lock : Room := { frames := 7, cells := 2, slots := 12, locals := 110 }
abbrev rm_X11_turns : Room := { frames := 6, cells := 1, slots := 6, locals := 89 }
abbrev rm_X11_clear : Room := { frames := 0, cells := 0, slots := 0, locals := 0 }
abbrev rm_X11_run : Room := { frames := 6, cells := 1, slots := 6, locals := 119 }
abbrev rm_X11_running : Room := { frames := 7, cells := 2, slots := 12, locals := 110 }
abbrev rm_X11_left : Room := { frames := 7, cells := 3, slots := 18, locals := 110 }
abbrev rm_X11_work : Room := { frames := 7, cells := 2, slots := 12, locals := 110 }
abbrev rm_X11_end : Room := { frames := 7, cells := 2, slots := 12, locals := 110 }
abbrev rm_X11_sumOfEnds : Room := { frames := 7, cells := 1, slots := 6, locals := 109 }
abbrev rm_X11_waits : Room := { frames := 7, cells := 2, slots := 12, locals := 110 }
abbrev rm_X11_blocked : Room := { frames := 7, cells := 2, slots := 12, locals := 110 }
abbrev rm_X11_late : Room := { frames := 7, cells := 2, slots := 12, locals := 110 }
abbrev rm_X11_slowest : Room := { frames := 7, cells := 2, slots := 12, locals := 109 }
abbrev rm_X11_busy : Room := { frames := 7, cells := 2, slots := 12, locals := 109 }
abbrev rm_X11_checksum : Room := { frames := 7, cells := 1, slots := 6, locals := 109 }
abbrev rm_X11_which : Room := { frames := 7, cells := 1, slots := 6, locals := 119 }
abbrev rm_X11_best : Room := { frames := 5, cells := 0, slots := 0, locals := 119 }
abbrev rm_X11_two : Room := { frames := 3, cells := 0, slots := 0, locals := 71 }
abbrev rm_X11_isFeasible : Room := { frames := 6, cells := 1, slots := 6, locals := 119 }
abbrev rm_X11_full : Room := { frames := 6, cells := 1, slots := 6, locals := 89 }
abbrev rm_X11_task : Room := { frames := 6, cells := 1, slots := 6, locals := 89 }
abbrev rm_X11_load : Room := { frames := 1, cells := 0, slots := 0, locals := 30 }
abbrev rm_X11_response : Room := { frames := 6, cells := 1, slots := 6, locals := 89 }
abbrev rm_X11_meanEnd : Room := { frames := 7, cells := 1, slots := 6, locals := 109 }
abbrev rm_X11_workShare : Room := { frames := 7, cells := 1, slots := 6, locals := 109 }
abbrev rm_X11_errors : Room := { frames := 7, cells := 1, slots := 6, locals := 161 }
abbrev rm_X11_haveRulesSameBusyTime : Room := { frames := 5, cells := 0, slots := 0, locals := 119 }
abbrev rm_X11_hasLeastLeftLeastEnds : Room := { frames := 5, cells := 0, slots := 0, locals := 119 }
abbrev rm_X11_keepsDeadlines : Room := { frames := 5, cells := 0, slots := 0, locals := 119 }
abbrev rm_X11_doesSomeRuleKeepDeadlines : Room := { frames := 6, cells := 0, slots := 0, locals := 140 }
abbrev rm_X11_isRingFair : Room := { frames := 5, cells := 0, slots := 0, locals := 119 }
abbrev rm_X11_isHighestFreeInTime : Room := { frames := 5, cells := 0, slots := 0, locals := 119 }
abbrev rm_X11_needJob : Room := { frames := 6, cells := 1, slots := 6, locals := 89 }
abbrev rm_X11_needMoment : Room := { frames := 6, cells := 1, slots := 6, locals := 89 }
abbrev rm_X11_needRun : Room := { frames := 6, cells := 1, slots := 6, locals := 89 }
abbrev rm_X11_isOutside : Room := { frames := 0, cells := 0, slots := 0, locals := 0 }
abbrev rm_X11_reduced : Room := { frames := 0, cells := 0, slots := 0, locals := 0 }
abbrev rm_X12_init : Room := { frames := 1, cells := 0, slots := 0, locals := 20 }
abbrev rm_X12_thrown : Room := { frames := 0, cells := 0, slots := 0, locals := 0 }
abbrev rm_X12_in : Room := { frames := 0, cells := 0, slots := 0, locals := 0 }
abbrev rm_X12_isJob : Room := { frames := 1, cells := 0, slots := 0, locals := 22 }
abbrev rm_X12_refuse : Room := { frames := 0, cells := 0, slots := 0, locals := 0 }
abbrev rm_X12_told : Room := { frames := 0, cells := 0, slots := 0, locals := 0 }
abbrev rm_X12_denies : Room := { frames := 0, cells := 0, slots := 0, locals := 0 }
abbrev rm_X12_changed : Room := { frames := 1, cells := 0, slots := 0, locals := 21 }
abbrev rm_X12_job : Room := { frames := 2, cells := 0, slots := 0, locals := 42 }
abbrev rm_X12_bits : Room := { frames := 0, cells := 0, slots := 0, locals := 0 }
abbrev rm_X12_after : Room := { frames := 2, cells := 0, slots := 0, locals := 43 }
abbrev rm_X12_lock : Room := { frames := 2, cells := 0, slots := 0, locals := 43 }
abbrev rm_X12_turns : Room := { frames := 2, cells := 0, slots := 0, locals := 42 }
abbrev rm_X12_clear : Room := { frames := 2, cells := 0, slots := 0, locals := 42 }
abbrev rm_X12_joins : Room := { frames := 0, cells := 0, slots := 0, locals := 0 }
abbrev rm_X12_takes : Room := { frames := 0, cells := 0, slots := 0, locals := 0 }
abbrev rm_X12_rises : Room := { frames := 1, cells := 0, slots := 0, locals := 23 }
abbrev rm_X12_canBegin : Room := { frames := 0, cells := 0, slots := 0, locals := 0 }
abbrev rm_X12_leastCount : Room := { frames := 0, cells := 0, slots := 0, locals := 0 }
abbrev rm_X12_becomesReady : Room := { frames := 1, cells := 0, slots := 0, locals := 24 }
abbrev rm_X12_isThere : Room := { frames := 0, cells := 0, slots := 0, locals := 0 }
abbrev rm_X12_needs : Room := { frames := 0, cells := 0, slots := 0, locals := 0 }
abbrev rm_X12_has : Room := { frames := 0, cells := 0, slots := 0, locals := 0 }
abbrev rm_X12_keeper : Room := { frames := 1, cells := 0, slots := 0, locals := 25 }
abbrev rm_X12_rankOf : Room := { frames := 2, cells := 0, slots := 0, locals := 48 }
abbrev rm_X12_draws : Room := { frames := 0, cells := 0, slots := 0, locals := 0 }
abbrev rm_X12_drawnJob : Room := { frames := 1, cells := 0, slots := 0, locals := 21 }
abbrev rm_X12_keyOf : Room := { frames := 3, cells := 0, slots := 0, locals := 72 }
abbrev rm_X12_chooses : Room := { frames := 4, cells := 0, slots := 0, locals := 95 }
abbrev rm_X12_turnOf : Room := { frames := 0, cells := 0, slots := 0, locals := 0 }
abbrev rm_X12_begins : Room := { frames := 0, cells := 0, slots := 0, locals := 0 }
abbrev rm_X12_keepsWaiting : Room := { frames := 2, cells := 0, slots := 0, locals := 48 }
abbrev rm_X12_runs : Room := { frames := 5, cells := 0, slots := 0, locals := 120 }
abbrev rm_X12_sumOfWork : Room := { frames := 0, cells := 0, slots := 0, locals := 0 }
abbrev rm_X12_run : Room := { frames := 6, cells := 0, slots := 0, locals := 150 }
abbrev rm_X12_isRun : Room := { frames := 0, cells := 0, slots := 0, locals := 0 }
abbrev rm_X12_atMoment : Room := { frames := 0, cells := 0, slots := 0, locals := 0 }
abbrev rm_X12_running : Room := { frames := 1, cells := 0, slots := 0, locals := 21 }
abbrev rm_X12_leftOf : Room := { frames := 0, cells := 0, slots := 0, locals := 0 }
abbrev rm_X12_left : Room := { frames := 2, cells := 0, slots := 0, locals := 43 }
abbrev rm_X12_work : Room := { frames := 1, cells := 0, slots := 0, locals := 24 }
abbrev rm_X12_end : Room := { frames := 2, cells := 0, slots := 0, locals := 43 }
abbrev rm_X12_sumOf : Room := { frames := 0, cells := 0, slots := 0, locals := 0 }
abbrev rm_X12_sumOfEnds : Room := { frames := 1, cells := 0, slots := 0, locals := 22 }
abbrev rm_X12_longest : Room := { frames := 0, cells := 0, slots := 0, locals := 0 }
abbrev rm_X12_waits : Room := { frames := 2, cells := 0, slots := 0, locals := 43 }
abbrev rm_X12_blocked : Room := { frames := 2, cells := 0, slots := 0, locals := 43 }
abbrev rm_X12_late : Room := { frames := 2, cells := 0, slots := 0, locals := 43 }
abbrev rm_X12_common : Room := { frames := 0, cells := 0, slots := 0, locals := 0 }
abbrev rm_X12_slowest : Room := { frames := 1, cells := 0, slots := 0, locals := 29 }
abbrev rm_X12_busy : Room := { frames := 1, cells := 0, slots := 0, locals := 21 }
abbrev rm_X12_checksum : Room := { frames := 1, cells := 0, slots := 0, locals := 21 }
abbrev rm_X12_isLikeLatest : Room := { frames := 0, cells := 0, slots := 0, locals := 0 }
abbrev rm_X12_which : Room := { frames := 6, cells := 0, slots := 0, locals := 150 }
abbrev rm_X12_best : Room := { frames := 6, cells := 0, slots := 0, locals := 150 }
abbrev rm_X12_two : Room := { frames := 5, cells := 0, slots := 0, locals := 120 }
abbrev rm_X12_works : Room := { frames := 0, cells := 0, slots := 0, locals := 0 }
abbrev rm_X12_isAnyWaiting : Room := { frames := 0, cells := 0, slots := 0, locals := 0 }
abbrev rm_X12_areKept : Room := { frames := 0, cells := 0, slots := 0, locals := 0 }
abbrev rm_X12_isFeasible : Room := { frames := 6, cells := 0, slots := 0, locals := 150 }
abbrev rm_X12_workWithin : Room := { frames := 0, cells := 0, slots := 0, locals := 0 }
abbrev rm_X12_isAnyFull : Room := { frames := 1, cells := 0, slots := 0, locals := 24 }
abbrev rm_X12_full : Room := { frames := 2, cells := 0, slots := 0, locals := 46 }
abbrev rm_X12_task : Room := { frames := 1, cells := 0, slots := 0, locals := 22 }
abbrev rm_X12_load : Room := { frames := 1, cells := 0, slots := 0, locals := 29 }
abbrev rm_X12_response : Room := { frames := 1, cells := 0, slots := 0, locals := 22 }
abbrev rm_X12_meanEnd : Room := { frames := 1, cells := 0, slots := 0, locals := 22 }
abbrev rm_X12_workShare : Room := { frames := 1, cells := 0, slots := 0, locals := 20 }
abbrev rm_X12_isLikeBusy : Room := { frames := 0, cells := 0, slots := 0, locals := 0 }
abbrev rm_X12_longestFor : Room := { frames := 0, cells := 0, slots := 0, locals := 0 }
abbrev rm_X12_lentErrors : Room := { frames := 6, cells := 0, slots := 0, locals := 150 }
abbrev rm_X12_errors : Room := { frames := 7, cells := 0, slots := 0, locals := 175 }
abbrev rm_L_job : Room := { frames := 7, cells := 1, slots := 6, locals := 113 }
abbrev rm_L_after : Room := { frames := 8, cells := 3, slots := 18, locals := 132 }
abbrev rm_L_lock : Room := { frames := 8, cells := 2, slots := 12, locals := 134 }
abbrev rm_L_turns : Room := { frames := 7, cells := 1, slots := 6, locals := 115 }
abbrev rm_L_run : Room := { frames := 7, cells := 1, slots := 6, locals := 140 }
abbrev rm_L_running : Room := { frames := 8, cells := 2, slots := 12, locals := 131 }
abbrev rm_L_left : Room := { frames := 8, cells := 3, slots := 18, locals := 132 }
abbrev rm_L_work : Room := { frames := 8, cells := 2, slots := 12, locals := 133 }
abbrev rm_L_end : Room := { frames := 8, cells := 2, slots := 12, locals := 131 }
abbrev rm_L_sumOfEnds : Room := { frames := 8, cells := 1, slots := 6, locals := 129 }
abbrev rm_L_waits : Room := { frames := 8, cells := 2, slots := 12, locals := 131 }
abbrev rm_L_blocked : Room := { frames := 8, cells := 2, slots := 12, locals := 131 }
abbrev rm_L_late : Room := { frames := 8, cells := 2, slots := 12, locals := 131 }
abbrev rm_L_slowest : Room := { frames := 8, cells := 2, slots := 12, locals := 135 }
abbrev rm_L_busy : Room := { frames := 8, cells := 2, slots := 12, locals := 132 }
abbrev rm_L_checksum : Room := { frames := 8, cells := 1, slots := 6, locals := 131 }
abbrev rm_L_which : Room := { frames := 8, cells := 1, slots := 6, locals := 141 }
abbrev rm_L_isFeasible : Room := { frames := 7, cells := 1, slots := 6, locals := 139 }
abbrev rm_L_full : Room := { frames := 7, cells := 1, slots := 6, locals := 112 }
abbrev rm_L_task : Room := { frames := 7, cells := 1, slots := 6, locals := 112 }
abbrev rm_L_response : Room := { frames := 7, cells := 1, slots := 6, locals := 111 }
abbrev rm_L_meanEnd : Room := { frames := 8, cells := 1, slots := 6, locals := 129 }
abbrev rm_L_workShare : Room := { frames := 8, cells := 1, slots := 6, locals := 129 }
