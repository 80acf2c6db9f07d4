theorem ini_X1 : Cond.initialized "RolledOut$Reader" ∈ v_W := v_at 106 (w := Cond.initialized "RolledOut$Reader") (by decide +kernel) (by decide +kernel)
theorem ini_X2 : Cond.initialized "RolledOut$Rules" ∈ v_W := v_at 102 (w := Cond.initialized "RolledOut$Rules") (by decide +kernel) (by decide +kernel)
theorem ini_X3 : Cond.initialized "RolledOut$Shape" ∈ v_W := v_at 104 (w := Cond.initialized "RolledOut$Shape") (by decide +kernel) (by decide +kernel)
theorem ini_X4 : Cond.initialized "RolledOut$Sheet" ∈ v_W := v_at 100 (w := Cond.initialized "RolledOut$Sheet") (by decide +kernel) (by decide +kernel)
theorem ini_X5 : Cond.initialized "RolledOut$Tape" ∈ v_W := v_at 105 (w := Cond.initialized "RolledOut$Tape") (by decide +kernel) (by decide +kernel)
theorem ini_X6 : Cond.initialized "RolledOut$Text" ∈ v_W := v_at 107 (w := Cond.initialized "RolledOut$Text") (by decide +kernel) (by decide +kernel)
theorem ini_X7 : Cond.initialized "RolledOut$Trials" ∈ v_W := v_at 103 (w := Cond.initialized "RolledOut$Trials") (by decide +kernel) (by decide +kernel)
theorem ini_X8 : Cond.initialized "RolledOut$World" ∈ v_W := v_at 99 (w := Cond.initialized "RolledOut$World") (by decide +kernel) (by decide +kernel)
theorem ini_X9 : Cond.initialized "RolledOut" ∈ v_W := v_at 98 (w := Cond.initialized "RolledOut") (by decide +kernel) (by decide +kernel)
theorem ini_X10 : Cond.initialized "RolledOutModel" ∈ v_W := v_at 108 (w := Cond.initialized "RolledOutModel") (by decide +kernel) (by decide +kernel)
theorem ini_L : Cond.initialized "RolledOutLaw" ∈ v_W := v_at 97 (w := Cond.initialized "RolledOutLaw") (by decide +kernel) (by decide +kernel)
theorem ini_Arrays : Cond.initialized "java/util/Arrays" ∈ v_W := v_at 101 (w := Cond.initialized "java/util/Arrays") (by decide +kernel) (by decide +kernel)
theorem ini_String : Cond.initialized "java/lang/String" ∈ v_W := v_at 109 (w := Cond.initialized "java/lang/String") (by decide +kernel) (by decide +kernel)
theorem ini_StringLatin1 : Cond.initialized "java/lang/StringLatin1" ∈ v_W := v_at 110 (w := Cond.initialized "java/lang/StringLatin1") (by decide +kernel) (by decide +kernel)
theorem ini_Preconditions : Cond.initialized "jdk/internal/util/Preconditions" ∈ v_W := v_at 111 (w := Cond.initialized "jdk/internal/util/Preconditions") (by decide +kernel) (by decide +kernel)
theorem ini_StringUTF16 : Cond.initialized "java/lang/StringUTF16" ∈ v_W := v_at 112 (w := Cond.initialized "java/lang/StringUTF16") (by decide +kernel) (by decide +kernel)
theorem ini_Math : Cond.initialized "java/lang/Math" ∈ v_W := v_at 113 (w := Cond.initialized "java/lang/Math") (by decide +kernel) (by decide +kernel)
theorem ini_System : Cond.initialized "java/lang/System" ∈ v_W := v_at 114 (w := Cond.initialized "java/lang/System") (by decide +kernel) (by decide +kernel)
theorem ini_Integer : Cond.initialized "java/lang/Integer" ∈ v_W := v_at 115 (w := Cond.initialized "java/lang/Integer") (by decide +kernel) (by decide +kernel)
theorem fl_X4_9 : Cond.fieldLink "RolledOut$Sheet" 9 "RolledOut$Sheet" "cells" "[I" ∈ v_W := v_at 139 (w := Cond.fieldLink "RolledOut$Sheet" 9 "RolledOut$Sheet" "cells" "[I") (by decide +kernel) (by decide +kernel)
theorem fl_X2_26 : Cond.fieldLink "RolledOut$Rules" 26 "RolledOut$Sheet" "cells" "[I" ∈ v_W := v_at 140 (w := Cond.fieldLink "RolledOut$Rules" 26 "RolledOut$Sheet" "cells" "[I") (by decide +kernel) (by decide +kernel)
theorem fl_X7_52 : Cond.fieldLink "RolledOut$Trials" 52 "RolledOut$Sheet" "cells" "[I" ∈ v_W := v_at 141 (w := Cond.fieldLink "RolledOut$Trials" 52 "RolledOut$Sheet" "cells" "[I") (by decide +kernel) (by decide +kernel)
theorem fl_X8_73 : Cond.fieldLink "RolledOut$World" 73 "RolledOut$Sheet" "cells" "[I" ∈ v_W := v_at 142 (w := Cond.fieldLink "RolledOut$World" 73 "RolledOut$Sheet" "cells" "[I") (by decide +kernel) (by decide +kernel)
theorem fl_X9_126 : Cond.fieldLink "RolledOut" 126 "RolledOut$Sheet" "cells" "[I" ∈ v_W := v_at 143 (w := Cond.fieldLink "RolledOut" 126 "RolledOut$Sheet" "cells" "[I") (by decide +kernel) (by decide +kernel)
theorem fl_X4_15 : Cond.fieldLink "RolledOut$Sheet" 15 "RolledOut$Sheet" "homes" "[I" ∈ v_W := v_at 144 (w := Cond.fieldLink "RolledOut$Sheet" 15 "RolledOut$Sheet" "homes" "[I") (by decide +kernel) (by decide +kernel)
theorem fl_X8_76 : Cond.fieldLink "RolledOut$World" 76 "RolledOut$Sheet" "homes" "[I" ∈ v_W := v_at 145 (w := Cond.fieldLink "RolledOut$World" 76 "RolledOut$Sheet" "homes" "[I") (by decide +kernel) (by decide +kernel)
theorem fl_X9_196 : Cond.fieldLink "RolledOut" 196 "RolledOut$Sheet" "homes" "[I" ∈ v_W := v_at 146 (w := Cond.fieldLink "RolledOut" 196 "RolledOut$Sheet" "homes" "[I") (by decide +kernel) (by decide +kernel)
theorem fl_X4_18 : Cond.fieldLink "RolledOut$Sheet" 18 "RolledOut$Sheet" "book" "[J" ∈ v_W := v_at 147 (w := Cond.fieldLink "RolledOut$Sheet" 18 "RolledOut$Sheet" "book" "[J") (by decide +kernel) (by decide +kernel)
theorem fl_X4_42 : Cond.fieldLink "RolledOut$Sheet" 42 "RolledOut$Sheet" "written" "I" ∈ v_W := v_at 148 (w := Cond.fieldLink "RolledOut$Sheet" 42 "RolledOut$Sheet" "written" "I") (by decide +kernel) (by decide +kernel)
theorem fl_X2_55 : Cond.fieldLink "RolledOut$Rules" 55 "RolledOut$Sheet" "torn" "I" ∈ v_W := v_at 149 (w := Cond.fieldLink "RolledOut$Rules" 55 "RolledOut$Sheet" "torn" "I") (by decide +kernel) (by decide +kernel)
theorem fl_X4_48 : Cond.fieldLink "RolledOut$Sheet" 48 "RolledOut$Sheet" "torn" "I" ∈ v_W := v_at 150 (w := Cond.fieldLink "RolledOut$Sheet" 48 "RolledOut$Sheet" "torn" "I") (by decide +kernel) (by decide +kernel)
theorem fl_X7_72 : Cond.fieldLink "RolledOut$Trials" 72 "RolledOut$Sheet" "torn" "I" ∈ v_W := v_at 151 (w := Cond.fieldLink "RolledOut$Trials" 72 "RolledOut$Sheet" "torn" "I") (by decide +kernel) (by decide +kernel)
theorem fl_X9_154 : Cond.fieldLink "RolledOut" 154 "RolledOut$Sheet" "torn" "I" ∈ v_W := v_at 152 (w := Cond.fieldLink "RolledOut" 154 "RolledOut$Sheet" "torn" "I") (by decide +kernel) (by decide +kernel)
theorem fl_X2_44 : Cond.fieldLink "RolledOut$Rules" 44 "RolledOut$Sheet" "edge" "I" ∈ v_W := v_at 153 (w := Cond.fieldLink "RolledOut$Rules" 44 "RolledOut$Sheet" "edge" "I") (by decide +kernel) (by decide +kernel)
theorem fl_X4_51 : Cond.fieldLink "RolledOut$Sheet" 51 "RolledOut$Sheet" "edge" "I" ∈ v_W := v_at 154 (w := Cond.fieldLink "RolledOut$Sheet" 51 "RolledOut$Sheet" "edge" "I") (by decide +kernel) (by decide +kernel)
theorem fl_X9_138 : Cond.fieldLink "RolledOut" 138 "RolledOut$Sheet" "edge" "I" ∈ v_W := v_at 155 (w := Cond.fieldLink "RolledOut" 138 "RolledOut$Sheet" "edge" "I") (by decide +kernel) (by decide +kernel)
theorem fl_X4_45 : Cond.fieldLink "RolledOut$Sheet" 45 "RolledOut$Sheet" "ball" "I" ∈ v_W := v_at 156 (w := Cond.fieldLink "RolledOut$Sheet" 45 "RolledOut$Sheet" "ball" "I") (by decide +kernel) (by decide +kernel)
theorem fl_X9_207 : Cond.fieldLink "RolledOut" 207 "RolledOut$Sheet" "ball" "I" ∈ v_W := v_at 157 (w := Cond.fieldLink "RolledOut" 207 "RolledOut$Sheet" "ball" "I") (by decide +kernel) (by decide +kernel)
theorem fl_X7_43 : Cond.fieldLink "RolledOut$Trials" 43 "RolledOut$Sheet" "turn" "I" ∈ v_W := v_at 158 (w := Cond.fieldLink "RolledOut$Trials" 43 "RolledOut$Sheet" "turn" "I") (by decide +kernel) (by decide +kernel)
theorem fl_X4_54 : Cond.fieldLink "RolledOut$Sheet" 54 "RolledOut$Sheet" "turn" "I" ∈ v_W := v_at 159 (w := Cond.fieldLink "RolledOut$Sheet" 54 "RolledOut$Sheet" "turn" "I") (by decide +kernel) (by decide +kernel)
theorem fl_X2_97 : Cond.fieldLink "RolledOut$Rules" 97 "RolledOut$Sheet" "turn" "I" ∈ v_W := v_at 160 (w := Cond.fieldLink "RolledOut$Rules" 97 "RolledOut$Sheet" "turn" "I") (by decide +kernel) (by decide +kernel)
theorem fl_X9_151 : Cond.fieldLink "RolledOut" 151 "RolledOut$Sheet" "turn" "I" ∈ v_W := v_at 161 (w := Cond.fieldLink "RolledOut" 151 "RolledOut$Sheet" "turn" "I") (by decide +kernel) (by decide +kernel)
theorem fl_X4_22 : Cond.fieldLink "RolledOut$Sheet" 22 "RolledOut$Sheet" "draw" "I" ∈ v_W := v_at 162 (w := Cond.fieldLink "RolledOut$Sheet" 22 "RolledOut$Sheet" "draw" "I") (by decide +kernel) (by decide +kernel)
theorem fl_X9_175 : Cond.fieldLink "RolledOut" 175 "RolledOut$Sheet" "draw" "I" ∈ v_W := v_at 163 (w := Cond.fieldLink "RolledOut" 175 "RolledOut$Sheet" "draw" "I") (by decide +kernel) (by decide +kernel)
theorem fl_X8_12 : Cond.fieldLink "RolledOut$World" 12 "RolledOut$World" "sheet" "LRolledOut$Sheet;" ∈ v_W := v_at 188 (w := Cond.fieldLink "RolledOut$World" 12 "RolledOut$World" "sheet" "LRolledOut$Sheet;") (by decide +kernel) (by decide +kernel)
theorem fl_X2_19 : Cond.fieldLink "RolledOut$Rules" 19 "RolledOut$World" "sheet" "LRolledOut$Sheet;" ∈ v_W := v_at 189 (w := Cond.fieldLink "RolledOut$Rules" 19 "RolledOut$World" "sheet" "LRolledOut$Sheet;") (by decide +kernel) (by decide +kernel)
theorem fl_X7_33 : Cond.fieldLink "RolledOut$Trials" 33 "RolledOut$World" "sheet" "LRolledOut$Sheet;" ∈ v_W := v_at 190 (w := Cond.fieldLink "RolledOut$Trials" 33 "RolledOut$World" "sheet" "LRolledOut$Sheet;") (by decide +kernel) (by decide +kernel)
theorem fl_X9_122 : Cond.fieldLink "RolledOut" 122 "RolledOut$World" "sheet" "LRolledOut$Sheet;" ∈ v_W := v_at 191 (w := Cond.fieldLink "RolledOut" 122 "RolledOut$World" "sheet" "LRolledOut$Sheet;") (by decide +kernel) (by decide +kernel)
theorem fl_X8_18 : Cond.fieldLink "RolledOut$World" 18 "RolledOut$World" "steps" "[LRolledOut$Sheet;" ∈ v_W := v_at 192 (w := Cond.fieldLink "RolledOut$World" 18 "RolledOut$World" "steps" "[LRolledOut$Sheet;") (by decide +kernel) (by decide +kernel)
theorem fl_X8_43 : Cond.fieldLink "RolledOut$World" 43 "RolledOut$World" "nextStep" "I" ∈ v_W := v_at 193 (w := Cond.fieldLink "RolledOut$World" 43 "RolledOut$World" "nextStep" "I") (by decide +kernel) (by decide +kernel)
theorem fl_X8_46 : Cond.fieldLink "RolledOut$World" 46 "RolledOut$World" "stepCount" "I" ∈ v_W := v_at 194 (w := Cond.fieldLink "RolledOut$World" 46 "RolledOut$World" "stepCount" "I") (by decide +kernel) (by decide +kernel)
theorem fl_X9_327 : Cond.fieldLink "RolledOut" 327 "RolledOut$World" "stepCount" "I" ∈ v_W := v_at 195 (w := Cond.fieldLink "RolledOut" 327 "RolledOut$World" "stepCount" "I") (by decide +kernel) (by decide +kernel)
theorem fl_X8_22 : Cond.fieldLink "RolledOut$World" 22 "RolledOut$World" "strengths" "[I" ∈ v_W := v_at 196 (w := Cond.fieldLink "RolledOut$World" 22 "RolledOut$World" "strengths" "[I") (by decide +kernel) (by decide +kernel)
theorem fl_X9_64 : Cond.fieldLink "RolledOut" 64 "RolledOut$World" "strengths" "[I" ∈ v_W := v_at 197 (w := Cond.fieldLink "RolledOut" 64 "RolledOut$World" "strengths" "[I") (by decide +kernel) (by decide +kernel)
theorem fl_X2_145 : Cond.fieldLink "RolledOut$Rules" 145 "RolledOut$World" "strengths" "[I" ∈ v_W := v_at 198 (w := Cond.fieldLink "RolledOut$Rules" 145 "RolledOut$World" "strengths" "[I") (by decide +kernel) (by decide +kernel)
theorem fl_X9_60 : Cond.fieldLink "RolledOut" 60 "RolledOut$World" "hands" "I" ∈ v_W := v_at 199 (w := Cond.fieldLink "RolledOut" 60 "RolledOut$World" "hands" "I") (by decide +kernel) (by decide +kernel)
theorem fl_X8_55 : Cond.fieldLink "RolledOut$World" 55 "RolledOut$World" "hands" "I" ∈ v_W := v_at 200 (w := Cond.fieldLink "RolledOut$World" 55 "RolledOut$World" "hands" "I") (by decide +kernel) (by decide +kernel)
theorem fl_X2_90 : Cond.fieldLink "RolledOut$Rules" 90 "RolledOut$World" "hands" "I" ∈ v_W := v_at 201 (w := Cond.fieldLink "RolledOut$Rules" 90 "RolledOut$World" "hands" "I") (by decide +kernel) (by decide +kernel)
theorem fl_X8_58 : Cond.fieldLink "RolledOut$World" 58 "RolledOut$World" "towns" "I" ∈ v_W := v_at 202 (w := Cond.fieldLink "RolledOut$World" 58 "RolledOut$World" "towns" "I") (by decide +kernel) (by decide +kernel)
theorem fl_X9_76 : Cond.fieldLink "RolledOut" 76 "RolledOut$World" "towns" "I" ∈ v_W := v_at 203 (w := Cond.fieldLink "RolledOut" 76 "RolledOut$World" "towns" "I") (by decide +kernel) (by decide +kernel)
theorem fl_X8_28 : Cond.fieldLink "RolledOut$World" 28 "RolledOut$World" "texts" "[LRolledOut$Text;" ∈ v_W := v_at 204 (w := Cond.fieldLink "RolledOut$World" 28 "RolledOut$World" "texts" "[LRolledOut$Text;") (by decide +kernel) (by decide +kernel)
theorem fl_X9_99 : Cond.fieldLink "RolledOut" 99 "RolledOut$World" "texts" "[LRolledOut$Text;" ∈ v_W := v_at 205 (w := Cond.fieldLink "RolledOut" 99 "RolledOut$World" "texts" "[LRolledOut$Text;") (by decide +kernel) (by decide +kernel)
theorem fl_X8_61 : Cond.fieldLink "RolledOut$World" 61 "RolledOut$World" "textCount" "I" ∈ v_W := v_at 206 (w := Cond.fieldLink "RolledOut$World" 61 "RolledOut$World" "textCount" "I") (by decide +kernel) (by decide +kernel)
theorem fl_X9_92 : Cond.fieldLink "RolledOut" 92 "RolledOut$World" "textCount" "I" ∈ v_W := v_at 207 (w := Cond.fieldLink "RolledOut" 92 "RolledOut$World" "textCount" "I") (by decide +kernel) (by decide +kernel)
theorem fl_X8_32 : Cond.fieldLink "RolledOut$World" 32 "RolledOut$World" "law" "I" ∈ v_W := v_at 208 (w := Cond.fieldLink "RolledOut$World" 32 "RolledOut$World" "law" "I") (by decide +kernel) (by decide +kernel)
theorem fl_X2_32 : Cond.fieldLink "RolledOut$Rules" 32 "RolledOut$World" "law" "I" ∈ v_W := v_at 209 (w := Cond.fieldLink "RolledOut$Rules" 32 "RolledOut$World" "law" "I") (by decide +kernel) (by decide +kernel)
theorem fl_X9_116 : Cond.fieldLink "RolledOut" 116 "RolledOut$World" "law" "I" ∈ v_W := v_at 210 (w := Cond.fieldLink "RolledOut" 116 "RolledOut$World" "law" "I") (by decide +kernel) (by decide +kernel)
theorem fl_X8_36 : Cond.fieldLink "RolledOut$World" 36 "RolledOut$World" "said" "[I" ∈ v_W := v_at 211 (w := Cond.fieldLink "RolledOut$World" 36 "RolledOut$World" "said" "[I") (by decide +kernel) (by decide +kernel)
theorem fl_X2_118 : Cond.fieldLink "RolledOut$Rules" 118 "RolledOut$World" "said" "[I" ∈ v_W := v_at 212 (w := Cond.fieldLink "RolledOut$Rules" 118 "RolledOut$World" "said" "[I") (by decide +kernel) (by decide +kernel)
theorem fl_X8_64 : Cond.fieldLink "RolledOut$World" 64 "RolledOut$World" "saidCount" "I" ∈ v_W := v_at 213 (w := Cond.fieldLink "RolledOut$World" 64 "RolledOut$World" "saidCount" "I") (by decide +kernel) (by decide +kernel)
theorem fl_X2_121 : Cond.fieldLink "RolledOut$Rules" 121 "RolledOut$World" "saidCount" "I" ∈ v_W := v_at 214 (w := Cond.fieldLink "RolledOut$Rules" 121 "RolledOut$World" "saidCount" "I") (by decide +kernel) (by decide +kernel)
theorem fl_X9_311 : Cond.fieldLink "RolledOut" 311 "RolledOut$World" "saidCount" "I" ∈ v_W := v_at 215 (w := Cond.fieldLink "RolledOut" 311 "RolledOut$World" "saidCount" "I") (by decide +kernel) (by decide +kernel)
theorem fl_X2_15 : Cond.fieldLink "RolledOut$Rules" 15 "RolledOut$Rules" "world" "LRolledOut$World;" ∈ v_W := v_at 247 (w := Cond.fieldLink "RolledOut$Rules" 15 "RolledOut$Rules" "world" "LRolledOut$World;") (by decide +kernel) (by decide +kernel)
theorem fl_X2_9 : Cond.fieldLink "RolledOut$Rules" 9 "RolledOut$Rules" "stack" "[J" ∈ v_W := v_at 248 (w := Cond.fieldLink "RolledOut$Rules" 9 "RolledOut$Rules" "stack" "[J") (by decide +kernel) (by decide +kernel)
theorem fl_X2_25 : Cond.fieldLink "RolledOut$Rules" 25 "RolledOut$Rules" "sheet" "LRolledOut$Sheet;" ∈ v_W := v_at 249 (w := Cond.fieldLink "RolledOut$Rules" 25 "RolledOut$Rules" "sheet" "LRolledOut$Sheet;") (by decide +kernel) (by decide +kernel)
theorem fl_X2_62 : Cond.fieldLink "RolledOut$Rules" 62 "RolledOut$Rules" "hand" "I" ∈ v_W := v_at 250 (w := Cond.fieldLink "RolledOut$Rules" 62 "RolledOut$Rules" "hand" "I") (by decide +kernel) (by decide +kernel)
theorem fl_X2_65 : Cond.fieldLink "RolledOut$Rules" 65 "RolledOut$Rules" "cell" "I" ∈ v_W := v_at 251 (w := Cond.fieldLink "RolledOut$Rules" 65 "RolledOut$Rules" "cell" "I") (by decide +kernel) (by decide +kernel)
theorem fl_X2_68 : Cond.fieldLink "RolledOut$Rules" 68 "RolledOut$Rules" "right" "Z" ∈ v_W := v_at 252 (w := Cond.fieldLink "RolledOut$Rules" 68 "RolledOut$Rules" "right" "Z") (by decide +kernel) (by decide +kernel)
theorem fl_X7_21 : Cond.fieldLink "RolledOut$Trials" 21 "RolledOut$Trials" "world" "LRolledOut$World;" ∈ v_W := v_at 274 (w := Cond.fieldLink "RolledOut$Trials" 21 "RolledOut$Trials" "world" "LRolledOut$World;") (by decide +kernel) (by decide +kernel)
theorem fl_X7_25 : Cond.fieldLink "RolledOut$Trials" 25 "RolledOut$Trials" "kept" "LRolledOut$World;" ∈ v_W := v_at 275 (w := Cond.fieldLink "RolledOut$Trials" 25 "RolledOut$Trials" "kept" "LRolledOut$World;") (by decide +kernel) (by decide +kernel)
theorem fl_X7_28 : Cond.fieldLink "RolledOut$Trials" 28 "RolledOut$Trials" "rules" "LRolledOut$Rules;" ∈ v_W := v_at 276 (w := Cond.fieldLink "RolledOut$Trials" 28 "RolledOut$Trials" "rules" "LRolledOut$Rules;") (by decide +kernel) (by decide +kernel)
theorem fl_X7_11 : Cond.fieldLink "RolledOut$Trials" 11 "RolledOut$Trials" "tries" "[LRolledOut$Sheet;" ∈ v_W := v_at 277 (w := Cond.fieldLink "RolledOut$Trials" 11 "RolledOut$Trials" "tries" "[LRolledOut$Sheet;") (by decide +kernel) (by decide +kernel)
theorem fl_X7_17 : Cond.fieldLink "RolledOut$Trials" 17 "RolledOut$Trials" "found" "[I" ∈ v_W := v_at 278 (w := Cond.fieldLink "RolledOut$Trials" 17 "RolledOut$Trials" "found" "[I") (by decide +kernel) (by decide +kernel)
theorem fl_X9_281 : Cond.fieldLink "RolledOut" 281 "RolledOut$Trials" "found" "[I" ∈ v_W := v_at 279 (w := Cond.fieldLink "RolledOut" 281 "RolledOut$Trials" "found" "[I") (by decide +kernel) (by decide +kernel)
theorem fl_X7_83 : Cond.fieldLink "RolledOut$Trials" 83 "RolledOut$Trials" "ways" "I" ∈ v_W := v_at 280 (w := Cond.fieldLink "RolledOut$Trials" 83 "RolledOut$Trials" "ways" "I") (by decide +kernel) (by decide +kernel)
theorem fl_X9_293 : Cond.fieldLink "RolledOut" 293 "RolledOut$Trials" "ways" "I" ∈ v_W := v_at 281 (w := Cond.fieldLink "RolledOut" 293 "RolledOut$Trials" "ways" "I") (by decide +kernel) (by decide +kernel)
theorem fl_X7_86 : Cond.fieldLink "RolledOut$Trials" 86 "RolledOut$Trials" "lowestOfOne" "I" ∈ v_W := v_at 282 (w := Cond.fieldLink "RolledOut$Trials" 86 "RolledOut$Trials" "lowestOfOne" "I") (by decide +kernel) (by decide +kernel)
theorem fl_X7_89 : Cond.fieldLink "RolledOut$Trials" 89 "RolledOut$Trials" "lowestOfTwo" "I" ∈ v_W := v_at 283 (w := Cond.fieldLink "RolledOut$Trials" 89 "RolledOut$Trials" "lowestOfTwo" "I") (by decide +kernel) (by decide +kernel)
theorem fl_X3_11 : Cond.fieldLink "RolledOut$Shape" 11 "RolledOut$Shape" "row" "[I" ∈ v_W := v_at 307 (w := Cond.fieldLink "RolledOut$Shape" 11 "RolledOut$Shape" "row" "[I") (by decide +kernel) (by decide +kernel)
theorem fl_X3_15 : Cond.fieldLink "RolledOut$Shape" 15 "RolledOut$Shape" "table" "[I" ∈ v_W := v_at 308 (w := Cond.fieldLink "RolledOut$Shape" 15 "RolledOut$Shape" "table" "[I") (by decide +kernel) (by decide +kernel)
theorem fl_X5_9 : Cond.fieldLink "RolledOut$Tape" 9 "RolledOut$Tape" "bytes" "[I" ∈ v_W := v_at 320 (w := Cond.fieldLink "RolledOut$Tape" 9 "RolledOut$Tape" "bytes" "[I") (by decide +kernel) (by decide +kernel)
theorem fl_X5_24 : Cond.fieldLink "RolledOut$Tape" 24 "RolledOut$Tape" "length" "I" ∈ v_W := v_at 321 (w := Cond.fieldLink "RolledOut$Tape" 24 "RolledOut$Tape" "length" "I") (by decide +kernel) (by decide +kernel)
theorem fl_X1_67 : Cond.fieldLink "RolledOut$Reader" 67 "RolledOut$Tape" "length" "I" ∈ v_W := v_at 322 (w := Cond.fieldLink "RolledOut$Reader" 67 "RolledOut$Tape" "length" "I") (by decide +kernel) (by decide +kernel)
theorem fl_X9_89 : Cond.fieldLink "RolledOut" 89 "RolledOut$Tape" "length" "I" ∈ v_W := v_at 323 (w := Cond.fieldLink "RolledOut" 89 "RolledOut$Tape" "length" "I") (by decide +kernel) (by decide +kernel)
theorem fl_X5_15 : Cond.fieldLink "RolledOut$Tape" 15 "RolledOut$Tape" "kinds" "[I" ∈ v_W := v_at 324 (w := Cond.fieldLink "RolledOut$Tape" 15 "RolledOut$Tape" "kinds" "[I") (by decide +kernel) (by decide +kernel)
theorem fl_X1_55 : Cond.fieldLink "RolledOut$Reader" 55 "RolledOut$Tape" "kinds" "[I" ∈ v_W := v_at 325 (w := Cond.fieldLink "RolledOut$Reader" 55 "RolledOut$Tape" "kinds" "[I") (by decide +kernel) (by decide +kernel)
theorem fl_X5_18 : Cond.fieldLink "RolledOut$Tape" 18 "RolledOut$Tape" "places" "[I" ∈ v_W := v_at 326 (w := Cond.fieldLink "RolledOut$Tape" 18 "RolledOut$Tape" "places" "[I") (by decide +kernel) (by decide +kernel)
theorem fl_X1_79 : Cond.fieldLink "RolledOut$Reader" 79 "RolledOut$Tape" "places" "[I" ∈ v_W := v_at 327 (w := Cond.fieldLink "RolledOut$Reader" 79 "RolledOut$Tape" "places" "[I") (by decide +kernel) (by decide +kernel)
theorem fl_X5_21 : Cond.fieldLink "RolledOut$Tape" 21 "RolledOut$Tape" "numbers" "[I" ∈ v_W := v_at 328 (w := Cond.fieldLink "RolledOut$Tape" 21 "RolledOut$Tape" "numbers" "[I") (by decide +kernel) (by decide +kernel)
theorem fl_X1_105 : Cond.fieldLink "RolledOut$Reader" 105 "RolledOut$Tape" "numbers" "[I" ∈ v_W := v_at 329 (w := Cond.fieldLink "RolledOut$Reader" 105 "RolledOut$Tape" "numbers" "[I") (by decide +kernel) (by decide +kernel)
theorem fl_X5_28 : Cond.fieldLink "RolledOut$Tape" 28 "RolledOut$Tape" "tokens" "I" ∈ v_W := v_at 330 (w := Cond.fieldLink "RolledOut$Tape" 28 "RolledOut$Tape" "tokens" "I") (by decide +kernel) (by decide +kernel)
theorem fl_X1_82 : Cond.fieldLink "RolledOut$Reader" 82 "RolledOut$Tape" "tokens" "I" ∈ v_W := v_at 331 (w := Cond.fieldLink "RolledOut$Reader" 82 "RolledOut$Tape" "tokens" "I") (by decide +kernel) (by decide +kernel)
theorem fl_X1_18 : Cond.fieldLink "RolledOut$Reader" 18 "RolledOut$Text" "NO_LAW" "[I" ∈ v_W := v_at 351 (w := Cond.fieldLink "RolledOut$Reader" 18 "RolledOut$Text" "NO_LAW" "[I") (by decide +kernel) (by decide +kernel)
theorem fl_X1_29 : Cond.fieldLink "RolledOut$Reader" 29 "RolledOut$Reader" "tape" "LRolledOut$Tape;" ∈ v_W := v_at 353 (w := Cond.fieldLink "RolledOut$Reader" 29 "RolledOut$Reader" "tape" "LRolledOut$Tape;") (by decide +kernel) (by decide +kernel)
theorem fl_X1_33 : Cond.fieldLink "RolledOut$Reader" 33 "RolledOut$Reader" "hasRead" "Z" ∈ v_W := v_at 354 (w := Cond.fieldLink "RolledOut$Reader" 33 "RolledOut$Reader" "hasRead" "Z") (by decide +kernel) (by decide +kernel)
theorem fl_X9_103 : Cond.fieldLink "RolledOut" 103 "RolledOut$Reader" "hasRead" "Z" ∈ v_W := v_at 355 (w := Cond.fieldLink "RolledOut" 103 "RolledOut$Reader" "hasRead" "Z") (by decide +kernel) (by decide +kernel)
theorem fl_X1_37 : Cond.fieldLink "RolledOut$Reader" 37 "RolledOut$Reader" "fault" "I" ∈ v_W := v_at 356 (w := Cond.fieldLink "RolledOut$Reader" 37 "RolledOut$Reader" "fault" "I") (by decide +kernel) (by decide +kernel)
theorem fl_X9_107 : Cond.fieldLink "RolledOut" 107 "RolledOut$Reader" "fault" "I" ∈ v_W := v_at 357 (w := Cond.fieldLink "RolledOut" 107 "RolledOut$Reader" "fault" "I") (by decide +kernel) (by decide +kernel)
theorem fl_X1_41 : Cond.fieldLink "RolledOut$Reader" 41 "RolledOut$Reader" "faultAt" "I" ∈ v_W := v_at 358 (w := Cond.fieldLink "RolledOut$Reader" 41 "RolledOut$Reader" "faultAt" "I") (by decide +kernel) (by decide +kernel)
theorem fl_X9_110 : Cond.fieldLink "RolledOut" 110 "RolledOut$Reader" "faultAt" "I" ∈ v_W := v_at 359 (w := Cond.fieldLink "RolledOut" 110 "RolledOut$Reader" "faultAt" "I") (by decide +kernel) (by decide +kernel)
theorem fl_X1_52 : Cond.fieldLink "RolledOut$Reader" 52 "RolledOut$Reader" "at" "I" ∈ v_W := v_at 360 (w := Cond.fieldLink "RolledOut$Reader" 52 "RolledOut$Reader" "at" "I") (by decide +kernel) (by decide +kernel)
theorem fl_X1_58 : Cond.fieldLink "RolledOut$Reader" 58 "RolledOut$Reader" "token" "I" ∈ v_W := v_at 361 (w := Cond.fieldLink "RolledOut$Reader" 58 "RolledOut$Reader" "token" "I") (by decide +kernel) (by decide +kernel)
theorem fl_X1_11 : Cond.fieldLink "RolledOut$Reader" 11 "RolledOut$Reader" "clauses" "[I" ∈ v_W := v_at 362 (w := Cond.fieldLink "RolledOut$Reader" 11 "RolledOut$Reader" "clauses" "[I") (by decide +kernel) (by decide +kernel)
theorem fl_X1_44 : Cond.fieldLink "RolledOut$Reader" 44 "RolledOut$Reader" "clauseCount" "I" ∈ v_W := v_at 363 (w := Cond.fieldLink "RolledOut$Reader" 44 "RolledOut$Reader" "clauseCount" "I") (by decide +kernel) (by decide +kernel)
theorem fl_X1_15 : Cond.fieldLink "RolledOut$Reader" 15 "RolledOut$Reader" "law" "[I" ∈ v_W := v_at 364 (w := Cond.fieldLink "RolledOut$Reader" 15 "RolledOut$Reader" "law" "[I") (by decide +kernel) (by decide +kernel)
theorem fl_X1_108 : Cond.fieldLink "RolledOut$Reader" 108 "RolledOut$Reader" "lawLength" "I" ∈ v_W := v_at 365 (w := Cond.fieldLink "RolledOut$Reader" 108 "RolledOut$Reader" "lawLength" "I") (by decide +kernel) (by decide +kernel)
theorem fl_X1_23 : Cond.fieldLink "RolledOut$Reader" 23 "RolledOut$Reader" "moves" "[I" ∈ v_W := v_at 366 (w := Cond.fieldLink "RolledOut$Reader" 23 "RolledOut$Reader" "moves" "[I") (by decide +kernel) (by decide +kernel)
theorem fl_X1_26 : Cond.fieldLink "RolledOut$Reader" 26 "RolledOut$Reader" "tears" "[I" ∈ v_W := v_at 367 (w := Cond.fieldLink "RolledOut$Reader" 26 "RolledOut$Reader" "tears" "[I") (by decide +kernel) (by decide +kernel)
theorem fl_X9_12 : Cond.fieldLink "RolledOut" 12 "RolledOut" "now" "LRolledOut$World;" ∈ v_W := v_at 393 (w := Cond.fieldLink "RolledOut" 12 "RolledOut" "now" "LRolledOut$World;") (by decide +kernel) (by decide +kernel)
theorem fl_X9_16 : Cond.fieldLink "RolledOut" 16 "RolledOut" "kept" "LRolledOut$World;" ∈ v_W := v_at 394 (w := Cond.fieldLink "RolledOut" 16 "RolledOut" "kept" "LRolledOut$World;") (by decide +kernel) (by decide +kernel)
theorem fl_X9_24 : Cond.fieldLink "RolledOut" 24 "RolledOut" "rules" "LRolledOut$Rules;" ∈ v_W := v_at 395 (w := Cond.fieldLink "RolledOut" 24 "RolledOut" "rules" "LRolledOut$Rules;") (by decide +kernel) (by decide +kernel)
theorem fl_X9_33 : Cond.fieldLink "RolledOut" 33 "RolledOut" "trials" "LRolledOut$Trials;" ∈ v_W := v_at 396 (w := Cond.fieldLink "RolledOut" 33 "RolledOut" "trials" "LRolledOut$Trials;") (by decide +kernel) (by decide +kernel)
theorem fl_X9_40 : Cond.fieldLink "RolledOut" 40 "RolledOut" "shape" "LRolledOut$Shape;" ∈ v_W := v_at 397 (w := Cond.fieldLink "RolledOut" 40 "RolledOut" "shape" "LRolledOut$Shape;") (by decide +kernel) (by decide +kernel)
theorem fl_X9_47 : Cond.fieldLink "RolledOut" 47 "RolledOut" "tape" "LRolledOut$Tape;" ∈ v_W := v_at 398 (w := Cond.fieldLink "RolledOut" 47 "RolledOut" "tape" "LRolledOut$Tape;") (by decide +kernel) (by decide +kernel)
theorem fl_X9_56 : Cond.fieldLink "RolledOut" 56 "RolledOut" "reader" "LRolledOut$Reader;" ∈ v_W := v_at 399 (w := Cond.fieldLink "RolledOut" 56 "RolledOut" "reader" "LRolledOut$Reader;") (by decide +kernel) (by decide +kernel)
theorem fl_String_38 : Cond.fieldLink "java/lang/String" 38 "java/lang/String" "COMPACT_STRINGS" "Z" ∈ v_W := v_at 490 (w := Cond.fieldLink "java/lang/String" 38 "java/lang/String" "COMPACT_STRINGS" "Z") (by decide +kernel) (by decide +kernel)
theorem fl_String_1053 : Cond.fieldLink "java/lang/String" 1053 "jdk/internal/util/Preconditions" "SIOOBE_FORMATTER" "Ljava/util/function/BiFunction;" ∈ v_W := v_at 506 (w := Cond.fieldLink "java/lang/String" 1053 "jdk/internal/util/Preconditions" "SIOOBE_FORMATTER" "Ljava/util/function/BiFunction;") (by decide +kernel) (by decide +kernel)
theorem fl_StringUTF16_44 : Cond.fieldLink "java/lang/StringUTF16" 44 "java/lang/StringUTF16" "$assertionsDisabled" "Z" ∈ v_W := v_at 524 (w := Cond.fieldLink "java/lang/StringUTF16" 44 "java/lang/StringUTF16" "$assertionsDisabled" "Z") (by decide +kernel) (by decide +kernel)
theorem fl_StringUTF16_59 : Cond.fieldLink "java/lang/StringUTF16" 59 "java/lang/StringUTF16" "HI_BYTE_SHIFT" "I" ∈ v_W := v_at 526 (w := Cond.fieldLink "java/lang/StringUTF16" 59 "java/lang/StringUTF16" "HI_BYTE_SHIFT" "I") (by decide +kernel) (by decide +kernel)
theorem fl_StringUTF16_63 : Cond.fieldLink "java/lang/StringUTF16" 63 "java/lang/StringUTF16" "LO_BYTE_SHIFT" "I" ∈ v_W := v_at 528 (w := Cond.fieldLink "java/lang/StringUTF16" 63 "java/lang/StringUTF16" "LO_BYTE_SHIFT" "I") (by decide +kernel) (by decide +kernel)
theorem fl_X6_7 : Cond.fieldLink "RolledOut$Text" 7 "RolledOut$Text" "clauses" "[I" ∈ v_W := v_at 642 (w := Cond.fieldLink "RolledOut$Text" 7 "RolledOut$Text" "clauses" "[I") (by decide +kernel) (by decide +kernel)
theorem fl_X9_166 : Cond.fieldLink "RolledOut" 166 "RolledOut$Text" "clauses" "[I" ∈ v_W := v_at 643 (w := Cond.fieldLink "RolledOut" 166 "RolledOut$Text" "clauses" "[I") (by decide +kernel) (by decide +kernel)
theorem fl_X6_13 : Cond.fieldLink "RolledOut$Text" 13 "RolledOut$Text" "moves" "[I" ∈ v_W := v_at 644 (w := Cond.fieldLink "RolledOut$Text" 13 "RolledOut$Text" "moves" "[I") (by decide +kernel) (by decide +kernel)
theorem fl_X8_82 : Cond.fieldLink "RolledOut$World" 82 "RolledOut$Text" "moves" "[I" ∈ v_W := v_at 645 (w := Cond.fieldLink "RolledOut$World" 82 "RolledOut$Text" "moves" "[I") (by decide +kernel) (by decide +kernel)
theorem fl_X6_16 : Cond.fieldLink "RolledOut$Text" 16 "RolledOut$Text" "tears" "[I" ∈ v_W := v_at 646 (w := Cond.fieldLink "RolledOut$Text" 16 "RolledOut$Text" "tears" "[I") (by decide +kernel) (by decide +kernel)
theorem fl_X8_85 : Cond.fieldLink "RolledOut$World" 85 "RolledOut$Text" "tears" "[I" ∈ v_W := v_at 647 (w := Cond.fieldLink "RolledOut$World" 85 "RolledOut$Text" "tears" "[I") (by decide +kernel) (by decide +kernel)
theorem fl_X8_79 : Cond.fieldLink "RolledOut$World" 79 "RolledOut$Text" "NO_LAW" "[I" ∈ v_W := v_at 698 (w := Cond.fieldLink "RolledOut$World" 79 "RolledOut$Text" "NO_LAW" "[I") (by decide +kernel) (by decide +kernel)
theorem fl_X10_7 : Cond.fieldLink "RolledOutModel" 7 "RolledOutModel" "a" "[I" ∈ v_W := v_at 1164 (w := Cond.fieldLink "RolledOutModel" 7 "RolledOutModel" "a" "[I") (by decide +kernel) (by decide +kernel)
theorem fl_X10_13 : Cond.fieldLink "RolledOutModel" 13 "RolledOutModel" "image" "[I" ∈ v_W := v_at 1165 (w := Cond.fieldLink "RolledOutModel" 13 "RolledOutModel" "image" "[I") (by decide +kernel) (by decide +kernel)
theorem fl_X10_16 : Cond.fieldLink "RolledOutModel" 16 "RolledOutModel" "texts" "[I" ∈ v_W := v_at 1166 (w := Cond.fieldLink "RolledOutModel" 16 "RolledOutModel" "texts" "[I") (by decide +kernel) (by decide +kernel)
theorem fl_X10_19 : Cond.fieldLink "RolledOutModel" 19 "RolledOutModel" "tape" "[I" ∈ v_W := v_at 1167 (w := Cond.fieldLink "RolledOutModel" 19 "RolledOutModel" "tape" "[I") (by decide +kernel) (by decide +kernel)
theorem fl_X10_71 : Cond.fieldLink "RolledOutModel" 71 "RolledOutModel" "taped" "I" ∈ v_W := v_at 1168 (w := Cond.fieldLink "RolledOutModel" 71 "RolledOutModel" "taped" "I") (by decide +kernel) (by decide +kernel)
theorem fl_X10_22 : Cond.fieldLink "RolledOutModel" 22 "RolledOutModel" "fault" "I" ∈ v_W := v_at 1169 (w := Cond.fieldLink "RolledOutModel" 22 "RolledOutModel" "fault" "I") (by decide +kernel) (by decide +kernel)
theorem fl_X10_26 : Cond.fieldLink "RolledOutModel" 26 "RolledOutModel" "faultPlace" "I" ∈ v_W := v_at 1170 (w := Cond.fieldLink "RolledOutModel" 26 "RolledOutModel" "faultPlace" "I") (by decide +kernel) (by decide +kernel)
theorem fl_X10_78 : Cond.fieldLink "RolledOutModel" 78 "RolledOutModel" "at" "I" ∈ v_W := v_at 1171 (w := Cond.fieldLink "RolledOutModel" 78 "RolledOutModel" "at" "I") (by decide +kernel) (by decide +kernel)
theorem fl_X10_85 : Cond.fieldLink "RolledOutModel" 85 "RolledOutModel" "place" "I" ∈ v_W := v_at 1172 (w := Cond.fieldLink "RolledOutModel" 85 "RolledOutModel" "place" "I") (by decide +kernel) (by decide +kernel)
theorem fl_X10_88 : Cond.fieldLink "RolledOutModel" 88 "RolledOutModel" "token" "I" ∈ v_W := v_at 1173 (w := Cond.fieldLink "RolledOutModel" 88 "RolledOutModel" "token" "I") (by decide +kernel) (by decide +kernel)
theorem fl_X10_94 : Cond.fieldLink "RolledOutModel" 94 "RolledOutModel" "number" "I" ∈ v_W := v_at 1174 (w := Cond.fieldLink "RolledOutModel" 94 "RolledOutModel" "number" "I") (by decide +kernel) (by decide +kernel)
theorem fl_X10_101 : Cond.fieldLink "RolledOutModel" 101 "RolledOutModel" "word" "J" ∈ v_W := v_at 1175 (w := Cond.fieldLink "RolledOutModel" 101 "RolledOutModel" "word" "J") (by decide +kernel) (by decide +kernel)
theorem fl_X10_126 : Cond.fieldLink "RolledOutModel" 126 "RolledOutModel" "text0" "I" ∈ v_W := v_at 1176 (w := Cond.fieldLink "RolledOutModel" 126 "RolledOutModel" "text0" "I") (by decide +kernel) (by decide +kernel)
theorem fl_X10_129 : Cond.fieldLink "RolledOutModel" 129 "RolledOutModel" "written" "I" ∈ v_W := v_at 1177 (w := Cond.fieldLink "RolledOutModel" 129 "RolledOutModel" "written" "I") (by decide +kernel) (by decide +kernel)
theorem fl_X10_162 : Cond.fieldLink "RolledOutModel" 162 "RolledOutModel" "sort0" "I" ∈ v_W := v_at 1178 (w := Cond.fieldLink "RolledOutModel" 162 "RolledOutModel" "sort0" "I") (by decide +kernel) (by decide +kernel)
theorem fl_X10_29 : Cond.fieldLink "RolledOutModel" 29 "RolledOutModel" "pile" "[I" ∈ v_W := v_at 1179 (w := Cond.fieldLink "RolledOutModel" 29 "RolledOutModel" "pile" "[I") (by decide +kernel) (by decide +kernel)
theorem fl_X10_136 : Cond.fieldLink "RolledOutModel" 136 "RolledOutModel" "piled" "I" ∈ v_W := v_at 1180 (w := Cond.fieldLink "RolledOutModel" 136 "RolledOutModel" "piled" "I") (by decide +kernel) (by decide +kernel)
theorem fl_X10_146 : Cond.fieldLink "RolledOutModel" 146 "RolledOutModel" "opens" "I" ∈ v_W := v_at 1181 (w := Cond.fieldLink "RolledOutModel" 146 "RolledOutModel" "opens" "I") (by decide +kernel) (by decide +kernel)
theorem fl_X10_165 : Cond.fieldLink "RolledOutModel" 165 "RolledOutModel" "isWhole" "Z" ∈ v_W := v_at 1182 (w := Cond.fieldLink "RolledOutModel" 165 "RolledOutModel" "isWhole" "Z") (by decide +kernel) (by decide +kernel)
theorem fl_X10_220 : Cond.fieldLink "RolledOutModel" 220 "RolledOutModel" "once" "I" ∈ v_W := v_at 1183 (w := Cond.fieldLink "RolledOutModel" 220 "RolledOutModel" "once" "I") (by decide +kernel) (by decide +kernel)
theorem fl_X10_32 : Cond.fieldLink "RolledOutModel" 32 "RolledOutModel" "named" "[I" ∈ v_W := v_at 1184 (w := Cond.fieldLink "RolledOutModel" 32 "RolledOutModel" "named" "[I") (by decide +kernel) (by decide +kernel)
theorem fl_X10_35 : Cond.fieldLink "RolledOutModel" 35 "RolledOutModel" "values" "[J" ∈ v_W := v_at 1185 (w := Cond.fieldLink "RolledOutModel" 35 "RolledOutModel" "values" "[J") (by decide +kernel) (by decide +kernel)
theorem fl_X10_39 : Cond.fieldLink "RolledOutModel" 39 "RolledOutModel" "truth" "[Z" ∈ v_W := v_at 1186 (w := Cond.fieldLink "RolledOutModel" 39 "RolledOutModel" "truth" "[Z") (by decide +kernel) (by decide +kernel)
theorem fl_X10_43 : Cond.fieldLink "RolledOutModel" 43 "RolledOutModel" "isWritten" "Z" ∈ v_W := v_at 1187 (w := Cond.fieldLink "RolledOutModel" 43 "RolledOutModel" "isWritten" "Z") (by decide +kernel) (by decide +kernel)
theorem fl_X10_297 : Cond.fieldLink "RolledOutModel" 297 "RolledOutModel" "torn" "I" ∈ v_W := v_at 1188 (w := Cond.fieldLink "RolledOutModel" 297 "RolledOutModel" "torn" "I") (by decide +kernel) (by decide +kernel)
theorem fl_X10_47 : Cond.fieldLink "RolledOutModel" 47 "RolledOutModel" "aside" "[I" ∈ v_W := v_at 1189 (w := Cond.fieldLink "RolledOutModel" 47 "RolledOutModel" "aside" "[I") (by decide +kernel) (by decide +kernel)
theorem fl_X10_50 : Cond.fieldLink "RolledOutModel" 50 "RolledOutModel" "rises" "[I" ∈ v_W := v_at 1190 (w := Cond.fieldLink "RolledOutModel" 50 "RolledOutModel" "rises" "[I") (by decide +kernel) (by decide +kernel)
theorem fl_X10_53 : Cond.fieldLink "RolledOutModel" 53 "RolledOutModel" "games" "[I" ∈ v_W := v_at 1191 (w := Cond.fieldLink "RolledOutModel" 53 "RolledOutModel" "games" "[I") (by decide +kernel) (by decide +kernel)
theorem fl_X10_56 : Cond.fieldLink "RolledOutModel" 56 "RolledOutModel" "covers" "[I" ∈ v_W := v_at 1192 (w := Cond.fieldLink "RolledOutModel" 56 "RolledOutModel" "covers" "[I") (by decide +kernel) (by decide +kernel)
theorem fl_String_9 : Cond.fieldLink "java/lang/String" 9 "java/lang/String" "value" "[B" ∈ v_W := v_at 1772 (w := Cond.fieldLink "java/lang/String" 9 "java/lang/String" "value" "[B") (by decide +kernel) (by decide +kernel)
theorem fl_String_15 : Cond.fieldLink "java/lang/String" 15 "java/lang/String" "coder" "B" ∈ v_W := v_at 1773 (w := Cond.fieldLink "java/lang/String" 15 "java/lang/String" "coder" "B") (by decide +kernel) (by decide +kernel)
theorem ml_L_9 : Cond.methodLink "RolledOutLaw" 9 ⟨"RolledOut", "<init>", "()V"⟩ ∈ v_W := v_at 118 (w := Cond.methodLink "RolledOutLaw" 9 ⟨"RolledOut", "<init>", "()V"⟩) (by decide +kernel) (by decide +kernel)
theorem ml_X9_3 : Cond.methodLink "RolledOut" 3 ⟨"java/lang/Object", "<init>", "()V"⟩ ∈ v_W := v_at 121 (w := Cond.methodLink "RolledOut" 3 ⟨"java/lang/Object", "<init>", "()V"⟩) (by decide +kernel) (by decide +kernel)
theorem ml_X9_11 : Cond.methodLink "RolledOut" 11 ⟨"RolledOut$World", "<init>", "()V"⟩ ∈ v_W := v_at 126 (w := Cond.methodLink "RolledOut" 11 ⟨"RolledOut$World", "<init>", "()V"⟩) (by decide +kernel) (by decide +kernel)
theorem ml_X8_3 : Cond.methodLink "RolledOut$World" 3 ⟨"java/lang/Object", "<init>", "()V"⟩ ∈ v_W := v_at 129 (w := Cond.methodLink "RolledOut$World" 3 ⟨"java/lang/Object", "<init>", "()V"⟩) (by decide +kernel) (by decide +kernel)
theorem ml_X8_11 : Cond.methodLink "RolledOut$World" 11 ⟨"RolledOut$Sheet", "<init>", "()V"⟩ ∈ v_W := v_at 132 (w := Cond.methodLink "RolledOut$World" 11 ⟨"RolledOut$Sheet", "<init>", "()V"⟩) (by decide +kernel) (by decide +kernel)
theorem ml_X4_3 : Cond.methodLink "RolledOut$Sheet" 3 ⟨"java/lang/Object", "<init>", "()V"⟩ ∈ v_W := v_at 135 (w := Cond.methodLink "RolledOut$Sheet" 3 ⟨"java/lang/Object", "<init>", "()V"⟩) (by decide +kernel) (by decide +kernel)
theorem ml_X4_26 : Cond.methodLink "RolledOut$Sheet" 26 ⟨"java/util/Arrays", "fill", "([II)V"⟩ ∈ v_W := v_at 136 (w := Cond.methodLink "RolledOut$Sheet" 26 ⟨"java/util/Arrays", "fill", "([II)V"⟩) (by decide +kernel) (by decide +kernel)
theorem ml_X9_21 : Cond.methodLink "RolledOut" 21 ⟨"RolledOut$Rules", "<init>", "(LRolledOut$World;)V"⟩ ∈ v_W := v_at 243 (w := Cond.methodLink "RolledOut" 21 ⟨"RolledOut$Rules", "<init>", "(LRolledOut$World;)V"⟩) (by decide +kernel) (by decide +kernel)
theorem ml_X2_3 : Cond.methodLink "RolledOut$Rules" 3 ⟨"java/lang/Object", "<init>", "()V"⟩ ∈ v_W := v_at 246 (w := Cond.methodLink "RolledOut$Rules" 3 ⟨"java/lang/Object", "<init>", "()V"⟩) (by decide +kernel) (by decide +kernel)
theorem ml_X9_30 : Cond.methodLink "RolledOut" 30 ⟨"RolledOut$Trials", "<init>", "(LRolledOut$World;LRolledOut$World;LRolledOut$Rules;)V"⟩ ∈ v_W := v_at 268 (w := Cond.methodLink "RolledOut" 30 ⟨"RolledOut$Trials", "<init>", "(LRolledOut$World;LRolledOut$World;LRolledOut$Rules;)V"⟩) (by decide +kernel) (by decide +kernel)
theorem ml_X7_3 : Cond.methodLink "RolledOut$Trials" 3 ⟨"java/lang/Object", "<init>", "()V"⟩ ∈ v_W := v_at 271 (w := Cond.methodLink "RolledOut$Trials" 3 ⟨"java/lang/Object", "<init>", "()V"⟩) (by decide +kernel) (by decide +kernel)
theorem ml_X7_32 : Cond.methodLink "RolledOut$Trials" 32 ⟨"RolledOut$Sheet", "<init>", "()V"⟩ ∈ v_W := v_at 273 (w := Cond.methodLink "RolledOut$Trials" 32 ⟨"RolledOut$Sheet", "<init>", "()V"⟩) (by decide +kernel) (by decide +kernel)
theorem ml_X3_3 : Cond.methodLink "RolledOut$Shape" 3 ⟨"java/lang/Object", "<init>", "()V"⟩ ∈ v_W := v_at 306 (w := Cond.methodLink "RolledOut$Shape" 3 ⟨"java/lang/Object", "<init>", "()V"⟩) (by decide +kernel) (by decide +kernel)
theorem ml_X5_3 : Cond.methodLink "RolledOut$Tape" 3 ⟨"java/lang/Object", "<init>", "()V"⟩ ∈ v_W := v_at 319 (w := Cond.methodLink "RolledOut$Tape" 3 ⟨"java/lang/Object", "<init>", "()V"⟩) (by decide +kernel) (by decide +kernel)
theorem ml_X9_53 : Cond.methodLink "RolledOut" 53 ⟨"RolledOut$Reader", "<init>", "(LRolledOut$Tape;)V"⟩ ∈ v_W := v_at 347 (w := Cond.methodLink "RolledOut" 53 ⟨"RolledOut$Reader", "<init>", "(LRolledOut$Tape;)V"⟩) (by decide +kernel) (by decide +kernel)
theorem ml_X1_3 : Cond.methodLink "RolledOut$Reader" 3 ⟨"java/lang/Object", "<init>", "()V"⟩ ∈ v_W := v_at 350 (w := Cond.methodLink "RolledOut$Reader" 3 ⟨"java/lang/Object", "<init>", "()V"⟩) (by decide +kernel) (by decide +kernel)
theorem ml_L_13 : Cond.methodLink "RolledOutLaw" 13 ⟨"RolledOut", "hand", "(I)I"⟩ ∈ v_W := v_at 415 (w := Cond.methodLink "RolledOutLaw" 13 ⟨"RolledOut", "hand", "(I)I"⟩) (by decide +kernel) (by decide +kernel)
theorem ml_L_18 : Cond.methodLink "RolledOutLaw" 18 ⟨"RolledOut", "dough", "(II)Z"⟩ ∈ v_W := v_at 419 (w := Cond.methodLink "RolledOutLaw" 18 ⟨"RolledOut", "dough", "(II)Z"⟩) (by decide +kernel) (by decide +kernel)
theorem ml_X9_68 : Cond.methodLink "RolledOut" 68 ⟨"RolledOut", "isCell", "(I)Z"⟩ ∈ v_W := v_at 423 (w := Cond.methodLink "RolledOut" 68 ⟨"RolledOut", "isCell", "(I)Z"⟩) (by decide +kernel) (by decide +kernel)
theorem ml_X9_72 : Cond.methodLink "RolledOut" 72 ⟨"RolledOut$World", "tellDough", "(II)V"⟩ ∈ v_W := v_at 426 (w := Cond.methodLink "RolledOut" 72 ⟨"RolledOut$World", "tellDough", "(II)V"⟩) (by decide +kernel) (by decide +kernel)
theorem ml_L_23 : Cond.methodLink "RolledOutLaw" 23 ⟨"RolledOut", "town", "(I)I"⟩ ∈ v_W := v_at 430 (w := Cond.methodLink "RolledOutLaw" 23 ⟨"RolledOut", "town", "(I)I"⟩) (by decide +kernel) (by decide +kernel)
theorem ml_X9_79 : Cond.methodLink "RolledOut" 79 ⟨"RolledOut$World", "tellTown", "(I)V"⟩ ∈ v_W := v_at 434 (w := Cond.methodLink "RolledOut" 79 ⟨"RolledOut$World", "tellTown", "(I)V"⟩) (by decide +kernel) (by decide +kernel)
theorem ml_L_27 : Cond.methodLink "RolledOutLaw" 27 ⟨"RolledOut", "feed", "(IIIII)I"⟩ ∈ v_W := v_at 438 (w := Cond.methodLink "RolledOutLaw" 27 ⟨"RolledOut", "feed", "(IIIII)I"⟩) (by decide +kernel) (by decide +kernel)
theorem ml_X9_83 : Cond.methodLink "RolledOut" 83 ⟨"RolledOut$Tape", "hasRoomFor", "(I)Z"⟩ ∈ v_W := v_at 442 (w := Cond.methodLink "RolledOut" 83 ⟨"RolledOut$Tape", "hasRoomFor", "(I)Z"⟩) (by decide +kernel) (by decide +kernel)
theorem ml_X9_86 : Cond.methodLink "RolledOut" 86 ⟨"RolledOut$Tape", "takeFour", "(I)V"⟩ ∈ v_W := v_at 446 (w := Cond.methodLink "RolledOut" 86 ⟨"RolledOut$Tape", "takeFour", "(I)V"⟩) (by decide +kernel) (by decide +kernel)
theorem ml_L_32 : Cond.methodLink "RolledOutLaw" 32 ⟨"RolledOut", "end", "(I)I"⟩ ∈ v_W := v_at 450 (w := Cond.methodLink "RolledOutLaw" 32 ⟨"RolledOut", "end", "(I)I"⟩) (by decide +kernel) (by decide +kernel)
theorem ml_L_36 : Cond.methodLink "RolledOutLaw" 36 ⟨"RolledOut", "text", "()I"⟩ ∈ v_W := v_at 454 (w := Cond.methodLink "RolledOutLaw" 36 ⟨"RolledOut", "text", "()I"⟩) (by decide +kernel) (by decide +kernel)
theorem ml_X9_95 : Cond.methodLink "RolledOut" 95 ⟨"RolledOut$Reader", "readTape", "()LRolledOut$Text;"⟩ ∈ v_W := v_at 458 (w := Cond.methodLink "RolledOut" 95 ⟨"RolledOut$Reader", "readTape", "()LRolledOut$Text;"⟩) (by decide +kernel) (by decide +kernel)
theorem ml_X1_47 : Cond.methodLink "RolledOut$Reader" 47 ⟨"RolledOut$Tape", "findTokens", "()V"⟩ ∈ v_W := v_at 462 (w := Cond.methodLink "RolledOut$Reader" 47 ⟨"RolledOut$Tape", "findTokens", "()V"⟩) (by decide +kernel) (by decide +kernel)
theorem ml_X5_31 : Cond.methodLink "RolledOut$Tape" 31 ⟨"RolledOut$Tape", "takeToken", "(I)I"⟩ ∈ v_W := v_at 466 (w := Cond.methodLink "RolledOut$Tape" 31 ⟨"RolledOut$Tape", "takeToken", "(I)I"⟩) (by decide +kernel) (by decide +kernel)
theorem ml_X5_47 : Cond.methodLink "RolledOut$Tape" 47 ⟨"RolledOut$Tape", "isLetter", "(I)Z"⟩ ∈ v_W := v_at 470 (w := Cond.methodLink "RolledOut$Tape" 47 ⟨"RolledOut$Tape", "isLetter", "(I)Z"⟩) (by decide +kernel) (by decide +kernel)
theorem ml_X5_51 : Cond.methodLink "RolledOut$Tape" 51 ⟨"RolledOut$Tape", "takeWord", "(I)I"⟩ ∈ v_W := v_at 473 (w := Cond.methodLink "RolledOut$Tape" 51 ⟨"RolledOut$Tape", "takeWord", "(I)I"⟩) (by decide +kernel) (by decide +kernel)
theorem ml_X5_63 : Cond.methodLink "RolledOut$Tape" 63 ⟨"RolledOut$Tape", "wordOf", "(II)I"⟩ ∈ v_W := v_at 477 (w := Cond.methodLink "RolledOut$Tape" 63 ⟨"RolledOut$Tape", "wordOf", "(II)I"⟩) (by decide +kernel) (by decide +kernel)
theorem ml_X5_68 : Cond.methodLink "RolledOut$Tape" 68 ⟨"java/lang/String", "length", "()I"⟩ ∈ v_W := v_at 482 (w := Cond.methodLink "RolledOut$Tape" 68 ⟨"java/lang/String", "length", "()I"⟩) (by decide +kernel) (by decide +kernel)
theorem ml_String_335 : Cond.methodLink "java/lang/String" 335 ⟨"java/lang/String", "coder", "()B"⟩ ∈ v_W := v_at 486 (w := Cond.methodLink "java/lang/String" 335 ⟨"java/lang/String", "coder", "()B"⟩) (by decide +kernel) (by decide +kernel)
theorem ml_X5_73 : Cond.methodLink "RolledOut$Tape" 73 ⟨"java/lang/String", "charAt", "(I)C"⟩ ∈ v_W := v_at 492 (w := Cond.methodLink "RolledOut$Tape" 73 ⟨"java/lang/String", "charAt", "(I)C"⟩) (by decide +kernel) (by decide +kernel)
theorem ml_String_492 : Cond.methodLink "java/lang/String" 492 ⟨"java/lang/String", "isLatin1", "()Z"⟩ ∈ v_W := v_at 496 (w := Cond.methodLink "java/lang/String" 492 ⟨"java/lang/String", "isLatin1", "()Z"⟩) (by decide +kernel) (by decide +kernel)
theorem ml_String_495 : Cond.methodLink "java/lang/String" 495 ⟨"java/lang/StringLatin1", "charAt", "([BI)C"⟩ ∈ v_W := v_at 500 (w := Cond.methodLink "java/lang/String" 495 ⟨"java/lang/StringLatin1", "charAt", "([BI)C"⟩) (by decide +kernel) (by decide +kernel)
theorem ml_StringLatin1_9 : Cond.methodLink "java/lang/StringLatin1" 9 ⟨"java/lang/String", "checkIndex", "(II)V"⟩ ∈ v_W := v_at 503 (w := Cond.methodLink "java/lang/StringLatin1" 9 ⟨"java/lang/String", "checkIndex", "(II)V"⟩) (by decide +kernel) (by decide +kernel)
theorem ml_String_1059 : Cond.methodLink "java/lang/String" 1059 ⟨"jdk/internal/util/Preconditions", "checkIndex", "(IILjava/util/function/BiFunction;)I"⟩ ∈ v_W := v_at 508 (w := Cond.methodLink "java/lang/String" 1059 ⟨"jdk/internal/util/Preconditions", "checkIndex", "(IILjava/util/function/BiFunction;)I"⟩) (by decide +kernel) (by decide +kernel)
theorem ml_String_498 : Cond.methodLink "java/lang/String" 498 ⟨"java/lang/StringUTF16", "charAt", "([BI)C"⟩ ∈ v_W := v_at 511 (w := Cond.methodLink "java/lang/String" 498 ⟨"java/lang/StringUTF16", "charAt", "([BI)C"⟩) (by decide +kernel) (by decide +kernel)
theorem ml_StringUTF16_67 : Cond.methodLink "java/lang/StringUTF16" 67 ⟨"java/lang/StringUTF16", "checkIndex", "(I[B)V"⟩ ∈ v_W := v_at 514 (w := Cond.methodLink "java/lang/StringUTF16" 67 ⟨"java/lang/StringUTF16", "checkIndex", "(I[B)V"⟩) (by decide +kernel) (by decide +kernel)
theorem ml_StringUTF16_48 : Cond.methodLink "java/lang/StringUTF16" 48 ⟨"java/lang/StringUTF16", "length", "([B)I"⟩ ∈ v_W := v_at 517 (w := Cond.methodLink "java/lang/StringUTF16" 48 ⟨"java/lang/StringUTF16", "length", "([B)I"⟩) (by decide +kernel) (by decide +kernel)
theorem ml_StringUTF16_414 : Cond.methodLink "java/lang/StringUTF16" 414 ⟨"java/lang/String", "checkIndex", "(II)V"⟩ ∈ v_W := v_at 520 (w := Cond.methodLink "java/lang/StringUTF16" 414 ⟨"java/lang/String", "checkIndex", "(II)V"⟩) (by decide +kernel) (by decide +kernel)
theorem ml_StringUTF16_71 : Cond.methodLink "java/lang/StringUTF16" 71 ⟨"java/lang/StringUTF16", "getChar", "([BI)C"⟩ ∈ v_W := v_at 521 (w := Cond.methodLink "java/lang/StringUTF16" 71 ⟨"java/lang/StringUTF16", "getChar", "([BI)C"⟩) (by decide +kernel) (by decide +kernel)
theorem ml_X5_43 : Cond.methodLink "RolledOut$Tape" 43 ⟨"RolledOut$Tape", "add", "(III)V"⟩ ∈ v_W := v_at 530 (w := Cond.methodLink "RolledOut$Tape" 43 ⟨"RolledOut$Tape", "add", "(III)V"⟩) (by decide +kernel) (by decide +kernel)
theorem ml_X5_54 : Cond.methodLink "RolledOut$Tape" 54 ⟨"RolledOut$Tape", "isDigit", "(I)Z"⟩ ∈ v_W := v_at 534 (w := Cond.methodLink "RolledOut$Tape" 54 ⟨"RolledOut$Tape", "isDigit", "(I)Z"⟩) (by decide +kernel) (by decide +kernel)
theorem ml_X5_57 : Cond.methodLink "RolledOut$Tape" 57 ⟨"RolledOut$Tape", "takeNumber", "(I)I"⟩ ∈ v_W := v_at 537 (w := Cond.methodLink "RolledOut$Tape" 57 ⟨"RolledOut$Tape", "takeNumber", "(I)I"⟩) (by decide +kernel) (by decide +kernel)
theorem ml_X5_77 : Cond.methodLink "RolledOut$Tape" 77 ⟨"java/lang/Math", "min", "(II)I"⟩ ∈ v_W := v_at 541 (w := Cond.methodLink "RolledOut$Tape" 77 ⟨"java/lang/Math", "min", "(II)I"⟩) (by decide +kernel) (by decide +kernel)
theorem ml_X5_60 : Cond.methodLink "RolledOut$Tape" 60 ⟨"RolledOut$Tape", "signOf", "(I)I"⟩ ∈ v_W := v_at 544 (w := Cond.methodLink "RolledOut$Tape" 60 ⟨"RolledOut$Tape", "signOf", "(I)I"⟩) (by decide +kernel) (by decide +kernel)
theorem ml_X5_35 : Cond.methodLink "RolledOut$Tape" 35 ⟨"java/lang/Math", "max", "(II)I"⟩ ∈ v_W := v_at 547 (w := Cond.methodLink "RolledOut$Tape" 35 ⟨"java/lang/Math", "max", "(II)I"⟩) (by decide +kernel) (by decide +kernel)
theorem ml_X1_63 : Cond.methodLink "RolledOut$Reader" 63 ⟨"RolledOut$Reader", "clause", "()Z"⟩ ∈ v_W := v_at 550 (w := Cond.methodLink "RolledOut$Reader" 63 ⟨"RolledOut$Reader", "clause", "()Z"⟩) (by decide +kernel) (by decide +kernel)
theorem ml_X1_85 : Cond.methodLink "RolledOut$Reader" 85 ⟨"RolledOut$Reader", "faulty", "(I)Z"⟩ ∈ v_W := v_at 554 (w := Cond.methodLink "RolledOut$Reader" 85 ⟨"RolledOut$Reader", "faulty", "(I)Z"⟩) (by decide +kernel) (by decide +kernel)
theorem ml_X1_89 : Cond.methodLink "RolledOut$Reader" 89 ⟨"RolledOut$Reader", "advance", "()V"⟩ ∈ v_W := v_at 558 (w := Cond.methodLink "RolledOut$Reader" 89 ⟨"RolledOut$Reader", "advance", "()V"⟩) (by decide +kernel) (by decide +kernel)
theorem ml_X1_92 : Cond.methodLink "RolledOut$Reader" 92 ⟨"RolledOut$Reader", "readLaw", "(I)Z"⟩ ∈ v_W := v_at 562 (w := Cond.methodLink "RolledOut$Reader" 92 ⟨"RolledOut$Reader", "readLaw", "(I)Z"⟩) (by decide +kernel) (by decide +kernel)
theorem ml_X1_111 : Cond.methodLink "RolledOut$Reader" 111 ⟨"RolledOut$Reader", "sum", "(II)Z"⟩ ∈ v_W := v_at 566 (w := Cond.methodLink "RolledOut$Reader" 111 ⟨"RolledOut$Reader", "sum", "(II)Z"⟩) (by decide +kernel) (by decide +kernel)
theorem ml_X1_115 : Cond.methodLink "RolledOut$Reader" 115 ⟨"RolledOut$Reader", "product", "(II)Z"⟩ ∈ v_W := v_at 570 (w := Cond.methodLink "RolledOut$Reader" 115 ⟨"RolledOut$Reader", "product", "(II)Z"⟩) (by decide +kernel) (by decide +kernel)
theorem ml_X1_122 : Cond.methodLink "RolledOut$Reader" 122 ⟨"RolledOut$Reader", "one", "(II)Z"⟩ ∈ v_W := v_at 574 (w := Cond.methodLink "RolledOut$Reader" 122 ⟨"RolledOut$Reader", "one", "(II)Z"⟩) (by decide +kernel) (by decide +kernel)
theorem ml_X1_125 : Cond.methodLink "RolledOut$Reader" 125 ⟨"RolledOut$Reader", "adds", "(II)Z"⟩ ∈ v_W := v_at 578 (w := Cond.methodLink "RolledOut$Reader" 125 ⟨"RolledOut$Reader", "adds", "(II)Z"⟩) (by decide +kernel) (by decide +kernel)
theorem ml_X1_118 : Cond.methodLink "RolledOut$Reader" 118 ⟨"RolledOut$Reader", "add", "(II)V"⟩ ∈ v_W := v_at 582 (w := Cond.methodLink "RolledOut$Reader" 118 ⟨"RolledOut$Reader", "add", "(II)V"⟩) (by decide +kernel) (by decide +kernel)
theorem ml_X1_128 : Cond.methodLink "RolledOut$Reader" 128 ⟨"RolledOut$Reader", "opens", "(I)Z"⟩ ∈ v_W := v_at 586 (w := Cond.methodLink "RolledOut$Reader" 128 ⟨"RolledOut$Reader", "opens", "(I)Z"⟩) (by decide +kernel) (by decide +kernel)
theorem ml_X1_98 : Cond.methodLink "RolledOut$Reader" 98 ⟨"RolledOut$Reader", "takes", "(I)Z"⟩ ∈ v_W := v_at 590 (w := Cond.methodLink "RolledOut$Reader" 98 ⟨"RolledOut$Reader", "takes", "(I)Z"⟩) (by decide +kernel) (by decide +kernel)
theorem ml_X1_131 : Cond.methodLink "RolledOut$Reader" 131 ⟨"RolledOut$Reader", "choice", "(II)Z"⟩ ∈ v_W := v_at 594 (w := Cond.methodLink "RolledOut$Reader" 131 ⟨"RolledOut$Reader", "choice", "(II)Z"⟩) (by decide +kernel) (by decide +kernel)
theorem ml_X1_134 : Cond.methodLink "RolledOut$Reader" 134 ⟨"RolledOut$Reader", "either", "(II)Z"⟩ ∈ v_W := v_at 598 (w := Cond.methodLink "RolledOut$Reader" 134 ⟨"RolledOut$Reader", "either", "(II)Z"⟩) (by decide +kernel) (by decide +kernel)
theorem ml_X1_140 : Cond.methodLink "RolledOut$Reader" 140 ⟨"RolledOut$Reader", "both", "(II)Z"⟩ ∈ v_W := v_at 602 (w := Cond.methodLink "RolledOut$Reader" 140 ⟨"RolledOut$Reader", "both", "(II)Z"⟩) (by decide +kernel) (by decide +kernel)
theorem ml_X1_143 : Cond.methodLink "RolledOut$Reader" 143 ⟨"RolledOut$Reader", "ask", "(II)Z"⟩ ∈ v_W := v_at 606 (w := Cond.methodLink "RolledOut$Reader" 143 ⟨"RolledOut$Reader", "ask", "(II)Z"⟩) (by decide +kernel) (by decide +kernel)
theorem ml_X1_137 : Cond.methodLink "RolledOut$Reader" 137 ⟨"RolledOut$Reader", "land", "(II)V"⟩ ∈ v_W := v_at 610 (w := Cond.methodLink "RolledOut$Reader" 137 ⟨"RolledOut$Reader", "land", "(II)V"⟩) (by decide +kernel) (by decide +kernel)
theorem ml_X1_70 : Cond.methodLink "RolledOut$Reader" 70 ⟨"java/util/Arrays", "copyOf", "([II)[I"⟩ ∈ v_W := v_at 614 (w := Cond.methodLink "RolledOut$Reader" 70 ⟨"java/util/Arrays", "copyOf", "([II)[I"⟩) (by decide +kernel) (by decide +kernel)
theorem ml_Arrays_316 : Cond.methodLink "java/util/Arrays" 316 ⟨"[I", "clone", "()Ljava/lang/Object;"⟩ ∈ v_W := v_at 617 (w := Cond.methodLink "java/util/Arrays" 316 ⟨"[I", "clone", "()Ljava/lang/Object;"⟩) (by decide +kernel) (by decide +kernel)
theorem ml_Arrays_304 : Cond.methodLink "java/util/Arrays" 304 ⟨"java/lang/Math", "min", "(II)I"⟩ ∈ v_W := v_at 624 (w := Cond.methodLink "java/util/Arrays" 304 ⟨"java/lang/Math", "min", "(II)I"⟩) (by decide +kernel) (by decide +kernel)
theorem ml_Arrays_150 : Cond.methodLink "java/util/Arrays" 150 ⟨"java/lang/System", "arraycopy", "(Ljava/lang/Object;ILjava/lang/Object;II)V"⟩ ∈ v_W := v_at 625 (w := Cond.methodLink "java/util/Arrays" 150 ⟨"java/lang/System", "arraycopy", "(Ljava/lang/Object;ILjava/lang/Object;II)V"⟩) (by decide +kernel) (by decide +kernel)
theorem ml_X1_95 : Cond.methodLink "RolledOut$Reader" 95 ⟨"RolledOut$Reader", "readDeed", "(I)Z"⟩ ∈ v_W := v_at 628 (w := Cond.methodLink "RolledOut$Reader" 95 ⟨"RolledOut$Reader", "readDeed", "(I)Z"⟩) (by decide +kernel) (by decide +kernel)
theorem ml_X1_101 : Cond.methodLink "RolledOut$Reader" 101 ⟨"RolledOut$Reader", "readNumber", "(III)Z"⟩ ∈ v_W := v_at 632 (w := Cond.methodLink "RolledOut$Reader" 101 ⟨"RolledOut$Reader", "readNumber", "(III)Z"⟩) (by decide +kernel) (by decide +kernel)
theorem ml_X1_76 : Cond.methodLink "RolledOut$Reader" 76 ⟨"RolledOut$Text", "<init>", "([I[I[I)V"⟩ ∈ v_W := v_at 638 (w := Cond.methodLink "RolledOut$Reader" 76 ⟨"RolledOut$Text", "<init>", "([I[I[I)V"⟩) (by decide +kernel) (by decide +kernel)
theorem ml_X6_1 : Cond.methodLink "RolledOut$Text" 1 ⟨"java/lang/Object", "<init>", "()V"⟩ ∈ v_W := v_at 641 (w := Cond.methodLink "RolledOut$Text" 1 ⟨"java/lang/Object", "<init>", "()V"⟩) (by decide +kernel) (by decide +kernel)
theorem ml_L_41 : Cond.methodLink "RolledOutLaw" 41 ⟨"RolledOut", "fault", "(I)I"⟩ ∈ v_W := v_at 656 (w := Cond.methodLink "RolledOutLaw" 41 ⟨"RolledOut", "fault", "(I)I"⟩) (by decide +kernel) (by decide +kernel)
theorem ml_L_45 : Cond.methodLink "RolledOutLaw" 45 ⟨"RolledOut", "by", "(I)Z"⟩ ∈ v_W := v_at 660 (w := Cond.methodLink "RolledOutLaw" 45 ⟨"RolledOut", "by", "(I)Z"⟩) (by decide +kernel) (by decide +kernel)
theorem ml_X9_113 : Cond.methodLink "RolledOut" 113 ⟨"RolledOut", "isText", "(I)Z"⟩ ∈ v_W := v_at 664 (w := Cond.methodLink "RolledOut" 113 ⟨"RolledOut", "isText", "(I)Z"⟩) (by decide +kernel) (by decide +kernel)
theorem ml_L_50 : Cond.methodLink "RolledOutLaw" 50 ⟨"RolledOut", "stroke", "(IIZ)I"⟩ ∈ v_W := v_at 668 (w := Cond.methodLink "RolledOutLaw" 50 ⟨"RolledOut", "stroke", "(IIZ)I"⟩) (by decide +kernel) (by decide +kernel)
theorem ml_X9_119 : Cond.methodLink "RolledOut" 119 ⟨"RolledOut", "isHand", "(I)Z"⟩ ∈ v_W := v_at 672 (w := Cond.methodLink "RolledOut" 119 ⟨"RolledOut", "isHand", "(I)Z"⟩) (by decide +kernel) (by decide +kernel)
theorem ml_X9_131 : Cond.methodLink "RolledOut" 131 ⟨"RolledOut$World", "keepStep", "()V"⟩ ∈ v_W := v_at 676 (w := Cond.methodLink "RolledOut" 131 ⟨"RolledOut$World", "keepStep", "()V"⟩) (by decide +kernel) (by decide +kernel)
theorem ml_X8_39 : Cond.methodLink "RolledOut$World" 39 ⟨"RolledOut$Sheet", "becomes", "(LRolledOut$Sheet;)V"⟩ ∈ v_W := v_at 680 (w := Cond.methodLink "RolledOut$World" 39 ⟨"RolledOut$Sheet", "becomes", "(LRolledOut$Sheet;)V"⟩) (by decide +kernel) (by decide +kernel)
theorem ml_X4_32 : Cond.methodLink "RolledOut$Sheet" 32 ⟨"RolledOut$Sheet", "laysAs", "(LRolledOut$Sheet;)V"⟩ ∈ v_W := v_at 684 (w := Cond.methodLink "RolledOut$Sheet" 32 ⟨"RolledOut$Sheet", "laysAs", "(LRolledOut$Sheet;)V"⟩) (by decide +kernel) (by decide +kernel)
theorem ml_X4_36 : Cond.methodLink "RolledOut$Sheet" 36 ⟨"java/lang/System", "arraycopy", "(Ljava/lang/Object;ILjava/lang/Object;II)V"⟩ ∈ v_W := v_at 688 (w := Cond.methodLink "RolledOut$Sheet" 36 ⟨"java/lang/System", "arraycopy", "(Ljava/lang/Object;ILjava/lang/Object;II)V"⟩) (by decide +kernel) (by decide +kernel)
theorem ml_X8_67 : Cond.methodLink "RolledOut$World" 67 ⟨"java/lang/Math", "min", "(II)I"⟩ ∈ v_W := v_at 689 (w := Cond.methodLink "RolledOut$World" 67 ⟨"java/lang/Math", "min", "(II)I"⟩) (by decide +kernel) (by decide +kernel)
theorem ml_X9_134 : Cond.methodLink "RolledOut" 134 ⟨"RolledOut$Rules", "push", "(LRolledOut$Sheet;IIZ)I"⟩ ∈ v_W := v_at 690 (w := Cond.methodLink "RolledOut" 134 ⟨"RolledOut$Rules", "push", "(LRolledOut$Sheet;IIZ)I"⟩) (by decide +kernel) (by decide +kernel)
theorem ml_X2_36 : Cond.methodLink "RolledOut$Rules" 36 ⟨"RolledOut$World", "movesOf", "(I)[I"⟩ ∈ v_W := v_at 694 (w := Cond.methodLink "RolledOut$Rules" 36 ⟨"RolledOut$World", "movesOf", "(I)[I"⟩) (by decide +kernel) (by decide +kernel)
theorem ml_X2_40 : Cond.methodLink "RolledOut$Rules" 40 ⟨"RolledOut$Rules", "amount", "([ILRolledOut$Sheet;IIZ)I"⟩ ∈ v_W := v_at 699 (w := Cond.methodLink "RolledOut$Rules" 40 ⟨"RolledOut$Rules", "amount", "([ILRolledOut$Sheet;IIZ)I"⟩) (by decide +kernel) (by decide +kernel)
theorem ml_X2_72 : Cond.methodLink "RolledOut$Rules" 72 ⟨"RolledOut$Rules", "result", "([I)J"⟩ ∈ v_W := v_at 703 (w := Cond.methodLink "RolledOut$Rules" 72 ⟨"RolledOut$Rules", "result", "([I)J"⟩) (by decide +kernel) (by decide +kernel)
theorem ml_X2_126 : Cond.methodLink "RolledOut$Rules" 126 ⟨"java/lang/Math", "max", "(II)I"⟩ ∈ v_W := v_at 707 (w := Cond.methodLink "RolledOut$Rules" 126 ⟨"java/lang/Math", "max", "(II)I"⟩) (by decide +kernel) (by decide +kernel)
theorem ml_X2_129 : Cond.methodLink "RolledOut$Rules" 129 ⟨"RolledOut$Rules", "joined", "(IJJ)J"⟩ ∈ v_W := v_at 708 (w := Cond.methodLink "RolledOut$Rules" 129 ⟨"RolledOut$Rules", "joined", "(IJJ)J"⟩) (by decide +kernel) (by decide +kernel)
theorem ml_X2_76 : Cond.methodLink "RolledOut$Rules" 76 ⟨"java/lang/Math", "min", "(JJ)J"⟩ ∈ v_W := v_at 713 (w := Cond.methodLink "RolledOut$Rules" 76 ⟨"java/lang/Math", "min", "(JJ)J"⟩) (by decide +kernel) (by decide +kernel)
theorem ml_X2_82 : Cond.methodLink "RolledOut$Rules" 82 ⟨"java/lang/Math", "max", "(JJ)J"⟩ ∈ v_W := v_at 716 (w := Cond.methodLink "RolledOut$Rules" 82 ⟨"java/lang/Math", "max", "(JJ)J"⟩) (by decide +kernel) (by decide +kernel)
theorem ml_X2_137 : Cond.methodLink "RolledOut$Rules" 137 ⟨"RolledOut$Rules", "changed", "(IJ)J"⟩ ∈ v_W := v_at 719 (w := Cond.methodLink "RolledOut$Rules" 137 ⟨"RolledOut$Rules", "changed", "(IJ)J"⟩) (by decide +kernel) (by decide +kernel)
theorem ml_X2_141 : Cond.methodLink "RolledOut$Rules" 141 ⟨"RolledOut$Rules", "named", "(I)J"⟩ ∈ v_W := v_at 724 (w := Cond.methodLink "RolledOut$Rules" 141 ⟨"RolledOut$Rules", "named", "(I)J"⟩) (by decide +kernel) (by decide +kernel)
theorem ml_X2_47 : Cond.methodLink "RolledOut$Rules" 47 ⟨"RolledOut$Sheet", "carryTowns", "(II)V"⟩ ∈ v_W := v_at 728 (w := Cond.methodLink "RolledOut$Rules" 47 ⟨"RolledOut$Sheet", "carryTowns", "(II)V"⟩) (by decide +kernel) (by decide +kernel)
theorem ml_X2_51 : Cond.methodLink "RolledOut$Rules" 51 ⟨"RolledOut$Rules", "tearing", "(LRolledOut$Sheet;I)I"⟩ ∈ v_W := v_at 732 (w := Cond.methodLink "RolledOut$Rules" 51 ⟨"RolledOut$Rules", "tearing", "(LRolledOut$Sheet;I)I"⟩) (by decide +kernel) (by decide +kernel)
theorem ml_X2_85 : Cond.methodLink "RolledOut$Rules" 85 ⟨"RolledOut$World", "tearsOf", "(I)[I"⟩ ∈ v_W := v_at 736 (w := Cond.methodLink "RolledOut$Rules" 85 ⟨"RolledOut$World", "tearsOf", "(I)[I"⟩) (by decide +kernel) (by decide +kernel)
theorem ml_X2_58 : Cond.methodLink "RolledOut$Rules" 58 ⟨"RolledOut$Sheet", "write", "(III)V"⟩ ∈ v_W := v_at 741 (w := Cond.methodLink "RolledOut$Rules" 58 ⟨"RolledOut$Sheet", "write", "(III)V"⟩) (by decide +kernel) (by decide +kernel)
theorem ml_L_55 : Cond.methodLink "RolledOutLaw" 55 ⟨"RolledOut", "trim", "()I"⟩ ∈ v_W := v_at 747 (w := Cond.methodLink "RolledOutLaw" 55 ⟨"RolledOut", "trim", "()I"⟩) (by decide +kernel) (by decide +kernel)
theorem ml_X9_141 : Cond.methodLink "RolledOut" 141 ⟨"RolledOut$Sheet", "cutOff", "()V"⟩ ∈ v_W := v_at 751 (w := Cond.methodLink "RolledOut" 141 ⟨"RolledOut$Sheet", "cutOff", "()V"⟩) (by decide +kernel) (by decide +kernel)
theorem ml_L_59 : Cond.methodLink "RolledOutLaw" 59 ⟨"RolledOut", "patch", "(II)Z"⟩ ∈ v_W := v_at 755 (w := Cond.methodLink "RolledOutLaw" 59 ⟨"RolledOut", "patch", "(II)Z"⟩) (by decide +kernel) (by decide +kernel)
theorem ml_X9_144 : Cond.methodLink "RolledOut" 144 ⟨"RolledOut$Sheet", "canMend", "(II)Z"⟩ ∈ v_W := v_at 759 (w := Cond.methodLink "RolledOut" 144 ⟨"RolledOut$Sheet", "canMend", "(II)Z"⟩) (by decide +kernel) (by decide +kernel)
theorem ml_X9_148 : Cond.methodLink "RolledOut" 148 ⟨"RolledOut$Sheet", "mend", "(II)V"⟩ ∈ v_W := v_at 763 (w := Cond.methodLink "RolledOut" 148 ⟨"RolledOut$Sheet", "mend", "(II)V"⟩) (by decide +kernel) (by decide +kernel)
theorem ml_L_63 : Cond.methodLink "RolledOutLaw" 63 ⟨"RolledOut", "roll", "(I)I"⟩ ∈ v_W := v_at 767 (w := Cond.methodLink "RolledOutLaw" 63 ⟨"RolledOut", "roll", "(I)I"⟩) (by decide +kernel) (by decide +kernel)
theorem ml_X9_157 : Cond.methodLink "RolledOut" 157 ⟨"RolledOut", "passTurns", "(I)I"⟩ ∈ v_W := v_at 771 (w := Cond.methodLink "RolledOut" 157 ⟨"RolledOut", "passTurns", "(I)I"⟩) (by decide +kernel) (by decide +kernel)
theorem ml_X9_330 : Cond.methodLink "RolledOut" 330 ⟨"RolledOut$Rules", "passTurn", "(LRolledOut$Sheet;)V"⟩ ∈ v_W := v_at 775 (w := Cond.methodLink "RolledOut" 330 ⟨"RolledOut$Rules", "passTurn", "(LRolledOut$Sheet;)V"⟩) (by decide +kernel) (by decide +kernel)
theorem ml_X2_93 : Cond.methodLink "RolledOut$Rules" 93 ⟨"RolledOut$Sheet", "drawn", "()I"⟩ ∈ v_W := v_at 779 (w := Cond.methodLink "RolledOut$Rules" 93 ⟨"RolledOut$Sheet", "drawn", "()I"⟩) (by decide +kernel) (by decide +kernel)
theorem ml_X2_100 : Cond.methodLink "RolledOut$Rules" 100 ⟨"RolledOut$Rules", "push", "(LRolledOut$Sheet;IIZ)I"⟩ ∈ v_W := v_at 783 (w := Cond.methodLink "RolledOut$Rules" 100 ⟨"RolledOut$Rules", "push", "(LRolledOut$Sheet;IIZ)I"⟩) (by decide +kernel) (by decide +kernel)
theorem ml_X9_161 : Cond.methodLink "RolledOut" 161 ⟨"java/lang/Integer", "bitCount", "(I)I"⟩ ∈ v_W := v_at 784 (w := Cond.methodLink "RolledOut" 161 ⟨"java/lang/Integer", "bitCount", "(I)I"⟩) (by decide +kernel) (by decide +kernel)
theorem ml_L_67 : Cond.methodLink "RolledOutLaw" 67 ⟨"RolledOut", "played", "(I)I"⟩ ∈ v_W := v_at 790 (w := Cond.methodLink "RolledOutLaw" 67 ⟨"RolledOut", "played", "(I)I"⟩) (by decide +kernel) (by decide +kernel)
theorem ml_X9_171 : Cond.methodLink "RolledOut" 171 ⟨"RolledOut", "isDone", "(III)Z"⟩ ∈ v_W := v_at 794 (w := Cond.methodLink "RolledOut" 171 ⟨"RolledOut", "isDone", "(III)Z"⟩) (by decide +kernel) (by decide +kernel)
theorem ml_X9_333 : Cond.methodLink "RolledOut" 333 ⟨"RolledOut", "hand", "(I)I"⟩ ∈ v_W := v_at 798 (w := Cond.methodLink "RolledOut" 333 ⟨"RolledOut", "hand", "(I)I"⟩) (by decide +kernel) (by decide +kernel)
theorem ml_X9_336 : Cond.methodLink "RolledOut" 336 ⟨"RolledOut", "dough", "(II)Z"⟩ ∈ v_W := v_at 799 (w := Cond.methodLink "RolledOut" 336 ⟨"RolledOut", "dough", "(II)Z"⟩) (by decide +kernel) (by decide +kernel)
theorem ml_X9_339 : Cond.methodLink "RolledOut" 339 ⟨"RolledOut", "town", "(I)I"⟩ ∈ v_W := v_at 800 (w := Cond.methodLink "RolledOut" 339 ⟨"RolledOut", "town", "(I)I"⟩) (by decide +kernel) (by decide +kernel)
theorem ml_X9_342 : Cond.methodLink "RolledOut" 342 ⟨"RolledOut", "stroke", "(IIZ)I"⟩ ∈ v_W := v_at 801 (w := Cond.methodLink "RolledOut" 342 ⟨"RolledOut", "stroke", "(IIZ)I"⟩) (by decide +kernel) (by decide +kernel)
theorem ml_X9_346 : Cond.methodLink "RolledOut" 346 ⟨"RolledOut", "trim", "()I"⟩ ∈ v_W := v_at 802 (w := Cond.methodLink "RolledOut" 346 ⟨"RolledOut", "trim", "()I"⟩) (by decide +kernel) (by decide +kernel)
theorem ml_X9_349 : Cond.methodLink "RolledOut" 349 ⟨"RolledOut", "patch", "(II)Z"⟩ ∈ v_W := v_at 803 (w := Cond.methodLink "RolledOut" 349 ⟨"RolledOut", "patch", "(II)Z"⟩) (by decide +kernel) (by decide +kernel)
theorem ml_L_71 : Cond.methodLink "RolledOutLaw" 71 ⟨"RolledOut", "years", "(II)I"⟩ ∈ v_W := v_at 804 (w := Cond.methodLink "RolledOutLaw" 71 ⟨"RolledOut", "years", "(II)I"⟩) (by decide +kernel) (by decide +kernel)
theorem ml_X9_178 : Cond.methodLink "RolledOut" 178 ⟨"RolledOut$Rules", "passYear", "(LRolledOut$Sheet;)V"⟩ ∈ v_W := v_at 808 (w := Cond.methodLink "RolledOut" 178 ⟨"RolledOut$Rules", "passYear", "(LRolledOut$Sheet;)V"⟩) (by decide +kernel) (by decide +kernel)
theorem ml_X2_104 : Cond.methodLink "RolledOut$Rules" 104 ⟨"RolledOut$Sheet", "cutOff", "()V"⟩ ∈ v_W := v_at 812 (w := Cond.methodLink "RolledOut$Rules" 104 ⟨"RolledOut$Sheet", "cutOff", "()V"⟩) (by decide +kernel) (by decide +kernel)
theorem ml_X2_107 : Cond.methodLink "RolledOut$Rules" 107 ⟨"RolledOut$Sheet", "canMend", "(II)Z"⟩ ∈ v_W := v_at 813 (w := Cond.methodLink "RolledOut$Rules" 107 ⟨"RolledOut$Sheet", "canMend", "(II)Z"⟩) (by decide +kernel) (by decide +kernel)
theorem ml_X2_111 : Cond.methodLink "RolledOut$Rules" 111 ⟨"RolledOut$Sheet", "mend", "(II)V"⟩ ∈ v_W := v_at 814 (w := Cond.methodLink "RolledOut$Rules" 111 ⟨"RolledOut$Sheet", "mend", "(II)V"⟩) (by decide +kernel) (by decide +kernel)
theorem ml_X2_114 : Cond.methodLink "RolledOut$Rules" 114 ⟨"RolledOut$Rules", "passTurn", "(LRolledOut$Sheet;)V"⟩ ∈ v_W := v_at 815 (w := Cond.methodLink "RolledOut$Rules" 114 ⟨"RolledOut$Rules", "passTurn", "(LRolledOut$Sheet;)V"⟩) (by decide +kernel) (by decide +kernel)
theorem ml_L_76 : Cond.methodLink "RolledOutLaw" 76 ⟨"RolledOut", "undo", "()I"⟩ ∈ v_W := v_at 816 (w := Cond.methodLink "RolledOutLaw" 76 ⟨"RolledOut", "undo", "()I"⟩) (by decide +kernel) (by decide +kernel)
theorem ml_X9_182 : Cond.methodLink "RolledOut" 182 ⟨"RolledOut$World", "takeBack", "()I"⟩ ∈ v_W := v_at 820 (w := Cond.methodLink "RolledOut" 182 ⟨"RolledOut$World", "takeBack", "()I"⟩) (by decide +kernel) (by decide +kernel)
theorem ml_L_80 : Cond.methodLink "RolledOutLaw" 80 ⟨"RolledOut", "of", "(II)I"⟩ ∈ v_W := v_at 824 (w := Cond.methodLink "RolledOutLaw" 80 ⟨"RolledOut", "of", "(II)I"⟩) (by decide +kernel) (by decide +kernel)
theorem ml_X9_186 : Cond.methodLink "RolledOut" 186 ⟨"RolledOut$Sheet", "townsIn", "(I)I"⟩ ∈ v_W := v_at 828 (w := Cond.methodLink "RolledOut" 186 ⟨"RolledOut$Sheet", "townsIn", "(I)I"⟩) (by decide +kernel) (by decide +kernel)
theorem ml_X9_189 : Cond.methodLink "RolledOut" 189 ⟨"RolledOut$Rules", "tearing", "(LRolledOut$Sheet;I)I"⟩ ∈ v_W := v_at 832 (w := Cond.methodLink "RolledOut" 189 ⟨"RolledOut$Rules", "tearing", "(LRolledOut$Sheet;I)I"⟩) (by decide +kernel) (by decide +kernel)
theorem ml_L_84 : Cond.methodLink "RolledOutLaw" 84 ⟨"RolledOut", "ofTown", "(I)I"⟩ ∈ v_W := v_at 833 (w := Cond.methodLink "RolledOutLaw" 84 ⟨"RolledOut", "ofTown", "(I)I"⟩) (by decide +kernel) (by decide +kernel)
theorem ml_X9_193 : Cond.methodLink "RolledOut" 193 ⟨"RolledOut", "isTown", "(I)Z"⟩ ∈ v_W := v_at 837 (w := Cond.methodLink "RolledOut" 193 ⟨"RolledOut", "isTown", "(I)Z"⟩) (by decide +kernel) (by decide +kernel)
theorem ml_L_88 : Cond.methodLink "RolledOutLaw" 88 ⟨"RolledOut", "ofHand", "(I)I"⟩ ∈ v_W := v_at 841 (w := Cond.methodLink "RolledOutLaw" 88 ⟨"RolledOut", "ofHand", "(I)I"⟩) (by decide +kernel) (by decide +kernel)
theorem ml_L_92 : Cond.methodLink "RolledOutLaw" 92 ⟨"RolledOut", "moves", "(IIZ)I"⟩ ∈ v_W := v_at 845 (w := Cond.methodLink "RolledOutLaw" 92 ⟨"RolledOut", "moves", "(IIZ)I"⟩) (by decide +kernel) (by decide +kernel)
theorem ml_X9_199 : Cond.methodLink "RolledOut" 199 ⟨"RolledOut$World", "movesOf", "(I)[I"⟩ ∈ v_W := v_at 849 (w := Cond.methodLink "RolledOut" 199 ⟨"RolledOut$World", "movesOf", "(I)[I"⟩) (by decide +kernel) (by decide +kernel)
theorem ml_X9_203 : Cond.methodLink "RolledOut" 203 ⟨"RolledOut$Rules", "amount", "([ILRolledOut$Sheet;IIZ)I"⟩ ∈ v_W := v_at 850 (w := Cond.methodLink "RolledOut" 203 ⟨"RolledOut$Rules", "amount", "([ILRolledOut$Sheet;IIZ)I"⟩) (by decide +kernel) (by decide +kernel)
theorem ml_L_96 : Cond.methodLink "RolledOutLaw" 96 ⟨"RolledOut", "is", "(I)I"⟩ ∈ v_W := v_at 851 (w := Cond.methodLink "RolledOutLaw" 96 ⟨"RolledOut", "is", "(I)I"⟩) (by decide +kernel) (by decide +kernel)
theorem ml_X9_210 : Cond.methodLink "RolledOut" 210 ⟨"RolledOut$Shape", "sum", "([III)I"⟩ ∈ v_W := v_at 855 (w := Cond.methodLink "RolledOut" 210 ⟨"RolledOut$Shape", "sum", "([III)I"⟩) (by decide +kernel) (by decide +kernel)
theorem ml_X3_18 : Cond.methodLink "RolledOut$Shape" 18 ⟨"java/lang/Math", "max", "(II)I"⟩ ∈ v_W := v_at 858 (w := Cond.methodLink "RolledOut$Shape" 18 ⟨"java/lang/Math", "max", "(II)I"⟩) (by decide +kernel) (by decide +kernel)
theorem ml_L_100 : Cond.methodLink "RolledOutLaw" 100 ⟨"RolledOut", "book", "(II)I"⟩ ∈ v_W := v_at 859 (w := Cond.methodLink "RolledOutLaw" 100 ⟨"RolledOut", "book", "(II)I"⟩) (by decide +kernel) (by decide +kernel)
theorem ml_X9_214 : Cond.methodLink "RolledOut" 214 ⟨"RolledOut$Sheet", "bookSize", "()I"⟩ ∈ v_W := v_at 863 (w := Cond.methodLink "RolledOut" 214 ⟨"RolledOut$Sheet", "bookSize", "()I"⟩) (by decide +kernel) (by decide +kernel)
theorem ml_X4_71 : Cond.methodLink "RolledOut$Sheet" 71 ⟨"java/lang/Math", "min", "(II)I"⟩ ∈ v_W := v_at 867 (w := Cond.methodLink "RolledOut$Sheet" 71 ⟨"java/lang/Math", "min", "(II)I"⟩) (by decide +kernel) (by decide +kernel)
theorem ml_X9_217 : Cond.methodLink "RolledOut" 217 ⟨"RolledOut$Sheet", "bookPart", "(II)I"⟩ ∈ v_W := v_at 868 (w := Cond.methodLink "RolledOut" 217 ⟨"RolledOut$Sheet", "bookPart", "(II)I"⟩) (by decide +kernel) (by decide +kernel)
theorem ml_X4_75 : Cond.methodLink "RolledOut$Sheet" 75 ⟨"RolledOut$Sheet", "bookSize", "()I"⟩ ∈ v_W := v_at 872 (w := Cond.methodLink "RolledOut$Sheet" 75 ⟨"RolledOut$Sheet", "bookSize", "()I"⟩) (by decide +kernel) (by decide +kernel)
theorem ml_L_104 : Cond.methodLink "RolledOutLaw" 104 ⟨"RolledOut", "foretold", "(III)I"⟩ ∈ v_W := v_at 873 (w := Cond.methodLink "RolledOutLaw" 104 ⟨"RolledOut", "foretold", "(III)I"⟩) (by decide +kernel) (by decide +kernel)
theorem ml_X9_221 : Cond.methodLink "RolledOut" 221 ⟨"RolledOut$Trials", "behind", "(I)LRolledOut$Sheet;"⟩ ∈ v_W := v_at 877 (w := Cond.methodLink "RolledOut" 221 ⟨"RolledOut$Trials", "behind", "(I)LRolledOut$Sheet;"⟩) (by decide +kernel) (by decide +kernel)
theorem ml_X7_39 : Cond.methodLink "RolledOut$Trials" 39 ⟨"RolledOut$Sheet", "becomes", "(LRolledOut$Sheet;)V"⟩ ∈ v_W := v_at 881 (w := Cond.methodLink "RolledOut$Trials" 39 ⟨"RolledOut$Sheet", "becomes", "(LRolledOut$Sheet;)V"⟩) (by decide +kernel) (by decide +kernel)
theorem ml_X7_47 : Cond.methodLink "RolledOut$Trials" 47 ⟨"RolledOut$Rules", "passTurn", "(LRolledOut$Sheet;)V"⟩ ∈ v_W := v_at 882 (w := Cond.methodLink "RolledOut$Trials" 47 ⟨"RolledOut$Rules", "passTurn", "(LRolledOut$Sheet;)V"⟩) (by decide +kernel) (by decide +kernel)
theorem ml_L_109 : Cond.methodLink "RolledOutLaw" 109 ⟨"RolledOut", "lake", "()I"⟩ ∈ v_W := v_at 883 (w := Cond.methodLink "RolledOutLaw" 109 ⟨"RolledOut", "lake", "()I"⟩) (by decide +kernel) (by decide +kernel)
theorem ml_X9_225 : Cond.methodLink "RolledOut" 225 ⟨"RolledOut$Shape", "water", "([I)I"⟩ ∈ v_W := v_at 887 (w := Cond.methodLink "RolledOut" 225 ⟨"RolledOut$Shape", "water", "([I)I"⟩) (by decide +kernel) (by decide +kernel)
theorem ml_X3_24 : Cond.methodLink "RolledOut$Shape" 24 ⟨"java/lang/Math", "min", "(II)I"⟩ ∈ v_W := v_at 890 (w := Cond.methodLink "RolledOut$Shape" 24 ⟨"java/lang/Math", "min", "(II)I"⟩) (by decide +kernel) (by decide +kernel)
theorem ml_L_113 : Cond.methodLink "RolledOutLaw" 113 ⟨"RolledOut", "glaze", "(I)I"⟩ ∈ v_W := v_at 891 (w := Cond.methodLink "RolledOutLaw" 113 ⟨"RolledOut", "glaze", "(I)I"⟩) (by decide +kernel) (by decide +kernel)
theorem ml_X9_229 : Cond.methodLink "RolledOut" 229 ⟨"RolledOut$Shape", "glazed", "([II)I"⟩ ∈ v_W := v_at 895 (w := Cond.methodLink "RolledOut" 229 ⟨"RolledOut$Shape", "glazed", "([II)I"⟩) (by decide +kernel) (by decide +kernel)
theorem ml_L_117 : Cond.methodLink "RolledOutLaw" 117 ⟨"RolledOut", "rise", "(I)I"⟩ ∈ v_W := v_at 898 (w := Cond.methodLink "RolledOutLaw" 117 ⟨"RolledOut", "rise", "(I)I"⟩) (by decide +kernel) (by decide +kernel)
theorem ml_X9_233 : Cond.methodLink "RolledOut" 233 ⟨"RolledOut$Shape", "climb", "([II)I"⟩ ∈ v_W := v_at 902 (w := Cond.methodLink "RolledOut" 233 ⟨"RolledOut$Shape", "climb", "([II)I"⟩) (by decide +kernel) (by decide +kernel)
theorem ml_X3_27 : Cond.methodLink "RolledOut$Shape" 27 ⟨"RolledOut$Shape", "climbed", "([III)I"⟩ ∈ v_W := v_at 906 (w := Cond.methodLink "RolledOut$Shape" 27 ⟨"RolledOut$Shape", "climbed", "([III)I"⟩) (by decide +kernel) (by decide +kernel)
theorem ml_L_121 : Cond.methodLink "RolledOutLaw" 121 ⟨"RolledOut", "folds", "()I"⟩ ∈ v_W := v_at 910 (w := Cond.methodLink "RolledOutLaw" 121 ⟨"RolledOut", "folds", "()I"⟩) (by decide +kernel) (by decide +kernel)
theorem ml_X9_236 : Cond.methodLink "RolledOut" 236 ⟨"RolledOut$Shape", "falls", "([I)I"⟩ ∈ v_W := v_at 914 (w := Cond.methodLink "RolledOut" 236 ⟨"RolledOut$Shape", "falls", "([I)I"⟩) (by decide +kernel) (by decide +kernel)
theorem ml_L_125 : Cond.methodLink "RolledOutLaw" 125 ⟨"RolledOut", "peaks", "()I"⟩ ∈ v_W := v_at 917 (w := Cond.methodLink "RolledOutLaw" 125 ⟨"RolledOut", "peaks", "()I"⟩) (by decide +kernel) (by decide +kernel)
theorem ml_X9_239 : Cond.methodLink "RolledOut" 239 ⟨"RolledOut$Shape", "tops", "([I)I"⟩ ∈ v_W := v_at 921 (w := Cond.methodLink "RolledOut" 239 ⟨"RolledOut$Shape", "tops", "([I)I"⟩) (by decide +kernel) (by decide +kernel)
theorem ml_L_129 : Cond.methodLink "RolledOutLaw" 129 ⟨"RolledOut", "richest", "(I)I"⟩ ∈ v_W := v_at 924 (w := Cond.methodLink "RolledOutLaw" 129 ⟨"RolledOut", "richest", "(I)I"⟩) (by decide +kernel) (by decide +kernel)
theorem ml_X9_242 : Cond.methodLink "RolledOut" 242 ⟨"RolledOut$Shape", "fullest", "([II)I"⟩ ∈ v_W := v_at 928 (w := Cond.methodLink "RolledOut" 242 ⟨"RolledOut$Shape", "fullest", "([II)I"⟩) (by decide +kernel) (by decide +kernel)
theorem ml_X3_31 : Cond.methodLink "RolledOut$Shape" 31 ⟨"RolledOut$Shape", "sum", "([III)I"⟩ ∈ v_W := v_at 931 (w := Cond.methodLink "RolledOut$Shape" 31 ⟨"RolledOut$Shape", "sum", "([III)I"⟩) (by decide +kernel) (by decide +kernel)
theorem ml_L_133 : Cond.methodLink "RolledOutLaw" 133 ⟨"RolledOut", "islands", "(I)I"⟩ ∈ v_W := v_at 932 (w := Cond.methodLink "RolledOutLaw" 133 ⟨"RolledOut", "islands", "(I)I"⟩) (by decide +kernel) (by decide +kernel)
theorem ml_X9_245 : Cond.methodLink "RolledOut" 245 ⟨"RolledOut$Shape", "rowsAbove", "([II)I"⟩ ∈ v_W := v_at 936 (w := Cond.methodLink "RolledOut" 245 ⟨"RolledOut$Shape", "rowsAbove", "([II)I"⟩) (by decide +kernel) (by decide +kernel)
theorem ml_L_137 : Cond.methodLink "RolledOutLaw" 137 ⟨"RolledOut", "sees", "(IZ)I"⟩ ∈ v_W := v_at 939 (w := Cond.methodLink "RolledOutLaw" 137 ⟨"RolledOut", "sees", "(IZ)I"⟩) (by decide +kernel) (by decide +kernel)
theorem ml_X9_248 : Cond.methodLink "RolledOut" 248 ⟨"RolledOut$Shape", "firstHigher", "([IIZ)I"⟩ ∈ v_W := v_at 943 (w := Cond.methodLink "RolledOut" 248 ⟨"RolledOut$Shape", "firstHigher", "([IIZ)I"⟩) (by decide +kernel) (by decide +kernel)
theorem ml_L_142 : Cond.methodLink "RolledOutLaw" 142 ⟨"RolledOut", "middle", "(I)I"⟩ ∈ v_W := v_at 946 (w := Cond.methodLink "RolledOutLaw" 142 ⟨"RolledOut", "middle", "(I)I"⟩) (by decide +kernel) (by decide +kernel)
theorem ml_X9_252 : Cond.methodLink "RolledOut" 252 ⟨"RolledOut$Shape", "leastButOthers", "([II)I"⟩ ∈ v_W := v_at 950 (w := Cond.methodLink "RolledOut" 252 ⟨"RolledOut$Shape", "leastButOthers", "([II)I"⟩) (by decide +kernel) (by decide +kernel)
theorem ml_X3_34 : Cond.methodLink "RolledOut$Shape" 34 ⟨"RolledOut$Shape", "cellsAbove", "([II)I"⟩ ∈ v_W := v_at 953 (w := Cond.methodLink "RolledOut$Shape" 34 ⟨"RolledOut$Shape", "cellsAbove", "([II)I"⟩) (by decide +kernel) (by decide +kernel)
theorem ml_L_146 : Cond.methodLink "RolledOutLaw" 146 ⟨"RolledOut", "carried", "()I"⟩ ∈ v_W := v_at 956 (w := Cond.methodLink "RolledOutLaw" 146 ⟨"RolledOut", "carried", "()I"⟩) (by decide +kernel) (by decide +kernel)
theorem ml_X9_255 : Cond.methodLink "RolledOut" 255 ⟨"RolledOut$Shape", "way", "([I[I)I"⟩ ∈ v_W := v_at 960 (w := Cond.methodLink "RolledOut" 255 ⟨"RolledOut$Shape", "way", "([I[I)I"⟩) (by decide +kernel) (by decide +kernel)
theorem ml_X3_38 : Cond.methodLink "RolledOut$Shape" 38 ⟨"java/lang/Math", "abs", "(I)I"⟩ ∈ v_W := v_at 963 (w := Cond.methodLink "RolledOut$Shape" 38 ⟨"java/lang/Math", "abs", "(I)I"⟩) (by decide +kernel) (by decide +kernel)
theorem ml_L_150 : Cond.methodLink "RolledOutLaw" 150 ⟨"RolledOut", "level", "()I"⟩ ∈ v_W := v_at 966 (w := Cond.methodLink "RolledOutLaw" 150 ⟨"RolledOut", "level", "()I"⟩) (by decide +kernel) (by decide +kernel)
theorem ml_X9_259 : Cond.methodLink "RolledOut" 259 ⟨"RolledOut$Shape", "wayToLevel", "([I)I"⟩ ∈ v_W := v_at 970 (w := Cond.methodLink "RolledOut" 259 ⟨"RolledOut$Shape", "wayToLevel", "([I)I"⟩) (by decide +kernel) (by decide +kernel)
theorem ml_X3_42 : Cond.methodLink "RolledOut$Shape" 42 ⟨"RolledOut$Shape", "way", "([I[I)I"⟩ ∈ v_W := v_at 974 (w := Cond.methodLink "RolledOut$Shape" 42 ⟨"RolledOut$Shape", "way", "([I[I)I"⟩) (by decide +kernel) (by decide +kernel)
theorem ml_L_154 : Cond.methodLink "RolledOutLaw" 154 ⟨"RolledOut", "shared", "(II)I"⟩ ∈ v_W := v_at 975 (w := Cond.methodLink "RolledOutLaw" 154 ⟨"RolledOut", "shared", "(II)I"⟩) (by decide +kernel) (by decide +kernel)
theorem ml_X9_262 : Cond.methodLink "RolledOut" 262 ⟨"RolledOut$Shape", "parts", "([III)I"⟩ ∈ v_W := v_at 979 (w := Cond.methodLink "RolledOut" 262 ⟨"RolledOut$Shape", "parts", "([III)I"⟩) (by decide +kernel) (by decide +kernel)
theorem ml_X3_46 : Cond.methodLink "RolledOut$Shape" 46 ⟨"RolledOut$Shape", "fillParts", "([II)V"⟩ ∈ v_W := v_at 983 (w := Cond.methodLink "RolledOut$Shape" 46 ⟨"RolledOut$Shape", "fillParts", "([II)V"⟩) (by decide +kernel) (by decide +kernel)
theorem ml_X3_50 : Cond.methodLink "RolledOut$Shape" 50 ⟨"RolledOut$Shape", "nextPart", "([IIII)I"⟩ ∈ v_W := v_at 987 (w := Cond.methodLink "RolledOut$Shape" 50 ⟨"RolledOut$Shape", "nextPart", "([IIII)I"⟩) (by decide +kernel) (by decide +kernel)
theorem ml_L_158 : Cond.methodLink "RolledOutLaw" 158 ⟨"RolledOut", "ends", "(II)I"⟩ ∈ v_W := v_at 991 (w := Cond.methodLink "RolledOutLaw" 158 ⟨"RolledOut", "ends", "(II)I"⟩) (by decide +kernel) (by decide +kernel)
theorem ml_X9_265 : Cond.methodLink "RolledOut" 265 ⟨"RolledOut", "isRow", "(II)Z"⟩ ∈ v_W := v_at 995 (w := Cond.methodLink "RolledOut" 265 ⟨"RolledOut", "isRow", "(II)Z"⟩) (by decide +kernel) (by decide +kernel)
theorem ml_X9_268 : Cond.methodLink "RolledOut" 268 ⟨"RolledOut$Shape", "lead", "([III)I"⟩ ∈ v_W := v_at 998 (w := Cond.methodLink "RolledOut" 268 ⟨"RolledOut$Shape", "lead", "([III)I"⟩) (by decide +kernel) (by decide +kernel)
theorem ml_L_162 : Cond.methodLink "RolledOutLaw" 162 ⟨"RolledOut", "endsFirst", "(II)I"⟩ ∈ v_W := v_at 1002 (w := Cond.methodLink "RolledOutLaw" 162 ⟨"RolledOut", "endsFirst", "(II)I"⟩) (by decide +kernel) (by decide +kernel)
theorem ml_X9_271 : Cond.methodLink "RolledOut" 271 ⟨"RolledOut$Shape", "firstTaken", "([III)I"⟩ ∈ v_W := v_at 1006 (w := Cond.methodLink "RolledOut" 271 ⟨"RolledOut$Shape", "firstTaken", "([III)I"⟩) (by decide +kernel) (by decide +kernel)
theorem ml_X3_54 : Cond.methodLink "RolledOut$Shape" 54 ⟨"RolledOut$Shape", "lead", "([III)I"⟩ ∈ v_W := v_at 1010 (w := Cond.methodLink "RolledOut$Shape" 54 ⟨"RolledOut$Shape", "lead", "([III)I"⟩) (by decide +kernel) (by decide +kernel)
theorem ml_L_166 : Cond.methodLink "RolledOutLaw" 166 ⟨"RolledOut", "patches", "(IIZ)I"⟩ ∈ v_W := v_at 1011 (w := Cond.methodLink "RolledOutLaw" 166 ⟨"RolledOut", "patches", "(IIZ)I"⟩) (by decide +kernel) (by decide +kernel)
theorem ml_X9_274 : Cond.methodLink "RolledOut" 274 ⟨"RolledOut$Shape", "covers", "(IIIZ)I"⟩ ∈ v_W := v_at 1015 (w := Cond.methodLink "RolledOut" 274 ⟨"RolledOut$Shape", "covers", "(IIIZ)I"⟩) (by decide +kernel) (by decide +kernel)
theorem ml_L_170 : Cond.methodLink "RolledOutLaw" 170 ⟨"RolledOut", "plan", "(III)I"⟩ ∈ v_W := v_at 1019 (w := Cond.methodLink "RolledOutLaw" 170 ⟨"RolledOut", "plan", "(III)I"⟩) (by decide +kernel) (by decide +kernel)
theorem ml_X9_278 : Cond.methodLink "RolledOut" 278 ⟨"RolledOut$Trials", "fewest", "(II)I"⟩ ∈ v_W := v_at 1023 (w := Cond.methodLink "RolledOut" 278 ⟨"RolledOut$Trials", "fewest", "(II)I"⟩) (by decide +kernel) (by decide +kernel)
theorem ml_X7_55 : Cond.methodLink "RolledOut$Trials" 55 ⟨"RolledOut$Sheet", "laysAs", "(LRolledOut$Sheet;)V"⟩ ∈ v_W := v_at 1027 (w := Cond.methodLink "RolledOut$Trials" 55 ⟨"RolledOut$Sheet", "laysAs", "(LRolledOut$Sheet;)V"⟩) (by decide +kernel) (by decide +kernel)
theorem ml_X7_75 : Cond.methodLink "RolledOut$Trials" 75 ⟨"RolledOut$Trials", "isPlan", "(IIII)Z"⟩ ∈ v_W := v_at 1028 (w := Cond.methodLink "RolledOut$Trials" 75 ⟨"RolledOut$Trials", "isPlan", "(IIII)Z"⟩) (by decide +kernel) (by decide +kernel)
theorem ml_X7_79 : Cond.methodLink "RolledOut$Trials" 79 ⟨"RolledOut$Shape", "cellsAbove", "([II)I"⟩ ∈ v_W := v_at 1032 (w := Cond.methodLink "RolledOut$Trials" 79 ⟨"RolledOut$Shape", "cellsAbove", "([II)I"⟩) (by decide +kernel) (by decide +kernel)
theorem ml_X7_62 : Cond.methodLink "RolledOut$Trials" 62 ⟨"RolledOut$Trials", "tried", "(III)Z"⟩ ∈ v_W := v_at 1033 (w := Cond.methodLink "RolledOut$Trials" 62 ⟨"RolledOut$Trials", "tried", "(III)Z"⟩) (by decide +kernel) (by decide +kernel)
theorem ml_X7_58 : Cond.methodLink "RolledOut$Trials" 58 ⟨"RolledOut$Rules", "push", "(LRolledOut$Sheet;IIZ)I"⟩ ∈ v_W := v_at 1037 (w := Cond.methodLink "RolledOut$Trials" 58 ⟨"RolledOut$Rules", "push", "(LRolledOut$Sheet;IIZ)I"⟩) (by decide +kernel) (by decide +kernel)
theorem ml_L_174 : Cond.methodLink "RolledOutLaw" 174 ⟨"RolledOut", "best", "(I)I"⟩ ∈ v_W := v_at 1038 (w := Cond.methodLink "RolledOutLaw" 174 ⟨"RolledOut", "best", "(I)I"⟩) (by decide +kernel) (by decide +kernel)
theorem ml_X9_284 : Cond.methodLink "RolledOut" 284 ⟨"RolledOut$Trials", "flattest", "(I)I"⟩ ∈ v_W := v_at 1042 (w := Cond.methodLink "RolledOut" 284 ⟨"RolledOut$Trials", "flattest", "(I)I"⟩) (by decide +kernel) (by decide +kernel)
theorem ml_X7_66 : Cond.methodLink "RolledOut$Trials" 66 ⟨"RolledOut$Shape", "mostCell", "([I)I"⟩ ∈ v_W := v_at 1046 (w := Cond.methodLink "RolledOut$Trials" 66 ⟨"RolledOut$Shape", "mostCell", "([I)I"⟩) (by decide +kernel) (by decide +kernel)
theorem ml_L_178 : Cond.methodLink "RolledOutLaw" 178 ⟨"RolledOut", "which", "(IZ)I"⟩ ∈ v_W := v_at 1049 (w := Cond.methodLink "RolledOutLaw" 178 ⟨"RolledOut", "which", "(IZ)I"⟩) (by decide +kernel) (by decide +kernel)
theorem ml_X9_287 : Cond.methodLink "RolledOut" 287 ⟨"RolledOut$Trials", "seekWays", "(I)V"⟩ ∈ v_W := v_at 1053 (w := Cond.methodLink "RolledOut" 287 ⟨"RolledOut$Trials", "seekWays", "(I)V"⟩) (by decide +kernel) (by decide +kernel)
theorem ml_X7_92 : Cond.methodLink "RolledOut$Trials" 92 ⟨"RolledOut$Sheet", "laysLike", "(LRolledOut$Sheet;)Z"⟩ ∈ v_W := v_at 1057 (w := Cond.methodLink "RolledOut$Trials" 92 ⟨"RolledOut$Sheet", "laysLike", "(LRolledOut$Sheet;)Z"⟩) (by decide +kernel) (by decide +kernel)
theorem ml_X4_57 : Cond.methodLink "RolledOut$Sheet" 57 ⟨"RolledOut$Sheet", "unlike", "(LRolledOut$Sheet;)I"⟩ ∈ v_W := v_at 1061 (w := Cond.methodLink "RolledOut$Sheet" 57 ⟨"RolledOut$Sheet", "unlike", "(LRolledOut$Sheet;)I"⟩) (by decide +kernel) (by decide +kernel)
theorem ml_X7_96 : Cond.methodLink "RolledOut$Trials" 96 ⟨"RolledOut$Trials", "seekSecond", "(II)V"⟩ ∈ v_W := v_at 1065 (w := Cond.methodLink "RolledOut$Trials" 96 ⟨"RolledOut$Trials", "seekSecond", "(II)V"⟩) (by decide +kernel) (by decide +kernel)
theorem ml_X7_100 : Cond.methodLink "RolledOut$Trials" 100 ⟨"RolledOut$Sheet", "unlike", "(LRolledOut$Sheet;)I"⟩ ∈ v_W := v_at 1069 (w := Cond.methodLink "RolledOut$Trials" 100 ⟨"RolledOut$Sheet", "unlike", "(LRolledOut$Sheet;)I"⟩) (by decide +kernel) (by decide +kernel)
theorem ml_X7_104 : Cond.methodLink "RolledOut$Trials" 104 ⟨"RolledOut$Trials", "touched", "(I)I"⟩ ∈ v_W := v_at 1070 (w := Cond.methodLink "RolledOut$Trials" 104 ⟨"RolledOut$Trials", "touched", "(I)I"⟩) (by decide +kernel) (by decide +kernel)
theorem ml_X9_290 : Cond.methodLink "RolledOut" 290 ⟨"RolledOut$Trials", "lowestFirst", "()I"⟩ ∈ v_W := v_at 1073 (w := Cond.methodLink "RolledOut" 290 ⟨"RolledOut$Trials", "lowestFirst", "()I"⟩) (by decide +kernel) (by decide +kernel)
theorem ml_L_182 : Cond.methodLink "RolledOutLaw" 182 ⟨"RolledOut", "likely", "(IZ)I"⟩ ∈ v_W := v_at 1077 (w := Cond.methodLink "RolledOutLaw" 182 ⟨"RolledOut", "likely", "(IZ)I"⟩) (by decide +kernel) (by decide +kernel)
theorem ml_X9_296 : Cond.methodLink "RolledOut" 296 ⟨"RolledOut$Trials", "tearingStrokes", "(I)I"⟩ ∈ v_W := v_at 1081 (w := Cond.methodLink "RolledOut" 296 ⟨"RolledOut$Trials", "tearingStrokes", "(I)I"⟩) (by decide +kernel) (by decide +kernel)
theorem ml_X9_299 : Cond.methodLink "RolledOut" 299 ⟨"RolledOut$Shape", "commonPart", "(II)I"⟩ ∈ v_W := v_at 1085 (w := Cond.methodLink "RolledOut" 299 ⟨"RolledOut$Shape", "commonPart", "(II)I"⟩) (by decide +kernel) (by decide +kernel)
theorem ml_L_186 : Cond.methodLink "RolledOutLaw" 186 ⟨"RolledOut", "thin", "()I"⟩ ∈ v_W := v_at 1088 (w := Cond.methodLink "RolledOutLaw" 186 ⟨"RolledOut", "thin", "()I"⟩) (by decide +kernel) (by decide +kernel)
theorem ml_X9_302 : Cond.methodLink "RolledOut" 302 ⟨"RolledOut$Shape", "leastCell", "([I)I"⟩ ∈ v_W := v_at 1092 (w := Cond.methodLink "RolledOut" 302 ⟨"RolledOut$Shape", "leastCell", "([I)I"⟩) (by decide +kernel) (by decide +kernel)
theorem ml_L_190 : Cond.methodLink "RolledOutLaw" 190 ⟨"RolledOut", "thick", "()I"⟩ ∈ v_W := v_at 1095 (w := Cond.methodLink "RolledOutLaw" 190 ⟨"RolledOut", "thick", "()I"⟩) (by decide +kernel) (by decide +kernel)
theorem ml_X9_305 : Cond.methodLink "RolledOut" 305 ⟨"RolledOut$Shape", "mostCell", "([I)I"⟩ ∈ v_W := v_at 1099 (w := Cond.methodLink "RolledOut" 305 ⟨"RolledOut$Shape", "mostCell", "([I)I"⟩) (by decide +kernel) (by decide +kernel)
theorem ml_L_194 : Cond.methodLink "RolledOutLaw" 194 ⟨"RolledOut", "apart", "()I"⟩ ∈ v_W := v_at 1100 (w := Cond.methodLink "RolledOutLaw" 194 ⟨"RolledOut", "apart", "()I"⟩) (by decide +kernel) (by decide +kernel)
theorem ml_X9_308 : Cond.methodLink "RolledOut" 308 ⟨"RolledOut$Sheet", "nearestTowns", "()I"⟩ ∈ v_W := v_at 1104 (w := Cond.methodLink "RolledOut" 308 ⟨"RolledOut$Sheet", "nearestTowns", "()I"⟩) (by decide +kernel) (by decide +kernel)
theorem ml_X4_61 : Cond.methodLink "RolledOut$Sheet" 61 ⟨"java/lang/Math", "abs", "(I)I"⟩ ∈ v_W := v_at 1108 (w := Cond.methodLink "RolledOut$Sheet" 61 ⟨"java/lang/Math", "abs", "(I)I"⟩) (by decide +kernel) (by decide +kernel)
theorem ml_L_198 : Cond.methodLink "RolledOutLaw" 198 ⟨"RolledOut", "fallen", "()I"⟩ ∈ v_W := v_at 1109 (w := Cond.methodLink "RolledOutLaw" 198 ⟨"RolledOut", "fallen", "()I"⟩) (by decide +kernel) (by decide +kernel)
theorem ml_L_202 : Cond.methodLink "RolledOutLaw" 202 ⟨"RolledOut", "said", "(III)I"⟩ ∈ v_W := v_at 1113 (w := Cond.methodLink "RolledOutLaw" 202 ⟨"RolledOut", "said", "(III)I"⟩) (by decide +kernel) (by decide +kernel)
theorem ml_X9_314 : Cond.methodLink "RolledOut" 314 ⟨"RolledOut$World", "tellSaid", "(III)V"⟩ ∈ v_W := v_at 1117 (w := Cond.methodLink "RolledOut" 314 ⟨"RolledOut$World", "tellSaid", "(III)V"⟩) (by decide +kernel) (by decide +kernel)
theorem ml_L_206 : Cond.methodLink "RolledOutLaw" 206 ⟨"RolledOut", "whose", "()I"⟩ ∈ v_W := v_at 1121 (w := Cond.methodLink "RolledOutLaw" 206 ⟨"RolledOut", "whose", "()I"⟩) (by decide +kernel) (by decide +kernel)
theorem ml_X9_318 : Cond.methodLink "RolledOut" 318 ⟨"RolledOut$Rules", "isLawOfAllSaid", "(I)Z"⟩ ∈ v_W := v_at 1125 (w := Cond.methodLink "RolledOut" 318 ⟨"RolledOut$Rules", "isLawOfAllSaid", "(I)Z"⟩) (by decide +kernel) (by decide +kernel)
theorem ml_L_210 : Cond.methodLink "RolledOutLaw" 210 ⟨"RolledOut", "ledger", "(I)I"⟩ ∈ v_W := v_at 1129 (w := Cond.methodLink "RolledOutLaw" 210 ⟨"RolledOut", "ledger", "(I)I"⟩) (by decide +kernel) (by decide +kernel)
theorem ml_X9_321 : Cond.methodLink "RolledOut" 321 ⟨"RolledOut$Sheet", "movedBy", "(I)I"⟩ ∈ v_W := v_at 1133 (w := Cond.methodLink "RolledOut" 321 ⟨"RolledOut$Sheet", "movedBy", "(I)I"⟩) (by decide +kernel) (by decide +kernel)
theorem ml_X4_79 : Cond.methodLink "RolledOut$Sheet" 79 ⟨"RolledOut$Sheet", "bookPart", "(II)I"⟩ ∈ v_W := v_at 1137 (w := Cond.methodLink "RolledOut$Sheet" 79 ⟨"RolledOut$Sheet", "bookPart", "(II)I"⟩) (by decide +kernel) (by decide +kernel)
theorem ml_L_214 : Cond.methodLink "RolledOutLaw" 214 ⟨"RolledOut", "image", "()I"⟩ ∈ v_W := v_at 1138 (w := Cond.methodLink "RolledOutLaw" 214 ⟨"RolledOut", "image", "()I"⟩) (by decide +kernel) (by decide +kernel)
theorem ml_X9_324 : Cond.methodLink "RolledOut" 324 ⟨"RolledOut$World", "becomes", "(LRolledOut$World;)V"⟩ ∈ v_W := v_at 1142 (w := Cond.methodLink "RolledOut" 324 ⟨"RolledOut$World", "becomes", "(LRolledOut$World;)V"⟩) (by decide +kernel) (by decide +kernel)
theorem ml_X8_49 : Cond.methodLink "RolledOut$World" 49 ⟨"java/lang/System", "arraycopy", "(Ljava/lang/Object;ILjava/lang/Object;II)V"⟩ ∈ v_W := v_at 1146 (w := Cond.methodLink "RolledOut$World" 49 ⟨"java/lang/System", "arraycopy", "(Ljava/lang/Object;ILjava/lang/Object;II)V"⟩) (by decide +kernel) (by decide +kernel)
theorem ml_L_218 : Cond.methodLink "RolledOutLaw" 218 ⟨"RolledOut", "back", "()I"⟩ ∈ v_W := v_at 1147 (w := Cond.methodLink "RolledOutLaw" 218 ⟨"RolledOut", "back", "()I"⟩) (by decide +kernel) (by decide +kernel)
theorem ml_L_222 : Cond.methodLink "RolledOutLaw" 222 ⟨"RolledOut", "about", "(I)I"⟩ ∈ v_W := v_at 1151 (w := Cond.methodLink "RolledOutLaw" 222 ⟨"RolledOut", "about", "(I)I"⟩) (by decide +kernel) (by decide +kernel)
theorem ml_L_12 : Cond.methodLink "RolledOutLaw" 12 ⟨"RolledOutModel", "<init>", "()V"⟩ ∈ v_W := v_at 1157 (w := Cond.methodLink "RolledOutLaw" 12 ⟨"RolledOutModel", "<init>", "()V"⟩) (by decide +kernel) (by decide +kernel)
theorem ml_X10_1 : Cond.methodLink "RolledOutModel" 1 ⟨"java/lang/Object", "<init>", "()V"⟩ ∈ v_W := v_at 1160 (w := Cond.methodLink "RolledOutModel" 1 ⟨"java/lang/Object", "<init>", "()V"⟩) (by decide +kernel) (by decide +kernel)
theorem ml_X10_59 : Cond.methodLink "RolledOutModel" 59 ⟨"RolledOutModel", "copy", "([I[I)V"⟩ ∈ v_W := v_at 1161 (w := Cond.methodLink "RolledOutModel" 59 ⟨"RolledOutModel", "copy", "([I[I)V"⟩) (by decide +kernel) (by decide +kernel)
theorem ml_L_17 : Cond.methodLink "RolledOutLaw" 17 ⟨"RolledOutModel", "hand", "(I)I"⟩ ∈ v_W := v_at 1253 (w := Cond.methodLink "RolledOutLaw" 17 ⟨"RolledOutModel", "hand", "(I)I"⟩) (by decide +kernel) (by decide +kernel)
theorem ml_X10_63 : Cond.methodLink "RolledOutModel" 63 ⟨"RolledOutModel", "isIn", "(III)Z"⟩ ∈ v_W := v_at 1257 (w := Cond.methodLink "RolledOutModel" 63 ⟨"RolledOutModel", "isIn", "(III)Z"⟩) (by decide +kernel) (by decide +kernel)
theorem ml_L_22 : Cond.methodLink "RolledOutLaw" 22 ⟨"RolledOutModel", "dough", "(II)Z"⟩ ∈ v_W := v_at 1260 (w := Cond.methodLink "RolledOutLaw" 22 ⟨"RolledOutModel", "dough", "(II)Z"⟩) (by decide +kernel) (by decide +kernel)
theorem ml_X10_67 : Cond.methodLink "RolledOutModel" 67 ⟨"RolledOutModel", "isCell", "(I)Z"⟩ ∈ v_W := v_at 1264 (w := Cond.methodLink "RolledOutModel" 67 ⟨"RolledOutModel", "isCell", "(I)Z"⟩) (by decide +kernel) (by decide +kernel)
theorem ml_L_26 : Cond.methodLink "RolledOutLaw" 26 ⟨"RolledOutModel", "town", "(I)I"⟩ ∈ v_W := v_at 1267 (w := Cond.methodLink "RolledOutLaw" 26 ⟨"RolledOutModel", "town", "(I)I"⟩) (by decide +kernel) (by decide +kernel)
theorem ml_L_31 : Cond.methodLink "RolledOutLaw" 31 ⟨"RolledOutModel", "feed", "(IIIII)I"⟩ ∈ v_W := v_at 1271 (w := Cond.methodLink "RolledOutLaw" 31 ⟨"RolledOutModel", "feed", "(IIIII)I"⟩) (by decide +kernel) (by decide +kernel)
theorem ml_X10_74 : Cond.methodLink "RolledOutModel" 74 ⟨"RolledOutModel", "four", "(I)V"⟩ ∈ v_W := v_at 1275 (w := Cond.methodLink "RolledOutModel" 74 ⟨"RolledOutModel", "four", "(I)V"⟩) (by decide +kernel) (by decide +kernel)
theorem ml_L_35 : Cond.methodLink "RolledOutLaw" 35 ⟨"RolledOutModel", "end", "(I)I"⟩ ∈ v_W := v_at 1279 (w := Cond.methodLink "RolledOutLaw" 35 ⟨"RolledOutModel", "end", "(I)I"⟩) (by decide +kernel) (by decide +kernel)
theorem ml_L_40 : Cond.methodLink "RolledOutLaw" 40 ⟨"RolledOutModel", "text", "()I"⟩ ∈ v_W := v_at 1283 (w := Cond.methodLink "RolledOutLaw" 40 ⟨"RolledOutModel", "text", "()I"⟩) (by decide +kernel) (by decide +kernel)
theorem ml_X10_234 : Cond.methodLink "RolledOutModel" 234 ⟨"RolledOutModel", "readText", "()I"⟩ ∈ v_W := v_at 1287 (w := Cond.methodLink "RolledOutModel" 234 ⟨"RolledOutModel", "readText", "()I"⟩) (by decide +kernel) (by decide +kernel)
theorem ml_X10_156 : Cond.methodLink "RolledOutModel" 156 ⟨"RolledOutModel", "nextToken", "()V"⟩ ∈ v_W := v_at 1291 (w := Cond.methodLink "RolledOutModel" 156 ⟨"RolledOutModel", "nextToken", "()V"⟩) (by decide +kernel) (by decide +kernel)
theorem ml_X10_81 : Cond.methodLink "RolledOutModel" 81 ⟨"RolledOutModel", "byteAt", "(I)I"⟩ ∈ v_W := v_at 1295 (w := Cond.methodLink "RolledOutModel" 81 ⟨"RolledOutModel", "byteAt", "(I)I"⟩) (by decide +kernel) (by decide +kernel)
theorem ml_X10_91 : Cond.methodLink "RolledOutModel" 91 ⟨"RolledOutModel", "isFigure", "(I)Z"⟩ ∈ v_W := v_at 1299 (w := Cond.methodLink "RolledOutModel" 91 ⟨"RolledOutModel", "isFigure", "(I)Z"⟩) (by decide +kernel) (by decide +kernel)
theorem ml_X10_98 : Cond.methodLink "RolledOutModel" 98 ⟨"RolledOutModel", "isLetterByte", "(I)Z"⟩ ∈ v_W := v_at 1303 (w := Cond.methodLink "RolledOutModel" 98 ⟨"RolledOutModel", "isLetterByte", "(I)Z"⟩) (by decide +kernel) (by decide +kernel)
theorem ml_X10_107 : Cond.methodLink "RolledOutModel" 107 ⟨"RolledOutModel", "isSign", "(I)Z"⟩ ∈ v_W := v_at 1307 (w := Cond.methodLink "RolledOutModel" 107 ⟨"RolledOutModel", "isSign", "(I)Z"⟩) (by decide +kernel) (by decide +kernel)
theorem ml_X10_231 : Cond.methodLink "RolledOutModel" 231 ⟨"RolledOutModel", "clause", "()I"⟩ ∈ v_W := v_at 1310 (w := Cond.methodLink "RolledOutModel" 231 ⟨"RolledOutModel", "clause", "()I"⟩) (by decide +kernel) (by decide +kernel)
theorem ml_X10_217 : Cond.methodLink "RolledOutModel" 217 ⟨"RolledOutModel", "sortOf", "()I"⟩ ∈ v_W := v_at 1314 (w := Cond.methodLink "RolledOutModel" 217 ⟨"RolledOutModel", "sortOf", "()I"⟩) (by decide +kernel) (by decide +kernel)
theorem ml_X10_122 : Cond.methodLink "RolledOutModel" 122 ⟨"RolledOutModel", "w5", "(IIIII)J"⟩ ∈ v_W := v_at 1318 (w := Cond.methodLink "RolledOutModel" 122 ⟨"RolledOutModel", "w5", "(IIIII)J"⟩) (by decide +kernel) (by decide +kernel)
theorem ml_X10_118 : Cond.methodLink "RolledOutModel" 118 ⟨"RolledOutModel", "w4", "(IIII)J"⟩ ∈ v_W := v_at 1321 (w := Cond.methodLink "RolledOutModel" 118 ⟨"RolledOutModel", "w4", "(IIII)J"⟩) (by decide +kernel) (by decide +kernel)
theorem ml_X10_114 : Cond.methodLink "RolledOutModel" 114 ⟨"RolledOutModel", "w3", "(III)J"⟩ ∈ v_W := v_at 1324 (w := Cond.methodLink "RolledOutModel" 114 ⟨"RolledOutModel", "w3", "(III)J"⟩) (by decide +kernel) (by decide +kernel)
theorem ml_X10_110 : Cond.methodLink "RolledOutModel" 110 ⟨"RolledOutModel", "w2", "(II)J"⟩ ∈ v_W := v_at 1327 (w := Cond.methodLink "RolledOutModel" 110 ⟨"RolledOutModel", "w2", "(II)J"⟩) (by decide +kernel) (by decide +kernel)
theorem ml_X10_178 : Cond.methodLink "RolledOutModel" 178 ⟨"RolledOutModel", "isWord", "(J)Z"⟩ ∈ v_W := v_at 1330 (w := Cond.methodLink "RolledOutModel" 178 ⟨"RolledOutModel", "isWord", "(J)Z"⟩) (by decide +kernel) (by decide +kernel)
theorem ml_X10_223 : Cond.methodLink "RolledOutModel" 223 ⟨"RolledOutModel", "has", "(II)Z"⟩ ∈ v_W := v_at 1334 (w := Cond.methodLink "RolledOutModel" 223 ⟨"RolledOutModel", "has", "(II)Z"⟩) (by decide +kernel) (by decide +kernel)
theorem ml_X10_227 : Cond.methodLink "RolledOutModel" 227 ⟨"RolledOutModel", "body", "(II)I"⟩ ∈ v_W := v_at 1337 (w := Cond.methodLink "RolledOutModel" 227 ⟨"RolledOutModel", "body", "(II)I"⟩) (by decide +kernel) (by decide +kernel)
theorem ml_X10_206 : Cond.methodLink "RolledOutModel" 206 ⟨"RolledOutModel", "figure", "(III)I"⟩ ∈ v_W := v_at 1341 (w := Cond.methodLink "RolledOutModel" 206 ⟨"RolledOutModel", "figure", "(III)I"⟩) (by decide +kernel) (by decide +kernel)
theorem ml_X10_210 : Cond.methodLink "RolledOutModel" 210 ⟨"RolledOutModel", "pair", "(IIIJI)I"⟩ ∈ v_W := v_at 1345 (w := Cond.methodLink "RolledOutModel" 210 ⟨"RolledOutModel", "pair", "(IIIJI)I"⟩) (by decide +kernel) (by decide +kernel)
theorem ml_X10_214 : Cond.methodLink "RolledOutModel" 214 ⟨"RolledOutModel", "lawClause", "(I)I"⟩ ∈ v_W := v_at 1349 (w := Cond.methodLink "RolledOutModel" 214 ⟨"RolledOutModel", "lawClause", "(I)I"⟩) (by decide +kernel) (by decide +kernel)
theorem ml_X10_203 : Cond.methodLink "RolledOutModel" 203 ⟨"RolledOutModel", "summed", "()I"⟩ ∈ v_W := v_at 1353 (w := Cond.methodLink "RolledOutModel" 203 ⟨"RolledOutModel", "summed", "()I"⟩) (by decide +kernel) (by decide +kernel)
theorem ml_X10_197 : Cond.methodLink "RolledOutModel" 197 ⟨"RolledOutModel", "behindOne", "()Z"⟩ ∈ v_W := v_at 1357 (w := Cond.methodLink "RolledOutModel" 197 ⟨"RolledOutModel", "behindOne", "()Z"⟩) (by decide +kernel) (by decide +kernel)
theorem ml_X10_191 : Cond.methodLink "RolledOutModel" 191 ⟨"RolledOutModel", "betweenOf", "()I"⟩ ∈ v_W := v_at 1361 (w := Cond.methodLink "RolledOutModel" 191 ⟨"RolledOutModel", "betweenOf", "()I"⟩) (by decide +kernel) (by decide +kernel)
theorem ml_X10_153 : Cond.methodLink "RolledOutModel" 153 ⟨"RolledOutModel", "openNow", "()I"⟩ ∈ v_W := v_at 1365 (w := Cond.methodLink "RolledOutModel" 153 ⟨"RolledOutModel", "openNow", "()I"⟩) (by decide +kernel) (by decide +kernel)
theorem ml_X10_149 : Cond.methodLink "RolledOutModel" 149 ⟨"RolledOutModel", "openAt", "()I"⟩ ∈ v_W := v_at 1369 (w := Cond.methodLink "RolledOutModel" 149 ⟨"RolledOutModel", "openAt", "()I"⟩) (by decide +kernel) (by decide +kernel)
theorem ml_X10_185 : Cond.methodLink "RolledOutModel" 185 ⟨"RolledOutModel", "isCompared", "()Z"⟩ ∈ v_W := v_at 1373 (w := Cond.methodLink "RolledOutModel" 185 ⟨"RolledOutModel", "isCompared", "()Z"⟩) (by decide +kernel) (by decide +kernel)
theorem ml_X10_139 : Cond.methodLink "RolledOutModel" 139 ⟨"RolledOutModel", "rank", "(I)I"⟩ ∈ v_W := v_at 1377 (w := Cond.methodLink "RolledOutModel" 139 ⟨"RolledOutModel", "rank", "(I)I"⟩) (by decide +kernel) (by decide +kernel)
theorem ml_X10_188 : Cond.methodLink "RolledOutModel" 188 ⟨"RolledOutModel", "compareOf", "()I"⟩ ∈ v_W := v_at 1380 (w := Cond.methodLink "RolledOutModel" 188 ⟨"RolledOutModel", "compareOf", "()I"⟩) (by decide +kernel) (by decide +kernel)
theorem ml_X10_168 : Cond.methodLink "RolledOutModel" 168 ⟨"RolledOutModel", "settle", "(I)V"⟩ ∈ v_W := v_at 1384 (w := Cond.methodLink "RolledOutModel" 168 ⟨"RolledOutModel", "settle", "(I)V"⟩) (by decide +kernel) (by decide +kernel)
theorem ml_X10_142 : Cond.methodLink "RolledOutModel" 142 ⟨"RolledOutModel", "emit", "(II)V"⟩ ∈ v_W := v_at 1388 (w := Cond.methodLink "RolledOutModel" 142 ⟨"RolledOutModel", "emit", "(II)V"⟩) (by decide +kernel) (by decide +kernel)
theorem ml_X10_194 : Cond.methodLink "RolledOutModel" 194 ⟨"RolledOutModel", "partOf", "(I)I"⟩ ∈ v_W := v_at 1392 (w := Cond.methodLink "RolledOutModel" 194 ⟨"RolledOutModel", "partOf", "(I)I"⟩) (by decide +kernel) (by decide +kernel)
theorem ml_X10_200 : Cond.methodLink "RolledOutModel" 200 ⟨"RolledOutModel", "beginOne", "()I"⟩ ∈ v_W := v_at 1396 (w := Cond.methodLink "RolledOutModel" 200 ⟨"RolledOutModel", "beginOne", "()I"⟩) (by decide +kernel) (by decide +kernel)
theorem ml_X10_159 : Cond.methodLink "RolledOutModel" 159 ⟨"RolledOutModel", "nameOf", "()I"⟩ ∈ v_W := v_at 1400 (w := Cond.methodLink "RolledOutModel" 159 ⟨"RolledOutModel", "nameOf", "()I"⟩) (by decide +kernel) (by decide +kernel)
theorem ml_X10_132 : Cond.methodLink "RolledOutModel" 132 ⟨"RolledOutModel", "isStrength", "()Z"⟩ ∈ v_W := v_at 1404 (w := Cond.methodLink "RolledOutModel" 132 ⟨"RolledOutModel", "isStrength", "()Z"⟩) (by decide +kernel) (by decide +kernel)
theorem ml_X10_171 : Cond.methodLink "RolledOutModel" 171 ⟨"RolledOutModel", "opened", "(I)I"⟩ ∈ v_W := v_at 1408 (w := Cond.methodLink "RolledOutModel" 171 ⟨"RolledOutModel", "opened", "(I)I"⟩) (by decide +kernel) (by decide +kernel)
theorem ml_X10_174 : Cond.methodLink "RolledOutModel" 174 ⟨"RolledOutModel", "w6", "(IIIIII)J"⟩ ∈ v_W := v_at 1412 (w := Cond.methodLink "RolledOutModel" 174 ⟨"RolledOutModel", "w6", "(IIIIII)J"⟩) (by decide +kernel) (by decide +kernel)
theorem ml_X10_182 : Cond.methodLink "RolledOutModel" 182 ⟨"RolledOutModel", "isAskAhead", "()Z"⟩ ∈ v_W := v_at 1415 (w := Cond.methodLink "RolledOutModel" 182 ⟨"RolledOutModel", "isAskAhead", "()Z"⟩) (by decide +kernel) (by decide +kernel)
theorem ml_L_44 : Cond.methodLink "RolledOutLaw" 44 ⟨"RolledOutModel", "fault", "(I)I"⟩ ∈ v_W := v_at 1419 (w := Cond.methodLink "RolledOutLaw" 44 ⟨"RolledOutModel", "fault", "(I)I"⟩) (by decide +kernel) (by decide +kernel)
theorem ml_L_49 : Cond.methodLink "RolledOutLaw" 49 ⟨"RolledOutModel", "by", "(I)Z"⟩ ∈ v_W := v_at 1423 (w := Cond.methodLink "RolledOutLaw" 49 ⟨"RolledOutModel", "by", "(I)Z"⟩) (by decide +kernel) (by decide +kernel)
theorem ml_L_79 : Cond.methodLink "RolledOutLaw" 79 ⟨"RolledOutModel", "undo", "()I"⟩ ∈ v_W := v_at 1427 (w := Cond.methodLink "RolledOutLaw" 79 ⟨"RolledOutModel", "undo", "()I"⟩) (by decide +kernel) (by decide +kernel)
theorem ml_L_54 : Cond.methodLink "RolledOutLaw" 54 ⟨"RolledOutModel", "stroke", "(IIZ)I"⟩ ∈ v_W := v_at 1431 (w := Cond.methodLink "RolledOutLaw" 54 ⟨"RolledOutModel", "stroke", "(IIZ)I"⟩) (by decide +kernel) (by decide +kernel)
theorem ml_X10_314 : Cond.methodLink "RolledOutModel" 314 ⟨"RolledOutModel", "canStroke", "(II)Z"⟩ ∈ v_W := v_at 1435 (w := Cond.methodLink "RolledOutModel" 314 ⟨"RolledOutModel", "canStroke", "(II)Z"⟩) (by decide +kernel) (by decide +kernel)
theorem ml_X10_311 : Cond.methodLink "RolledOutModel" 311 ⟨"RolledOutModel", "isHand", "(I)Z"⟩ ∈ v_W := v_at 1439 (w := Cond.methodLink "RolledOutModel" 311 ⟨"RolledOutModel", "isHand", "(I)Z"⟩) (by decide +kernel) (by decide +kernel)
theorem ml_X10_317 : Cond.methodLink "RolledOutModel" 317 ⟨"RolledOutModel", "keep", "()V"⟩ ∈ v_W := v_at 1443 (w := Cond.methodLink "RolledOutModel" 317 ⟨"RolledOutModel", "keep", "()V"⟩) (by decide +kernel) (by decide +kernel)
theorem ml_X10_307 : Cond.methodLink "RolledOutModel" 307 ⟨"RolledOutModel", "strokeNow", "(IIZ)I"⟩ ∈ v_W := v_at 1447 (w := Cond.methodLink "RolledOutModel" 307 ⟨"RolledOutModel", "strokeNow", "(IIZ)I"⟩) (by decide +kernel) (by decide +kernel)
theorem ml_X10_290 : Cond.methodLink "RolledOutModel" 290 ⟨"RolledOutModel", "movesOf", "(IIIZ)I"⟩ ∈ v_W := v_at 1451 (w := Cond.methodLink "RolledOutModel" 290 ⟨"RolledOutModel", "movesOf", "(IIIZ)I"⟩) (by decide +kernel) (by decide +kernel)
theorem ml_X10_273 : Cond.methodLink "RolledOutModel" 273 ⟨"RolledOutModel", "besideOf", "(IZ)I"⟩ ∈ v_W := v_at 1455 (w := Cond.methodLink "RolledOutModel" 273 ⟨"RolledOutModel", "besideOf", "(IZ)I"⟩) (by decide +kernel) (by decide +kernel)
theorem ml_X10_277 : Cond.methodLink "RolledOutModel" 277 ⟨"RolledOutModel", "name", "(I)V"⟩ ∈ v_W := v_at 1458 (w := Cond.methodLink "RolledOutModel" 277 ⟨"RolledOutModel", "name", "(I)V"⟩) (by decide +kernel) (by decide +kernel)
theorem ml_X10_280 : Cond.methodLink "RolledOutModel" 280 ⟨"RolledOutModel", "says", "(IIII)I"⟩ ∈ v_W := v_at 1462 (w := Cond.methodLink "RolledOutModel" 280 ⟨"RolledOutModel", "says", "(IIII)I"⟩) (by decide +kernel) (by decide +kernel)
theorem ml_X10_266 : Cond.methodLink "RolledOutModel" 266 ⟨"RolledOutModel", "summedUp", "(II)J"⟩ ∈ v_W := v_at 1466 (w := Cond.methodLink "RolledOutModel" 266 ⟨"RolledOutModel", "summedUp", "(II)J"⟩) (by decide +kernel) (by decide +kernel)
theorem ml_X10_254 : Cond.methodLink "RolledOutModel" 254 ⟨"RolledOutModel", "ofOne", "(IJ)J"⟩ ∈ v_W := v_at 1470 (w := Cond.methodLink "RolledOutModel" 254 ⟨"RolledOutModel", "ofOne", "(IJ)J"⟩) (by decide +kernel) (by decide +kernel)
theorem ml_X10_247 : Cond.methodLink "RolledOutModel" 247 ⟨"RolledOutModel", "two", "(IJJ)J"⟩ ∈ v_W := v_at 1474 (w := Cond.methodLink "RolledOutModel" 247 ⟨"RolledOutModel", "two", "(IJJ)J"⟩) (by decide +kernel) (by decide +kernel)
theorem ml_X10_241 : Cond.methodLink "RolledOutModel" 241 ⟨"RolledOutModel", "clip", "(J)J"⟩ ∈ v_W := v_at 1477 (w := Cond.methodLink "RolledOutModel" 241 ⟨"RolledOutModel", "clip", "(J)J"⟩) (by decide +kernel) (by decide +kernel)
theorem ml_X10_251 : Cond.methodLink "RolledOutModel" 251 ⟨"RolledOutModel", "sheetOf", "(J)J"⟩ ∈ v_W := v_at 1482 (w := Cond.methodLink "RolledOutModel" 251 ⟨"RolledOutModel", "sheetOf", "(J)J"⟩) (by decide +kernel) (by decide +kernel)
theorem ml_X10_258 : Cond.methodLink "RolledOutModel" 258 ⟨"RolledOutModel", "isAsked", "(IJJ)Z"⟩ ∈ v_W := v_at 1487 (w := Cond.methodLink "RolledOutModel" 258 ⟨"RolledOutModel", "isAsked", "(IJJ)Z"⟩) (by decide +kernel) (by decide +kernel)
theorem ml_X10_262 : Cond.methodLink "RolledOutModel" 262 ⟨"RolledOutModel", "joined", "(IZZ)Z"⟩ ∈ v_W := v_at 1490 (w := Cond.methodLink "RolledOutModel" 262 ⟨"RolledOutModel", "joined", "(IZZ)Z"⟩) (by decide +kernel) (by decide +kernel)
theorem ml_X10_269 : Cond.methodLink "RolledOutModel" 269 ⟨"RolledOutModel", "cut", "(JII)I"⟩ ∈ v_W := v_at 1493 (w := Cond.methodLink "RolledOutModel" 269 ⟨"RolledOutModel", "cut", "(JII)I"⟩) (by decide +kernel) (by decide +kernel)
theorem ml_X10_294 : Cond.methodLink "RolledOutModel" 294 ⟨"RolledOutModel", "tearsOf", "(I)I"⟩ ∈ v_W := v_at 1496 (w := Cond.methodLink "RolledOutModel" 294 ⟨"RolledOutModel", "tearsOf", "(I)I"⟩) (by decide +kernel) (by decide +kernel)
theorem ml_X10_300 : Cond.methodLink "RolledOutModel" 300 ⟨"RolledOutModel", "write", "(III)V"⟩ ∈ v_W := v_at 1500 (w := Cond.methodLink "RolledOutModel" 300 ⟨"RolledOutModel", "write", "(III)V"⟩) (by decide +kernel) (by decide +kernel)
theorem ml_L_58 : Cond.methodLink "RolledOutLaw" 58 ⟨"RolledOutModel", "trim", "()I"⟩ ∈ v_W := v_at 1504 (w := Cond.methodLink "RolledOutLaw" 58 ⟨"RolledOutModel", "trim", "()I"⟩) (by decide +kernel) (by decide +kernel)
theorem ml_X10_320 : Cond.methodLink "RolledOutModel" 320 ⟨"RolledOutModel", "trimNow", "()V"⟩ ∈ v_W := v_at 1508 (w := Cond.methodLink "RolledOutModel" 320 ⟨"RolledOutModel", "trimNow", "()V"⟩) (by decide +kernel) (by decide +kernel)
theorem ml_L_62 : Cond.methodLink "RolledOutLaw" 62 ⟨"RolledOutModel", "patch", "(II)Z"⟩ ∈ v_W := v_at 1512 (w := Cond.methodLink "RolledOutLaw" 62 ⟨"RolledOutModel", "patch", "(II)Z"⟩) (by decide +kernel) (by decide +kernel)
theorem ml_X10_323 : Cond.methodLink "RolledOutModel" 323 ⟨"RolledOutModel", "canPatch", "(II)Z"⟩ ∈ v_W := v_at 1516 (w := Cond.methodLink "RolledOutModel" 323 ⟨"RolledOutModel", "canPatch", "(II)Z"⟩) (by decide +kernel) (by decide +kernel)
theorem ml_X10_326 : Cond.methodLink "RolledOutModel" 326 ⟨"RolledOutModel", "patchNow", "(II)V"⟩ ∈ v_W := v_at 1520 (w := Cond.methodLink "RolledOutModel" 326 ⟨"RolledOutModel", "patchNow", "(II)V"⟩) (by decide +kernel) (by decide +kernel)
theorem ml_L_66 : Cond.methodLink "RolledOutLaw" 66 ⟨"RolledOutModel", "roll", "(I)I"⟩ ∈ v_W := v_at 1524 (w := Cond.methodLink "RolledOutLaw" 66 ⟨"RolledOutModel", "roll", "(I)I"⟩) (by decide +kernel) (by decide +kernel)
theorem ml_X10_332 : Cond.methodLink "RolledOutModel" 332 ⟨"RolledOutModel", "arePassed", "(I)Z"⟩ ∈ v_W := v_at 1528 (w := Cond.methodLink "RolledOutModel" 332 ⟨"RolledOutModel", "arePassed", "(I)Z"⟩) (by decide +kernel) (by decide +kernel)
theorem ml_X10_329 : Cond.methodLink "RolledOutModel" 329 ⟨"RolledOutModel", "pass", "()V"⟩ ∈ v_W := v_at 1532 (w := Cond.methodLink "RolledOutModel" 329 ⟨"RolledOutModel", "pass", "()V"⟩) (by decide +kernel) (by decide +kernel)
theorem ml_X10_304 : Cond.methodLink "RolledOutModel" 304 ⟨"RolledOutModel", "drawnBy", "(I)I"⟩ ∈ v_W := v_at 1536 (w := Cond.methodLink "RolledOutModel" 304 ⟨"RolledOutModel", "drawnBy", "(I)I"⟩) (by decide +kernel) (by decide +kernel)
theorem ml_L_70 : Cond.methodLink "RolledOutLaw" 70 ⟨"RolledOutModel", "played", "(I)I"⟩ ∈ v_W := v_at 1543 (w := Cond.methodLink "RolledOutLaw" 70 ⟨"RolledOutModel", "played", "(I)I"⟩) (by decide +kernel) (by decide +kernel)
theorem ml_X10_353 : Cond.methodLink "RolledOutModel" 353 ⟨"RolledOutModel", "isPlayed", "(I)Z"⟩ ∈ v_W := v_at 1547 (w := Cond.methodLink "RolledOutModel" 353 ⟨"RolledOutModel", "isPlayed", "(I)Z"⟩) (by decide +kernel) (by decide +kernel)
theorem ml_X10_335 : Cond.methodLink "RolledOutModel" 335 ⟨"RolledOutModel", "hand", "(I)I"⟩ ∈ v_W := v_at 1551 (w := Cond.methodLink "RolledOutModel" 335 ⟨"RolledOutModel", "hand", "(I)I"⟩) (by decide +kernel) (by decide +kernel)
theorem ml_X10_338 : Cond.methodLink "RolledOutModel" 338 ⟨"RolledOutModel", "dough", "(II)Z"⟩ ∈ v_W := v_at 1552 (w := Cond.methodLink "RolledOutModel" 338 ⟨"RolledOutModel", "dough", "(II)Z"⟩) (by decide +kernel) (by decide +kernel)
theorem ml_X10_341 : Cond.methodLink "RolledOutModel" 341 ⟨"RolledOutModel", "town", "(I)I"⟩ ∈ v_W := v_at 1553 (w := Cond.methodLink "RolledOutModel" 341 ⟨"RolledOutModel", "town", "(I)I"⟩) (by decide +kernel) (by decide +kernel)
theorem ml_X10_344 : Cond.methodLink "RolledOutModel" 344 ⟨"RolledOutModel", "stroke", "(IIZ)I"⟩ ∈ v_W := v_at 1554 (w := Cond.methodLink "RolledOutModel" 344 ⟨"RolledOutModel", "stroke", "(IIZ)I"⟩) (by decide +kernel) (by decide +kernel)
theorem ml_X10_347 : Cond.methodLink "RolledOutModel" 347 ⟨"RolledOutModel", "trim", "()I"⟩ ∈ v_W := v_at 1555 (w := Cond.methodLink "RolledOutModel" 347 ⟨"RolledOutModel", "trim", "()I"⟩) (by decide +kernel) (by decide +kernel)
theorem ml_X10_350 : Cond.methodLink "RolledOutModel" 350 ⟨"RolledOutModel", "patch", "(II)Z"⟩ ∈ v_W := v_at 1556 (w := Cond.methodLink "RolledOutModel" 350 ⟨"RolledOutModel", "patch", "(II)Z"⟩) (by decide +kernel) (by decide +kernel)
theorem ml_L_75 : Cond.methodLink "RolledOutLaw" 75 ⟨"RolledOutModel", "years", "(II)I"⟩ ∈ v_W := v_at 1557 (w := Cond.methodLink "RolledOutLaw" 75 ⟨"RolledOutModel", "years", "(II)I"⟩) (by decide +kernel) (by decide +kernel)
theorem ml_X10_356 : Cond.methodLink "RolledOutModel" 356 ⟨"RolledOutModel", "happens", "(I)V"⟩ ∈ v_W := v_at 1561 (w := Cond.methodLink "RolledOutModel" 356 ⟨"RolledOutModel", "happens", "(I)V"⟩) (by decide +kernel) (by decide +kernel)
theorem ml_L_83 : Cond.methodLink "RolledOutLaw" 83 ⟨"RolledOutModel", "of", "(II)I"⟩ ∈ v_W := v_at 1565 (w := Cond.methodLink "RolledOutLaw" 83 ⟨"RolledOutModel", "of", "(II)I"⟩) (by decide +kernel) (by decide +kernel)
theorem ml_X10_359 : Cond.methodLink "RolledOutModel" 359 ⟨"RolledOutModel", "townsIn", "(I)I"⟩ ∈ v_W := v_at 1569 (w := Cond.methodLink "RolledOutModel" 359 ⟨"RolledOutModel", "townsIn", "(I)I"⟩) (by decide +kernel) (by decide +kernel)
theorem ml_L_87 : Cond.methodLink "RolledOutLaw" 87 ⟨"RolledOutModel", "ofTown", "(I)I"⟩ ∈ v_W := v_at 1573 (w := Cond.methodLink "RolledOutLaw" 87 ⟨"RolledOutModel", "ofTown", "(I)I"⟩) (by decide +kernel) (by decide +kernel)
theorem ml_L_91 : Cond.methodLink "RolledOutLaw" 91 ⟨"RolledOutModel", "ofHand", "(I)I"⟩ ∈ v_W := v_at 1577 (w := Cond.methodLink "RolledOutLaw" 91 ⟨"RolledOutModel", "ofHand", "(I)I"⟩) (by decide +kernel) (by decide +kernel)
theorem ml_L_95 : Cond.methodLink "RolledOutLaw" 95 ⟨"RolledOutModel", "moves", "(IIZ)I"⟩ ∈ v_W := v_at 1581 (w := Cond.methodLink "RolledOutLaw" 95 ⟨"RolledOutModel", "moves", "(IIZ)I"⟩) (by decide +kernel) (by decide +kernel)
theorem ml_L_99 : Cond.methodLink "RolledOutLaw" 99 ⟨"RolledOutModel", "is", "(I)I"⟩ ∈ v_W := v_at 1585 (w := Cond.methodLink "RolledOutLaw" 99 ⟨"RolledOutModel", "is", "(I)I"⟩) (by decide +kernel) (by decide +kernel)
theorem ml_X10_362 : Cond.methodLink "RolledOutModel" 362 ⟨"RolledOutModel", "tornNow", "()I"⟩ ∈ v_W := v_at 1589 (w := Cond.methodLink "RolledOutModel" 362 ⟨"RolledOutModel", "tornNow", "()I"⟩) (by decide +kernel) (by decide +kernel)
theorem ml_X10_365 : Cond.methodLink "RolledOutModel" 365 ⟨"RolledOutModel", "doughOf", "(II)I"⟩ ∈ v_W := v_at 1593 (w := Cond.methodLink "RolledOutModel" 365 ⟨"RolledOutModel", "doughOf", "(II)I"⟩) (by decide +kernel) (by decide +kernel)
theorem ml_L_103 : Cond.methodLink "RolledOutLaw" 103 ⟨"RolledOutModel", "book", "(II)I"⟩ ∈ v_W := v_at 1597 (w := Cond.methodLink "RolledOutLaw" 103 ⟨"RolledOutModel", "book", "(II)I"⟩) (by decide +kernel) (by decide +kernel)
theorem ml_X10_368 : Cond.methodLink "RolledOutModel" 368 ⟨"RolledOutModel", "entry", "(II)I"⟩ ∈ v_W := v_at 1601 (w := Cond.methodLink "RolledOutModel" 368 ⟨"RolledOutModel", "entry", "(II)I"⟩) (by decide +kernel) (by decide +kernel)
theorem ml_L_213 : Cond.methodLink "RolledOutLaw" 213 ⟨"RolledOutModel", "ledger", "(I)I"⟩ ∈ v_W := v_at 1605 (w := Cond.methodLink "RolledOutLaw" 213 ⟨"RolledOutModel", "ledger", "(I)I"⟩) (by decide +kernel) (by decide +kernel)
theorem ml_L_189 : Cond.methodLink "RolledOutLaw" 189 ⟨"RolledOutModel", "thin", "()I"⟩ ∈ v_W := v_at 1609 (w := Cond.methodLink "RolledOutLaw" 189 ⟨"RolledOutModel", "thin", "()I"⟩) (by decide +kernel) (by decide +kernel)
theorem ml_L_193 : Cond.methodLink "RolledOutLaw" 193 ⟨"RolledOutModel", "thick", "()I"⟩ ∈ v_W := v_at 1613 (w := Cond.methodLink "RolledOutLaw" 193 ⟨"RolledOutModel", "thick", "()I"⟩) (by decide +kernel) (by decide +kernel)
theorem ml_L_201 : Cond.methodLink "RolledOutLaw" 201 ⟨"RolledOutModel", "fallen", "()I"⟩ ∈ v_W := v_at 1617 (w := Cond.methodLink "RolledOutLaw" 201 ⟨"RolledOutModel", "fallen", "()I"⟩) (by decide +kernel) (by decide +kernel)
theorem ml_L_197 : Cond.methodLink "RolledOutLaw" 197 ⟨"RolledOutModel", "apart", "()I"⟩ ∈ v_W := v_at 1621 (w := Cond.methodLink "RolledOutLaw" 197 ⟨"RolledOutModel", "apart", "()I"⟩) (by decide +kernel) (by decide +kernel)
theorem ml_L_108 : Cond.methodLink "RolledOutLaw" 108 ⟨"RolledOutModel", "foretold", "(III)I"⟩ ∈ v_W := v_at 1626 (w := Cond.methodLink "RolledOutLaw" 108 ⟨"RolledOutModel", "foretold", "(III)I"⟩) (by decide +kernel) (by decide +kernel)
theorem ml_X10_372 : Cond.methodLink "RolledOutModel" 372 ⟨"RolledOutModel", "setAside", "()V"⟩ ∈ v_W := v_at 1630 (w := Cond.methodLink "RolledOutModel" 372 ⟨"RolledOutModel", "setAside", "()V"⟩) (by decide +kernel) (by decide +kernel)
theorem ml_X10_375 : Cond.methodLink "RolledOutModel" 375 ⟨"RolledOutModel", "putBack", "()V"⟩ ∈ v_W := v_at 1634 (w := Cond.methodLink "RolledOutModel" 375 ⟨"RolledOutModel", "putBack", "()V"⟩) (by decide +kernel) (by decide +kernel)
theorem ml_L_112 : Cond.methodLink "RolledOutLaw" 112 ⟨"RolledOutModel", "lake", "()I"⟩ ∈ v_W := v_at 1638 (w := Cond.methodLink "RolledOutLaw" 112 ⟨"RolledOutModel", "lake", "()I"⟩) (by decide +kernel) (by decide +kernel)
theorem ml_X10_378 : Cond.methodLink "RolledOutModel" 378 ⟨"RolledOutModel", "mostOf", "(II)I"⟩ ∈ v_W := v_at 1642 (w := Cond.methodLink "RolledOutModel" 378 ⟨"RolledOutModel", "mostOf", "(II)I"⟩) (by decide +kernel) (by decide +kernel)
theorem ml_L_116 : Cond.methodLink "RolledOutLaw" 116 ⟨"RolledOutModel", "glaze", "(I)I"⟩ ∈ v_W := v_at 1646 (w := Cond.methodLink "RolledOutLaw" 116 ⟨"RolledOutModel", "glaze", "(I)I"⟩) (by decide +kernel) (by decide +kernel)
theorem ml_X10_381 : Cond.methodLink "RolledOutModel" 381 ⟨"RolledOutModel", "leastOf", "(II)I"⟩ ∈ v_W := v_at 1650 (w := Cond.methodLink "RolledOutModel" 381 ⟨"RolledOutModel", "leastOf", "(II)I"⟩) (by decide +kernel) (by decide +kernel)
theorem ml_L_120 : Cond.methodLink "RolledOutLaw" 120 ⟨"RolledOutModel", "rise", "(I)I"⟩ ∈ v_W := v_at 1654 (w := Cond.methodLink "RolledOutLaw" 120 ⟨"RolledOutModel", "rise", "(I)I"⟩) (by decide +kernel) (by decide +kernel)
theorem ml_L_124 : Cond.methodLink "RolledOutLaw" 124 ⟨"RolledOutModel", "folds", "()I"⟩ ∈ v_W := v_at 1658 (w := Cond.methodLink "RolledOutLaw" 124 ⟨"RolledOutModel", "folds", "()I"⟩) (by decide +kernel) (by decide +kernel)
theorem ml_L_128 : Cond.methodLink "RolledOutLaw" 128 ⟨"RolledOutModel", "peaks", "()I"⟩ ∈ v_W := v_at 1662 (w := Cond.methodLink "RolledOutLaw" 128 ⟨"RolledOutModel", "peaks", "()I"⟩) (by decide +kernel) (by decide +kernel)
theorem ml_L_132 : Cond.methodLink "RolledOutLaw" 132 ⟨"RolledOutModel", "richest", "(I)I"⟩ ∈ v_W := v_at 1666 (w := Cond.methodLink "RolledOutLaw" 132 ⟨"RolledOutModel", "richest", "(I)I"⟩) (by decide +kernel) (by decide +kernel)
theorem ml_L_136 : Cond.methodLink "RolledOutLaw" 136 ⟨"RolledOutModel", "islands", "(I)I"⟩ ∈ v_W := v_at 1670 (w := Cond.methodLink "RolledOutLaw" 136 ⟨"RolledOutModel", "islands", "(I)I"⟩) (by decide +kernel) (by decide +kernel)
theorem ml_L_141 : Cond.methodLink "RolledOutLaw" 141 ⟨"RolledOutModel", "sees", "(IZ)I"⟩ ∈ v_W := v_at 1674 (w := Cond.methodLink "RolledOutLaw" 141 ⟨"RolledOutModel", "sees", "(IZ)I"⟩) (by decide +kernel) (by decide +kernel)
theorem ml_L_145 : Cond.methodLink "RolledOutLaw" 145 ⟨"RolledOutModel", "middle", "(I)I"⟩ ∈ v_W := v_at 1678 (w := Cond.methodLink "RolledOutLaw" 145 ⟨"RolledOutModel", "middle", "(I)I"⟩) (by decide +kernel) (by decide +kernel)
theorem ml_L_149 : Cond.methodLink "RolledOutLaw" 149 ⟨"RolledOutModel", "carried", "()I"⟩ ∈ v_W := v_at 1682 (w := Cond.methodLink "RolledOutLaw" 149 ⟨"RolledOutModel", "carried", "()I"⟩) (by decide +kernel) (by decide +kernel)
theorem ml_X10_384 : Cond.methodLink "RolledOutModel" 384 ⟨"RolledOutModel", "size", "(I)I"⟩ ∈ v_W := v_at 1686 (w := Cond.methodLink "RolledOutModel" 384 ⟨"RolledOutModel", "size", "(I)I"⟩) (by decide +kernel) (by decide +kernel)
theorem ml_L_153 : Cond.methodLink "RolledOutLaw" 153 ⟨"RolledOutModel", "level", "()I"⟩ ∈ v_W := v_at 1689 (w := Cond.methodLink "RolledOutLaw" 153 ⟨"RolledOutModel", "level", "()I"⟩) (by decide +kernel) (by decide +kernel)
theorem ml_L_157 : Cond.methodLink "RolledOutLaw" 157 ⟨"RolledOutModel", "shared", "(II)I"⟩ ∈ v_W := v_at 1693 (w := Cond.methodLink "RolledOutLaw" 157 ⟨"RolledOutModel", "shared", "(II)I"⟩) (by decide +kernel) (by decide +kernel)
theorem ml_X10_387 : Cond.methodLink "RolledOutModel" 387 ⟨"RolledOutModel", "isShared", "(III)Z"⟩ ∈ v_W := v_at 1697 (w := Cond.methodLink "RolledOutModel" 387 ⟨"RolledOutModel", "isShared", "(III)Z"⟩) (by decide +kernel) (by decide +kernel)
theorem ml_L_161 : Cond.methodLink "RolledOutLaw" 161 ⟨"RolledOutModel", "ends", "(II)I"⟩ ∈ v_W := v_at 1701 (w := Cond.methodLink "RolledOutLaw" 161 ⟨"RolledOutModel", "ends", "(II)I"⟩) (by decide +kernel) (by decide +kernel)
theorem ml_X10_390 : Cond.methodLink "RolledOutModel" 390 ⟨"RolledOutModel", "areCells", "(II)Z"⟩ ∈ v_W := v_at 1705 (w := Cond.methodLink "RolledOutModel" 390 ⟨"RolledOutModel", "areCells", "(II)Z"⟩) (by decide +kernel) (by decide +kernel)
theorem ml_X10_393 : Cond.methodLink "RolledOutModel" 393 ⟨"RolledOutModel", "layGames", "()V"⟩ ∈ v_W := v_at 1708 (w := Cond.methodLink "RolledOutModel" 393 ⟨"RolledOutModel", "layGames", "()V"⟩) (by decide +kernel) (by decide +kernel)
theorem ml_L_165 : Cond.methodLink "RolledOutLaw" 165 ⟨"RolledOutModel", "endsFirst", "(II)I"⟩ ∈ v_W := v_at 1712 (w := Cond.methodLink "RolledOutLaw" 165 ⟨"RolledOutModel", "endsFirst", "(II)I"⟩) (by decide +kernel) (by decide +kernel)
theorem ml_L_169 : Cond.methodLink "RolledOutLaw" 169 ⟨"RolledOutModel", "patches", "(IIZ)I"⟩ ∈ v_W := v_at 1716 (w := Cond.methodLink "RolledOutLaw" 169 ⟨"RolledOutModel", "patches", "(IIZ)I"⟩) (by decide +kernel) (by decide +kernel)
theorem ml_L_173 : Cond.methodLink "RolledOutLaw" 173 ⟨"RolledOutModel", "plan", "(III)I"⟩ ∈ v_W := v_at 1720 (w := Cond.methodLink "RolledOutLaw" 173 ⟨"RolledOutModel", "plan", "(III)I"⟩) (by decide +kernel) (by decide +kernel)
theorem ml_X10_402 : Cond.methodLink "RolledOutModel" 402 ⟨"RolledOutModel", "isPlan", "(IIII)Z"⟩ ∈ v_W := v_at 1724 (w := Cond.methodLink "RolledOutModel" 402 ⟨"RolledOutModel", "isPlan", "(IIII)Z"⟩) (by decide +kernel) (by decide +kernel)
theorem ml_X10_399 : Cond.methodLink "RolledOutModel" 399 ⟨"RolledOutModel", "areStroked", "(III)Z"⟩ ∈ v_W := v_at 1728 (w := Cond.methodLink "RolledOutModel" 399 ⟨"RolledOutModel", "areStroked", "(III)Z"⟩) (by decide +kernel) (by decide +kernel)
theorem ml_X10_396 : Cond.methodLink "RolledOutModel" 396 ⟨"RolledOutModel", "isStroked", "(II)Z"⟩ ∈ v_W := v_at 1732 (w := Cond.methodLink "RolledOutModel" 396 ⟨"RolledOutModel", "isStroked", "(II)Z"⟩) (by decide +kernel) (by decide +kernel)
theorem ml_L_177 : Cond.methodLink "RolledOutLaw" 177 ⟨"RolledOutModel", "best", "(I)I"⟩ ∈ v_W := v_at 1736 (w := Cond.methodLink "RolledOutLaw" 177 ⟨"RolledOutModel", "best", "(I)I"⟩) (by decide +kernel) (by decide +kernel)
theorem ml_L_181 : Cond.methodLink "RolledOutLaw" 181 ⟨"RolledOutModel", "which", "(IZ)I"⟩ ∈ v_W := v_at 1740 (w := Cond.methodLink "RolledOutLaw" 181 ⟨"RolledOutModel", "which", "(IZ)I"⟩) (by decide +kernel) (by decide +kernel)
theorem ml_X10_406 : Cond.methodLink "RolledOutModel" 406 ⟨"RolledOutModel", "isMade", "(III)Z"⟩ ∈ v_W := v_at 1744 (w := Cond.methodLink "RolledOutModel" 406 ⟨"RolledOutModel", "isMade", "(III)Z"⟩) (by decide +kernel) (by decide +kernel)
theorem ml_L_185 : Cond.methodLink "RolledOutLaw" 185 ⟨"RolledOutModel", "likely", "(IZ)I"⟩ ∈ v_W := v_at 1748 (w := Cond.methodLink "RolledOutLaw" 185 ⟨"RolledOutModel", "likely", "(IZ)I"⟩) (by decide +kernel) (by decide +kernel)
theorem ml_L_205 : Cond.methodLink "RolledOutLaw" 205 ⟨"RolledOutModel", "said", "(III)I"⟩ ∈ v_W := v_at 1752 (w := Cond.methodLink "RolledOutLaw" 205 ⟨"RolledOutModel", "said", "(III)I"⟩) (by decide +kernel) (by decide +kernel)
theorem ml_L_209 : Cond.methodLink "RolledOutLaw" 209 ⟨"RolledOutModel", "whose", "()I"⟩ ∈ v_W := v_at 1756 (w := Cond.methodLink "RolledOutLaw" 209 ⟨"RolledOutModel", "whose", "()I"⟩) (by decide +kernel) (by decide +kernel)
theorem ml_L_217 : Cond.methodLink "RolledOutLaw" 217 ⟨"RolledOutModel", "image", "()I"⟩ ∈ v_W := v_at 1760 (w := Cond.methodLink "RolledOutLaw" 217 ⟨"RolledOutModel", "image", "()I"⟩) (by decide +kernel) (by decide +kernel)
theorem ml_L_221 : Cond.methodLink "RolledOutLaw" 221 ⟨"RolledOutModel", "back", "()I"⟩ ∈ v_W := v_at 1764 (w := Cond.methodLink "RolledOutLaw" 221 ⟨"RolledOutModel", "back", "()I"⟩) (by decide +kernel) (by decide +kernel)
theorem ml_L_225 : Cond.methodLink "RolledOutLaw" 225 ⟨"RolledOutModel", "about", "(I)I"⟩ ∈ v_W := v_at 1768 (w := Cond.methodLink "RolledOutLaw" 225 ⟨"RolledOutModel", "about", "(I)I"⟩) (by decide +kernel) (by decide +kernel)
theorem cl_L_7 : Cond.classLink "RolledOutLaw" 7 "RolledOut" ∈ v_W := v_at 116 (w := Cond.classLink "RolledOutLaw" 7 "RolledOut") (by decide +kernel) (by decide +kernel)
theorem cl_X9_9 : Cond.classLink "RolledOut" 9 "RolledOut$World" ∈ v_W := v_at 124 (w := Cond.classLink "RolledOut" 9 "RolledOut$World") (by decide +kernel) (by decide +kernel)
theorem cl_X8_9 : Cond.classLink "RolledOut$World" 9 "RolledOut$Sheet" ∈ v_W := v_at 130 (w := Cond.classLink "RolledOut$World" 9 "RolledOut$Sheet") (by decide +kernel) (by decide +kernel)
theorem cl_X8_26 : Cond.classLink "RolledOut$World" 26 "RolledOut$Text" ∈ v_W := v_at 186 (w := Cond.classLink "RolledOut$World" 26 "RolledOut$Text") (by decide +kernel) (by decide +kernel)
theorem cl_X9_19 : Cond.classLink "RolledOut" 19 "RolledOut$Rules" ∈ v_W := v_at 241 (w := Cond.classLink "RolledOut" 19 "RolledOut$Rules") (by decide +kernel) (by decide +kernel)
theorem cl_X9_28 : Cond.classLink "RolledOut" 28 "RolledOut$Trials" ∈ v_W := v_at 266 (w := Cond.classLink "RolledOut" 28 "RolledOut$Trials") (by decide +kernel) (by decide +kernel)
theorem cl_X7_9 : Cond.classLink "RolledOut$Trials" 9 "RolledOut$Sheet" ∈ v_W := v_at 272 (w := Cond.classLink "RolledOut$Trials" 9 "RolledOut$Sheet") (by decide +kernel) (by decide +kernel)
theorem cl_X9_37 : Cond.classLink "RolledOut" 37 "RolledOut$Shape" ∈ v_W := v_at 301 (w := Cond.classLink "RolledOut" 37 "RolledOut$Shape") (by decide +kernel) (by decide +kernel)
theorem cl_X9_44 : Cond.classLink "RolledOut" 44 "RolledOut$Tape" ∈ v_W := v_at 314 (w := Cond.classLink "RolledOut" 44 "RolledOut$Tape") (by decide +kernel) (by decide +kernel)
theorem cl_X9_51 : Cond.classLink "RolledOut" 51 "RolledOut$Reader" ∈ v_W := v_at 345 (w := Cond.classLink "RolledOut" 51 "RolledOut$Reader") (by decide +kernel) (by decide +kernel)
theorem cl_Arrays_317 : Cond.classLink "java/util/Arrays" 317 "[I" ∈ v_W := v_at 623 (w := Cond.classLink "java/util/Arrays" 317 "[I") (by decide +kernel) (by decide +kernel)
theorem cl_X1_19 : Cond.classLink "RolledOut$Reader" 19 "RolledOut$Text" ∈ v_W := v_at 636 (w := Cond.classLink "RolledOut$Reader" 19 "RolledOut$Text") (by decide +kernel) (by decide +kernel)
theorem cl_L_10 : Cond.classLink "RolledOutLaw" 10 "RolledOutModel" ∈ v_W := v_at 1155 (w := Cond.classLink "RolledOutLaw" 10 "RolledOutModel") (by decide +kernel) (by decide +kernel)
theorem ib_X9 : Cond.instantiable "RolledOut" 7 ∈ v_W := v_at 117 (w := Cond.instantiable "RolledOut" 7) (by decide +kernel) (by decide +kernel)
theorem ib_X8 : Cond.instantiable "RolledOut$World" 12 ∈ v_W := v_at 125 (w := Cond.instantiable "RolledOut$World" 12) (by decide +kernel) (by decide +kernel)
theorem ib_X4 : Cond.instantiable "RolledOut$Sheet" 9 ∈ v_W := v_at 131 (w := Cond.instantiable "RolledOut$Sheet" 9) (by decide +kernel) (by decide +kernel)
theorem ib_X2 : Cond.instantiable "RolledOut$Rules" 6 ∈ v_W := v_at 242 (w := Cond.instantiable "RolledOut$Rules" 6) (by decide +kernel) (by decide +kernel)
theorem ib_X7 : Cond.instantiable "RolledOut$Trials" 8 ∈ v_W := v_at 267 (w := Cond.instantiable "RolledOut$Trials" 8) (by decide +kernel) (by decide +kernel)
theorem ib_X3 : Cond.instantiable "RolledOut$Shape" 2 ∈ v_W := v_at 302 (w := Cond.instantiable "RolledOut$Shape" 2) (by decide +kernel) (by decide +kernel)
theorem ib_X5 : Cond.instantiable "RolledOut$Tape" 6 ∈ v_W := v_at 315 (w := Cond.instantiable "RolledOut$Tape" 6) (by decide +kernel) (by decide +kernel)
theorem ib_X1 : Cond.instantiable "RolledOut$Reader" 12 ∈ v_W := v_at 346 (w := Cond.instantiable "RolledOut$Reader" 12) (by decide +kernel) (by decide +kernel)
theorem ib_X6 : Cond.instantiable "RolledOut$Text" 3 ∈ v_W := v_at 637 (w := Cond.instantiable "RolledOut$Text" 3) (by decide +kernel) (by decide +kernel)
theorem ib_X10 : Cond.instantiable "RolledOutModel" 29 ∈ v_W := v_at 1156 (w := Cond.instantiable "RolledOutModel" 29) (by decide +kernel) (by decide +kernel)
theorem co_Integer_265 : Cond.constant "java/lang/Integer" 265 (1431655765) ∈ v_W := v_at 787 (w := Cond.constant "java/lang/Integer" 265 (1431655765)) (by decide +kernel) (by decide +kernel)
theorem co_Integer_266 : Cond.constant "java/lang/Integer" 266 (858993459) ∈ v_W := v_at 788 (w := Cond.constant "java/lang/Integer" 266 (858993459)) (by decide +kernel) (by decide +kernel)
theorem co_Integer_267 : Cond.constant "java/lang/Integer" 267 (252645135) ∈ v_W := v_at 789 (w := Cond.constant "java/lang/Integer" 267 (252645135)) (by decide +kernel) (by decide +kernel)
theorem co_X10_97 : Cond.constant "RolledOutModel" 97 (99999) ∈ v_W := v_at 1302 (w := Cond.constant "RolledOutModel" 97 (99999)) (by decide +kernel) (by decide +kernel)
theorem co_X10_371 : Cond.constant "RolledOutModel" 371 (2147483647) ∈ v_W := v_at 1625 (w := Cond.constant "RolledOutModel" 371 (2147483647)) (by decide +kernel) (by decide +kernel)
theorem col_X2_133 : Cond.constantLong "RolledOut$Rules" 133 (-1000000) ∈ v_W := v_at 711 (w := Cond.constantLong "RolledOut$Rules" 133 (-1000000)) (by decide +kernel) (by decide +kernel)
theorem col_X2_135 : Cond.constantLong "RolledOut$Rules" 135 (1000000) ∈ v_W := v_at 712 (w := Cond.constantLong "RolledOut$Rules" 135 (1000000)) (by decide +kernel) (by decide +kernel)
theorem col_X2_148 : Cond.constantLong "RolledOut$Rules" 148 (12) ∈ v_W := v_at 723 (w := Cond.constantLong "RolledOut$Rules" 148 (12)) (by decide +kernel) (by decide +kernel)
theorem col_X2_88 : Cond.constantLong "RolledOut$Rules" 88 (99) ∈ v_W := v_at 740 (w := Cond.constantLong "RolledOut$Rules" 88 (99)) (by decide +kernel) (by decide +kernel)
theorem col_X4_67 : Cond.constantLong "RolledOut$Sheet" 67 (4) ∈ v_W := v_at 745 (w := Cond.constantLong "RolledOut$Sheet" 67 (4)) (by decide +kernel) (by decide +kernel)
theorem col_X4_69 : Cond.constantLong "RolledOut$Sheet" 69 (32) ∈ v_W := v_at 746 (w := Cond.constantLong "RolledOut$Sheet" 69 (32)) (by decide +kernel) (by decide +kernel)
theorem col_X10_105 : Cond.constantLong "RolledOutModel" 105 (1152921504606846976) ∈ v_W := v_at 1306 (w := Cond.constantLong "RolledOutModel" 105 (1152921504606846976)) (by decide +kernel) (by decide +kernel)
theorem col_X10_237 : Cond.constantLong "RolledOutModel" 237 (1000000) ∈ v_W := v_at 1480 (w := Cond.constantLong "RolledOutModel" 237 (1000000)) (by decide +kernel) (by decide +kernel)
theorem col_X10_239 : Cond.constantLong "RolledOutModel" 239 (-1000000) ∈ v_W := v_at 1481 (w := Cond.constantLong "RolledOutModel" 239 (-1000000)) (by decide +kernel) (by decide +kernel)
theorem col_X10_245 : Cond.constantLong "RolledOutModel" 245 (12) ∈ v_W := v_at 1486 (w := Cond.constantLong "RolledOutModel" 245 (12)) (by decide +kernel) (by decide +kernel)
theorem col_X10_284 : Cond.constantLong "RolledOutModel" 284 (541) ∈ v_W := v_at 1540 (w := Cond.constantLong "RolledOutModel" 284 (541)) (by decide +kernel) (by decide +kernel)
theorem col_X10_286 : Cond.constantLong "RolledOutModel" 286 (419) ∈ v_W := v_at 1541 (w := Cond.constantLong "RolledOutModel" 286 (419)) (by decide +kernel) (by decide +kernel)
theorem col_X10_288 : Cond.constantLong "RolledOutModel" 288 (30713) ∈ v_W := v_at 1542 (w := Cond.constantLong "RolledOutModel" 288 (30713)) (by decide +kernel) (by decide +kernel)
theorem ac_int : Cond.arrayClass .int ∈ v_W := v_at 183 (w := Cond.arrayClass .int) (by decide +kernel) (by decide +kernel)
theorem ac_long : Cond.arrayClass .long ∈ v_W := v_at 184 (w := Cond.arrayClass .long) (by decide +kernel) (by decide +kernel)
theorem nat_copy : Cond.native arraycopyName ∈ v_W := v_at 627 (w := Cond.native arraycopyName) (by decide +kernel) (by decide +kernel)
theorem ac_byte : Cond.arrayClass .byte ∈ v_W := v_at 655 (w := Cond.arrayClass .byte) (by decide +kernel) (by decide +kernel)
theorem ac_boolean : Cond.arrayClass .boolean ∈ v_W := v_at 1252 (w := Cond.arrayClass .boolean) (by decide +kernel) (by decide +kernel)
theorem iu_X1 : ∀ k, k < 12 → u_lay RX1 TX1 k ∈ v_W := fun k hk => match k, hk with
  | 0, _ => v_at 368 (w := u_lay RX1 TX1 0) (by decide +kernel) (by decide +kernel)
  | 1, _ => v_at 370 (w := u_lay RX1 TX1 1) (by decide +kernel) (by decide +kernel)
  | 2, _ => v_at 372 (w := u_lay RX1 TX1 2) (by decide +kernel) (by decide +kernel)
  | 3, _ => v_at 374 (w := u_lay RX1 TX1 3) (by decide +kernel) (by decide +kernel)
  | 4, _ => v_at 376 (w := u_lay RX1 TX1 4) (by decide +kernel) (by decide +kernel)
  | 5, _ => v_at 378 (w := u_lay RX1 TX1 5) (by decide +kernel) (by decide +kernel)
  | 6, _ => v_at 380 (w := u_lay RX1 TX1 6) (by decide +kernel) (by decide +kernel)
  | 7, _ => v_at 382 (w := u_lay RX1 TX1 7) (by decide +kernel) (by decide +kernel)
  | 8, _ => v_at 384 (w := u_lay RX1 TX1 8) (by decide +kernel) (by decide +kernel)
  | 9, _ => v_at 386 (w := u_lay RX1 TX1 9) (by decide +kernel) (by decide +kernel)
  | 10, _ => v_at 388 (w := u_lay RX1 TX1 10) (by decide +kernel) (by decide +kernel)
  | 11, _ => v_at 390 (w := u_lay RX1 TX1 11) (by decide +kernel) (by decide +kernel)
  | k + 12, hk => absurd hk (by omega)
theorem i_X1 : ∀ w ∈ u_ws RX1 TX1 12, w ∈ v_W := fun w hw => by
  obtain ⟨k, hk, rfl⟩ := List.mem_map.mp hw
  exact iu_X1 k (List.mem_range.mp hk)
theorem iu_X2 : ∀ k, k < 6 → u_lay RX2 TX2 k ∈ v_W := fun k hk => match k, hk with
  | 0, _ => v_at 253 (w := u_lay RX2 TX2 0) (by decide +kernel) (by decide +kernel)
  | 1, _ => v_at 255 (w := u_lay RX2 TX2 1) (by decide +kernel) (by decide +kernel)
  | 2, _ => v_at 257 (w := u_lay RX2 TX2 2) (by decide +kernel) (by decide +kernel)
  | 3, _ => v_at 259 (w := u_lay RX2 TX2 3) (by decide +kernel) (by decide +kernel)
  | 4, _ => v_at 261 (w := u_lay RX2 TX2 4) (by decide +kernel) (by decide +kernel)
  | 5, _ => v_at 263 (w := u_lay RX2 TX2 5) (by decide +kernel) (by decide +kernel)
  | k + 6, hk => absurd hk (by omega)
theorem i_X2 : ∀ w ∈ u_ws RX2 TX2 6, w ∈ v_W := fun w hw => by
  obtain ⟨k, hk, rfl⟩ := List.mem_map.mp hw
  exact iu_X2 k (List.mem_range.mp hk)
theorem iu_X3 : ∀ k, k < 2 → u_lay RX3 TX3 k ∈ v_W := fun k hk => match k, hk with
  | 0, _ => v_at 309 (w := u_lay RX3 TX3 0) (by decide +kernel) (by decide +kernel)
  | 1, _ => v_at 311 (w := u_lay RX3 TX3 1) (by decide +kernel) (by decide +kernel)
  | k + 2, hk => absurd hk (by omega)
theorem i_X3 : ∀ w ∈ u_ws RX3 TX3 2, w ∈ v_W := fun w hw => by
  obtain ⟨k, hk, rfl⟩ := List.mem_map.mp hw
  exact iu_X3 k (List.mem_range.mp hk)
theorem iu_X4 : ∀ k, k < 9 → u_lay RX4 TX4 k ∈ v_W := fun k hk => match k, hk with
  | 0, _ => v_at 164 (w := u_lay RX4 TX4 0) (by decide +kernel) (by decide +kernel)
  | 1, _ => v_at 166 (w := u_lay RX4 TX4 1) (by decide +kernel) (by decide +kernel)
  | 2, _ => v_at 168 (w := u_lay RX4 TX4 2) (by decide +kernel) (by decide +kernel)
  | 3, _ => v_at 170 (w := u_lay RX4 TX4 3) (by decide +kernel) (by decide +kernel)
  | 4, _ => v_at 172 (w := u_lay RX4 TX4 4) (by decide +kernel) (by decide +kernel)
  | 5, _ => v_at 174 (w := u_lay RX4 TX4 5) (by decide +kernel) (by decide +kernel)
  | 6, _ => v_at 176 (w := u_lay RX4 TX4 6) (by decide +kernel) (by decide +kernel)
  | 7, _ => v_at 178 (w := u_lay RX4 TX4 7) (by decide +kernel) (by decide +kernel)
  | 8, _ => v_at 180 (w := u_lay RX4 TX4 8) (by decide +kernel) (by decide +kernel)
  | k + 9, hk => absurd hk (by omega)
theorem i_X4 : ∀ w ∈ u_ws RX4 TX4 9, w ∈ v_W := fun w hw => by
  obtain ⟨k, hk, rfl⟩ := List.mem_map.mp hw
  exact iu_X4 k (List.mem_range.mp hk)
theorem iu_X5 : ∀ k, k < 6 → u_lay RX5 TX5 k ∈ v_W := fun k hk => match k, hk with
  | 0, _ => v_at 332 (w := u_lay RX5 TX5 0) (by decide +kernel) (by decide +kernel)
  | 1, _ => v_at 334 (w := u_lay RX5 TX5 1) (by decide +kernel) (by decide +kernel)
  | 2, _ => v_at 336 (w := u_lay RX5 TX5 2) (by decide +kernel) (by decide +kernel)
  | 3, _ => v_at 338 (w := u_lay RX5 TX5 3) (by decide +kernel) (by decide +kernel)
  | 4, _ => v_at 340 (w := u_lay RX5 TX5 4) (by decide +kernel) (by decide +kernel)
  | 5, _ => v_at 342 (w := u_lay RX5 TX5 5) (by decide +kernel) (by decide +kernel)
  | k + 6, hk => absurd hk (by omega)
theorem i_X5 : ∀ w ∈ u_ws RX5 TX5 6, w ∈ v_W := fun w hw => by
  obtain ⟨k, hk, rfl⟩ := List.mem_map.mp hw
  exact iu_X5 k (List.mem_range.mp hk)
theorem iu_X6 : ∀ k, k < 3 → u_lay RX6 TX6 k ∈ v_W := fun k hk => match k, hk with
  | 0, _ => v_at 648 (w := u_lay RX6 TX6 0) (by decide +kernel) (by decide +kernel)
  | 1, _ => v_at 650 (w := u_lay RX6 TX6 1) (by decide +kernel) (by decide +kernel)
  | 2, _ => v_at 652 (w := u_lay RX6 TX6 2) (by decide +kernel) (by decide +kernel)
  | k + 3, hk => absurd hk (by omega)
theorem i_X6 : ∀ w ∈ u_ws RX6 TX6 3, w ∈ v_W := fun w hw => by
  obtain ⟨k, hk, rfl⟩ := List.mem_map.mp hw
  exact iu_X6 k (List.mem_range.mp hk)
theorem iu_X7 : ∀ k, k < 8 → u_lay RX7 TX7 k ∈ v_W := fun k hk => match k, hk with
  | 0, _ => v_at 284 (w := u_lay RX7 TX7 0) (by decide +kernel) (by decide +kernel)
  | 1, _ => v_at 286 (w := u_lay RX7 TX7 1) (by decide +kernel) (by decide +kernel)
  | 2, _ => v_at 288 (w := u_lay RX7 TX7 2) (by decide +kernel) (by decide +kernel)
  | 3, _ => v_at 290 (w := u_lay RX7 TX7 3) (by decide +kernel) (by decide +kernel)
  | 4, _ => v_at 292 (w := u_lay RX7 TX7 4) (by decide +kernel) (by decide +kernel)
  | 5, _ => v_at 294 (w := u_lay RX7 TX7 5) (by decide +kernel) (by decide +kernel)
  | 6, _ => v_at 296 (w := u_lay RX7 TX7 6) (by decide +kernel) (by decide +kernel)
  | 7, _ => v_at 298 (w := u_lay RX7 TX7 7) (by decide +kernel) (by decide +kernel)
  | k + 8, hk => absurd hk (by omega)
theorem i_X7 : ∀ w ∈ u_ws RX7 TX7 8, w ∈ v_W := fun w hw => by
  obtain ⟨k, hk, rfl⟩ := List.mem_map.mp hw
  exact iu_X7 k (List.mem_range.mp hk)
theorem iu_X8 : ∀ k, k < 12 → u_lay RX8 TX8 k ∈ v_W := fun k hk => match k, hk with
  | 0, _ => v_at 216 (w := u_lay RX8 TX8 0) (by decide +kernel) (by decide +kernel)
  | 1, _ => v_at 218 (w := u_lay RX8 TX8 1) (by decide +kernel) (by decide +kernel)
  | 2, _ => v_at 220 (w := u_lay RX8 TX8 2) (by decide +kernel) (by decide +kernel)
  | 3, _ => v_at 222 (w := u_lay RX8 TX8 3) (by decide +kernel) (by decide +kernel)
  | 4, _ => v_at 224 (w := u_lay RX8 TX8 4) (by decide +kernel) (by decide +kernel)
  | 5, _ => v_at 226 (w := u_lay RX8 TX8 5) (by decide +kernel) (by decide +kernel)
  | 6, _ => v_at 228 (w := u_lay RX8 TX8 6) (by decide +kernel) (by decide +kernel)
  | 7, _ => v_at 230 (w := u_lay RX8 TX8 7) (by decide +kernel) (by decide +kernel)
  | 8, _ => v_at 232 (w := u_lay RX8 TX8 8) (by decide +kernel) (by decide +kernel)
  | 9, _ => v_at 234 (w := u_lay RX8 TX8 9) (by decide +kernel) (by decide +kernel)
  | 10, _ => v_at 236 (w := u_lay RX8 TX8 10) (by decide +kernel) (by decide +kernel)
  | 11, _ => v_at 238 (w := u_lay RX8 TX8 11) (by decide +kernel) (by decide +kernel)
  | k + 12, hk => absurd hk (by omega)
theorem i_X8 : ∀ w ∈ u_ws RX8 TX8 12, w ∈ v_W := fun w hw => by
  obtain ⟨k, hk, rfl⟩ := List.mem_map.mp hw
  exact iu_X8 k (List.mem_range.mp hk)
theorem iu_X9 : ∀ k, k < 7 → u_lay RX9 TX9 k ∈ v_W := fun k hk => match k, hk with
  | 0, _ => v_at 400 (w := u_lay RX9 TX9 0) (by decide +kernel) (by decide +kernel)
  | 1, _ => v_at 402 (w := u_lay RX9 TX9 1) (by decide +kernel) (by decide +kernel)
  | 2, _ => v_at 404 (w := u_lay RX9 TX9 2) (by decide +kernel) (by decide +kernel)
  | 3, _ => v_at 406 (w := u_lay RX9 TX9 3) (by decide +kernel) (by decide +kernel)
  | 4, _ => v_at 408 (w := u_lay RX9 TX9 4) (by decide +kernel) (by decide +kernel)
  | 5, _ => v_at 410 (w := u_lay RX9 TX9 5) (by decide +kernel) (by decide +kernel)
  | 6, _ => v_at 412 (w := u_lay RX9 TX9 6) (by decide +kernel) (by decide +kernel)
  | k + 7, hk => absurd hk (by omega)
theorem i_X9 : ∀ w ∈ u_ws RX9 TX9 7, w ∈ v_W := fun w hw => by
  obtain ⟨k, hk, rfl⟩ := List.mem_map.mp hw
  exact iu_X9 k (List.mem_range.mp hk)
theorem iu_X10 : ∀ k, k < 29 → u_lay RX10 TX10 k ∈ v_W := fun k hk => match k, hk with
  | 0, _ => v_at 1193 (w := u_lay RX10 TX10 0) (by decide +kernel) (by decide +kernel)
  | 1, _ => v_at 1195 (w := u_lay RX10 TX10 1) (by decide +kernel) (by decide +kernel)
  | 2, _ => v_at 1197 (w := u_lay RX10 TX10 2) (by decide +kernel) (by decide +kernel)
  | 3, _ => v_at 1199 (w := u_lay RX10 TX10 3) (by decide +kernel) (by decide +kernel)
  | 4, _ => v_at 1201 (w := u_lay RX10 TX10 4) (by decide +kernel) (by decide +kernel)
  | 5, _ => v_at 1203 (w := u_lay RX10 TX10 5) (by decide +kernel) (by decide +kernel)
  | 6, _ => v_at 1205 (w := u_lay RX10 TX10 6) (by decide +kernel) (by decide +kernel)
  | 7, _ => v_at 1207 (w := u_lay RX10 TX10 7) (by decide +kernel) (by decide +kernel)
  | 8, _ => v_at 1209 (w := u_lay RX10 TX10 8) (by decide +kernel) (by decide +kernel)
  | 9, _ => v_at 1211 (w := u_lay RX10 TX10 9) (by decide +kernel) (by decide +kernel)
  | 10, _ => v_at 1213 (w := u_lay RX10 TX10 10) (by decide +kernel) (by decide +kernel)
  | 11, _ => v_at 1215 (w := u_lay RX10 TX10 11) (by decide +kernel) (by decide +kernel)
  | 12, _ => v_at 1217 (w := u_lay RX10 TX10 12) (by decide +kernel) (by decide +kernel)
  | 13, _ => v_at 1219 (w := u_lay RX10 TX10 13) (by decide +kernel) (by decide +kernel)
  | 14, _ => v_at 1221 (w := u_lay RX10 TX10 14) (by decide +kernel) (by decide +kernel)
  | 15, _ => v_at 1223 (w := u_lay RX10 TX10 15) (by decide +kernel) (by decide +kernel)
  | 16, _ => v_at 1225 (w := u_lay RX10 TX10 16) (by decide +kernel) (by decide +kernel)
  | 17, _ => v_at 1227 (w := u_lay RX10 TX10 17) (by decide +kernel) (by decide +kernel)
  | 18, _ => v_at 1229 (w := u_lay RX10 TX10 18) (by decide +kernel) (by decide +kernel)
  | 19, _ => v_at 1231 (w := u_lay RX10 TX10 19) (by decide +kernel) (by decide +kernel)
  | 20, _ => v_at 1233 (w := u_lay RX10 TX10 20) (by decide +kernel) (by decide +kernel)
  | 21, _ => v_at 1235 (w := u_lay RX10 TX10 21) (by decide +kernel) (by decide +kernel)
  | 22, _ => v_at 1237 (w := u_lay RX10 TX10 22) (by decide +kernel) (by decide +kernel)
  | 23, _ => v_at 1239 (w := u_lay RX10 TX10 23) (by decide +kernel) (by decide +kernel)
  | 24, _ => v_at 1241 (w := u_lay RX10 TX10 24) (by decide +kernel) (by decide +kernel)
  | 25, _ => v_at 1243 (w := u_lay RX10 TX10 25) (by decide +kernel) (by decide +kernel)
  | 26, _ => v_at 1245 (w := u_lay RX10 TX10 26) (by decide +kernel) (by decide +kernel)
  | 27, _ => v_at 1247 (w := u_lay RX10 TX10 27) (by decide +kernel) (by decide +kernel)
  | 28, _ => v_at 1249 (w := u_lay RX10 TX10 28) (by decide +kernel) (by decide +kernel)
  | k + 29, hk => absurd hk (by omega)
theorem i_X10 : ∀ w ∈ u_ws RX10 TX10 29, w ∈ v_W := fun w hw => by
  obtain ⟨k, hk, rfl⟩ := List.mem_map.mp hw
  exact iu_X10 k (List.mem_range.mp hk)
set_option maxRecDepth 100000 in
theorem y_X1_init : v_YI yX1_init cX1_init 2 1 := ⟨⟨v_at 349 rfl (by decide +kernel), ini_X1, by decide +kernel⟩, rfl, v_at 348 (w := Cond.instanceMethod yX1_init) (by decide +kernel) (by decide +kernel)⟩
set_option maxRecDepth 100000 in
theorem y_X1_readTape : v_YV yX1_readTape cX1_readTape 3 (some (.object "RolledOut$Text")) 0 := ⟨⟨v_at 461 rfl (by decide +kernel), ini_X1, by decide +kernel⟩, v_at 459 (w := Cond.instanceMethod yX1_readTape) (by decide +kernel) (by decide +kernel), v_at 460 (w := Cond.selects yX1_readTape.cls yX1_readTape yX1_readTape) (by decide +kernel) (by decide +kernel)⟩
set_option maxRecDepth 100000 in
theorem y_X1_faulty : v_YV yX1_faulty cX1_faulty 2 (some .boolean) 1 := ⟨⟨v_at 557 rfl (by decide +kernel), ini_X1, by decide +kernel⟩, v_at 556 (w := Cond.instanceMethod yX1_faulty) (by decide +kernel) (by decide +kernel), v_at 6 (w := Cond.selects yX1_faulty.cls yX1_faulty yX1_faulty) (by decide +kernel) (by decide +kernel)⟩
set_option maxRecDepth 100000 in
theorem y_X1_advance : v_YV yX1_advance cX1_advance 1 (none) 0 := ⟨⟨v_at 561 rfl (by decide +kernel), ini_X1, by decide +kernel⟩, v_at 560 (w := Cond.instanceMethod yX1_advance) (by decide +kernel) (by decide +kernel), v_at 7 (w := Cond.selects yX1_advance.cls yX1_advance yX1_advance) (by decide +kernel) (by decide +kernel)⟩
set_option maxRecDepth 100000 in
theorem y_X1_takes : v_YV yX1_takes cX1_takes 2 (some .boolean) 1 := ⟨⟨v_at 593 rfl (by decide +kernel), ini_X1, by decide +kernel⟩, v_at 592 (w := Cond.instanceMethod yX1_takes) (by decide +kernel) (by decide +kernel), v_at 15 (w := Cond.selects yX1_takes.cls yX1_takes yX1_takes) (by decide +kernel) (by decide +kernel)⟩
set_option maxRecDepth 100000 in
theorem y_X1_clause : v_YV yX1_clause cX1_clause 3 (some .boolean) 0 := ⟨⟨v_at 553 rfl (by decide +kernel), ini_X1, by decide +kernel⟩, v_at 552 (w := Cond.instanceMethod yX1_clause) (by decide +kernel) (by decide +kernel), v_at 5 (w := Cond.selects yX1_clause.cls yX1_clause yX1_clause) (by decide +kernel) (by decide +kernel)⟩
set_option maxRecDepth 100000 in
theorem y_X1_readDeed : v_YV yX1_readDeed cX1_readDeed 2 (some .boolean) 1 := ⟨⟨v_at 631 rfl (by decide +kernel), ini_X1, by decide +kernel⟩, v_at 630 (w := Cond.instanceMethod yX1_readDeed) (by decide +kernel) (by decide +kernel), v_at 21 (w := Cond.selects yX1_readDeed.cls yX1_readDeed yX1_readDeed) (by decide +kernel) (by decide +kernel)⟩
set_option maxRecDepth 100000 in
theorem y_X1_readNumber : v_YV yX1_readNumber cX1_readNumber 4 (some .boolean) 3 := ⟨⟨v_at 635 rfl (by decide +kernel), ini_X1, by decide +kernel⟩, v_at 634 (w := Cond.instanceMethod yX1_readNumber) (by decide +kernel) (by decide +kernel), v_at 22 (w := Cond.selects yX1_readNumber.cls yX1_readNumber yX1_readNumber) (by decide +kernel) (by decide +kernel)⟩
set_option maxRecDepth 100000 in
theorem y_X1_readLaw : v_YV yX1_readLaw cX1_readLaw 3 (some .boolean) 1 := ⟨⟨v_at 565 rfl (by decide +kernel), ini_X1, by decide +kernel⟩, v_at 564 (w := Cond.instanceMethod yX1_readLaw) (by decide +kernel) (by decide +kernel), v_at 8 (w := Cond.selects yX1_readLaw.cls yX1_readLaw yX1_readLaw) (by decide +kernel) (by decide +kernel)⟩
set_option maxRecDepth 100000 in
theorem y_X1_add : v_YV yX1_add cX1_add 3 (none) 2 := ⟨⟨v_at 585 rfl (by decide +kernel), ini_X1, by decide +kernel⟩, v_at 584 (w := Cond.instanceMethod yX1_add) (by decide +kernel) (by decide +kernel), v_at 13 (w := Cond.selects yX1_add.cls yX1_add yX1_add) (by decide +kernel) (by decide +kernel)⟩
set_option maxRecDepth 100000 in
theorem y_X1_land : v_YV yX1_land cX1_land 3 (none) 2 := ⟨⟨v_at 613 rfl (by decide +kernel), ini_X1, by decide +kernel⟩, v_at 612 (w := Cond.instanceMethod yX1_land) (by decide +kernel) (by decide +kernel), v_at 20 (w := Cond.selects yX1_land.cls yX1_land yX1_land) (by decide +kernel) (by decide +kernel)⟩
set_option maxRecDepth 100000 in
theorem y_X1_sum : v_YV yX1_sum cX1_sum 6 (some .boolean) 2 := ⟨⟨v_at 569 rfl (by decide +kernel), ini_X1, by decide +kernel⟩, v_at 568 (w := Cond.instanceMethod yX1_sum) (by decide +kernel) (by decide +kernel), v_at 9 (w := Cond.selects yX1_sum.cls yX1_sum yX1_sum) (by decide +kernel) (by decide +kernel)⟩
set_option maxRecDepth 100000 in
theorem y_X1_product : v_YV yX1_product cX1_product 6 (some .boolean) 2 := ⟨⟨v_at 573 rfl (by decide +kernel), ini_X1, by decide +kernel⟩, v_at 572 (w := Cond.instanceMethod yX1_product) (by decide +kernel) (by decide +kernel), v_at 10 (w := Cond.selects yX1_product.cls yX1_product yX1_product) (by decide +kernel) (by decide +kernel)⟩
set_option maxRecDepth 100000 in
theorem y_X1_one : v_YV yX1_one cX1_one 4 (some .boolean) 2 := ⟨⟨v_at 577 rfl (by decide +kernel), ini_X1, by decide +kernel⟩, v_at 576 (w := Cond.instanceMethod yX1_one) (by decide +kernel) (by decide +kernel), v_at 11 (w := Cond.selects yX1_one.cls yX1_one yX1_one) (by decide +kernel) (by decide +kernel)⟩
set_option maxRecDepth 100000 in
theorem y_X1_adds : v_YV yX1_adds cX1_adds 3 (some .boolean) 2 := ⟨⟨v_at 581 rfl (by decide +kernel), ini_X1, by decide +kernel⟩, v_at 580 (w := Cond.instanceMethod yX1_adds) (by decide +kernel) (by decide +kernel), v_at 12 (w := Cond.selects yX1_adds.cls yX1_adds yX1_adds) (by decide +kernel) (by decide +kernel)⟩
set_option maxRecDepth 100000 in
theorem y_X1_opens : v_YV yX1_opens cX1_opens 2 (some .boolean) 1 := ⟨⟨v_at 589 rfl (by decide +kernel), ini_X1, by decide +kernel⟩, v_at 588 (w := Cond.instanceMethod yX1_opens) (by decide +kernel) (by decide +kernel), v_at 14 (w := Cond.selects yX1_opens.cls yX1_opens yX1_opens) (by decide +kernel) (by decide +kernel)⟩
set_option maxRecDepth 100000 in
theorem y_X1_choice : v_YV yX1_choice cX1_choice 5 (some .boolean) 2 := ⟨⟨v_at 597 rfl (by decide +kernel), ini_X1, by decide +kernel⟩, v_at 596 (w := Cond.instanceMethod yX1_choice) (by decide +kernel) (by decide +kernel), v_at 16 (w := Cond.selects yX1_choice.cls yX1_choice yX1_choice) (by decide +kernel) (by decide +kernel)⟩
set_option maxRecDepth 100000 in
theorem y_X1_either : v_YV yX1_either cX1_either 5 (some .boolean) 2 := ⟨⟨v_at 601 rfl (by decide +kernel), ini_X1, by decide +kernel⟩, v_at 600 (w := Cond.instanceMethod yX1_either) (by decide +kernel) (by decide +kernel), v_at 17 (w := Cond.selects yX1_either.cls yX1_either yX1_either) (by decide +kernel) (by decide +kernel)⟩
set_option maxRecDepth 100000 in
theorem y_X1_both : v_YV yX1_both cX1_both 5 (some .boolean) 2 := ⟨⟨v_at 605 rfl (by decide +kernel), ini_X1, by decide +kernel⟩, v_at 604 (w := Cond.instanceMethod yX1_both) (by decide +kernel) (by decide +kernel), v_at 18 (w := Cond.selects yX1_both.cls yX1_both yX1_both) (by decide +kernel) (by decide +kernel)⟩
set_option maxRecDepth 100000 in
theorem y_X1_ask : v_YV yX1_ask cX1_ask 4 (some .boolean) 2 := ⟨⟨v_at 609 rfl (by decide +kernel), ini_X1, by decide +kernel⟩, v_at 608 (w := Cond.instanceMethod yX1_ask) (by decide +kernel) (by decide +kernel), v_at 19 (w := Cond.selects yX1_ask.cls yX1_ask yX1_ask) (by decide +kernel) (by decide +kernel)⟩
set_option maxRecDepth 100000 in
theorem y_X2_init : v_YI yX2_init cX2_init 2 1 := ⟨⟨v_at 245 rfl (by decide +kernel), ini_X2, by decide +kernel⟩, rfl, v_at 244 (w := Cond.instanceMethod yX2_init) (by decide +kernel) (by decide +kernel)⟩
set_option maxRecDepth 100000 in
theorem y_X2_push : v_YV yX2_push cX2_push 9 (some .int) 4 := ⟨⟨v_at 693 rfl (by decide +kernel), ini_X2, by decide +kernel⟩, v_at 691 (w := Cond.instanceMethod yX2_push) (by decide +kernel) (by decide +kernel), v_at 692 (w := Cond.selects yX2_push.cls yX2_push yX2_push) (by decide +kernel) (by decide +kernel)⟩
set_option maxRecDepth 100000 in
theorem y_X2_amount : v_YV yX2_amount cX2_amount 7 (some .int) 5 := ⟨⟨v_at 702 rfl (by decide +kernel), ini_X2, by decide +kernel⟩, v_at 700 (w := Cond.instanceMethod yX2_amount) (by decide +kernel) (by decide +kernel), v_at 701 (w := Cond.selects yX2_amount.cls yX2_amount yX2_amount) (by decide +kernel) (by decide +kernel)⟩
set_option maxRecDepth 100000 in
theorem y_X2_tearing : v_YV yX2_tearing cX2_tearing 4 (some .int) 2 := ⟨⟨v_at 735 rfl (by decide +kernel), ini_X2, by decide +kernel⟩, v_at 733 (w := Cond.instanceMethod yX2_tearing) (by decide +kernel) (by decide +kernel), v_at 734 (w := Cond.selects yX2_tearing.cls yX2_tearing yX2_tearing) (by decide +kernel) (by decide +kernel)⟩
set_option maxRecDepth 100000 in
theorem y_X2_passTurn : v_YV yX2_passTurn cX2_passTurn 4 (none) 1 := ⟨⟨v_at 778 rfl (by decide +kernel), ini_X2, by decide +kernel⟩, v_at 776 (w := Cond.instanceMethod yX2_passTurn) (by decide +kernel) (by decide +kernel), v_at 777 (w := Cond.selects yX2_passTurn.cls yX2_passTurn yX2_passTurn) (by decide +kernel) (by decide +kernel)⟩
set_option maxRecDepth 100000 in
theorem y_X2_passYear : v_YV yX2_passYear cX2_passYear 4 (none) 1 := ⟨⟨v_at 811 rfl (by decide +kernel), ini_X2, by decide +kernel⟩, v_at 809 (w := Cond.instanceMethod yX2_passYear) (by decide +kernel) (by decide +kernel), v_at 810 (w := Cond.selects yX2_passYear.cls yX2_passYear yX2_passYear) (by decide +kernel) (by decide +kernel)⟩
set_option maxRecDepth 100000 in
theorem y_X2_isLawOfAllSaid : v_YV yX2_isLawOfAllSaid cX2_isLawOfAllSaid 5 (some .boolean) 1 := ⟨⟨v_at 1128 rfl (by decide +kernel), ini_X2, by decide +kernel⟩, v_at 1126 (w := Cond.instanceMethod yX2_isLawOfAllSaid) (by decide +kernel) (by decide +kernel), v_at 1127 (w := Cond.selects yX2_isLawOfAllSaid.cls yX2_isLawOfAllSaid yX2_isLawOfAllSaid) (by decide +kernel) (by decide +kernel)⟩
set_option maxRecDepth 100000 in
theorem y_X2_result : v_YV yX2_result cX2_result 8 (some .long) 1 := ⟨⟨v_at 706 rfl (by decide +kernel), ini_X2, by decide +kernel⟩, v_at 705 (w := Cond.instanceMethod yX2_result) (by decide +kernel) (by decide +kernel), v_at 25 (w := Cond.selects yX2_result.cls yX2_result yX2_result) (by decide +kernel) (by decide +kernel)⟩
set_option maxRecDepth 100000 in
theorem y_X2_named : v_YV yX2_named cX2_named 4 (some .long) 1 := ⟨⟨v_at 727 rfl (by decide +kernel), ini_X2, by decide +kernel⟩, v_at 726 (w := Cond.instanceMethod yX2_named) (by decide +kernel) (by decide +kernel), v_at 27 (w := Cond.selects yX2_named.cls yX2_named yX2_named) (by decide +kernel) (by decide +kernel)⟩
set_option maxRecDepth 100000 in
theorem y_X2_changed : v_YV yX2_changed cX2_changed 4 (some .long) 2 := ⟨⟨v_at 722 rfl (by decide +kernel), ini_X2, by decide +kernel⟩, v_at 721 (w := Cond.instanceMethod yX2_changed) (by decide +kernel) (by decide +kernel), v_at 26 (w := Cond.selects yX2_changed.cls yX2_changed yX2_changed) (by decide +kernel) (by decide +kernel)⟩
set_option maxRecDepth 100000 in
theorem y_X2_joined : v_YS yX2_joined cX2_joined 5 (some .long) 3 := ⟨⟨v_at 710 rfl (by decide +kernel), ini_X2, by decide +kernel⟩, v_at 709 (w := Cond.static yX2_joined) (by decide +kernel) (by decide +kernel)⟩
set_option maxRecDepth 100000 in
theorem y_X3_init : v_YI yX3_init cX3_init 1 0 := ⟨⟨v_at 305 rfl (by decide +kernel), ini_X3, by decide +kernel⟩, rfl, v_at 304 (w := Cond.instanceMethod yX3_init) (by decide +kernel) (by decide +kernel)⟩
set_option maxRecDepth 100000 in
theorem y_X3_sum : v_YS yX3_sum cX3_sum 5 (some .int) 3 := ⟨⟨v_at 857 rfl (by decide +kernel), ini_X3, by decide +kernel⟩, v_at 856 (w := Cond.static yX3_sum) (by decide +kernel) (by decide +kernel)⟩
set_option maxRecDepth 100000 in
theorem y_X3_water : v_YS yX3_water cX3_water 6 (some .int) 1 := ⟨⟨v_at 889 rfl (by decide +kernel), ini_X3, by decide +kernel⟩, v_at 888 (w := Cond.static yX3_water) (by decide +kernel) (by decide +kernel)⟩
set_option maxRecDepth 100000 in
theorem y_X3_glazed : v_YS yX3_glazed cX3_glazed 9 (some .int) 2 := ⟨⟨v_at 897 rfl (by decide +kernel), ini_X3, by decide +kernel⟩, v_at 896 (w := Cond.static yX3_glazed) (by decide +kernel) (by decide +kernel)⟩
set_option maxRecDepth 100000 in
theorem y_X3_climb : v_YV yX3_climb cX3_climb 6 (some .int) 2 := ⟨⟨v_at 905 rfl (by decide +kernel), ini_X3, by decide +kernel⟩, v_at 903 (w := Cond.instanceMethod yX3_climb) (by decide +kernel) (by decide +kernel), v_at 904 (w := Cond.selects yX3_climb.cls yX3_climb yX3_climb) (by decide +kernel) (by decide +kernel)⟩
set_option maxRecDepth 100000 in
theorem y_X3_climbed : v_YV yX3_climbed cX3_climbed 7 (some .int) 3 := ⟨⟨v_at 909 rfl (by decide +kernel), ini_X3, by decide +kernel⟩, v_at 908 (w := Cond.instanceMethod yX3_climbed) (by decide +kernel) (by decide +kernel), v_at 31 (w := Cond.selects yX3_climbed.cls yX3_climbed yX3_climbed) (by decide +kernel) (by decide +kernel)⟩
set_option maxRecDepth 100000 in
theorem y_X3_falls : v_YS yX3_falls cX3_falls 4 (some .int) 1 := ⟨⟨v_at 916 rfl (by decide +kernel), ini_X3, by decide +kernel⟩, v_at 915 (w := Cond.static yX3_falls) (by decide +kernel) (by decide +kernel)⟩
set_option maxRecDepth 100000 in
theorem y_X3_tops : v_YS yX3_tops cX3_tops 5 (some .int) 1 := ⟨⟨v_at 923 rfl (by decide +kernel), ini_X3, by decide +kernel⟩, v_at 922 (w := Cond.static yX3_tops) (by decide +kernel) (by decide +kernel)⟩
set_option maxRecDepth 100000 in
theorem y_X3_fullest : v_YS yX3_fullest cX3_fullest 6 (some .int) 2 := ⟨⟨v_at 930 rfl (by decide +kernel), ini_X3, by decide +kernel⟩, v_at 929 (w := Cond.static yX3_fullest) (by decide +kernel) (by decide +kernel)⟩
set_option maxRecDepth 100000 in
theorem y_X3_leastCell : v_YS yX3_leastCell cX3_leastCell 3 (some .int) 1 := ⟨⟨v_at 1094 rfl (by decide +kernel), ini_X3, by decide +kernel⟩, v_at 1093 (w := Cond.static yX3_leastCell) (by decide +kernel) (by decide +kernel)⟩
set_option maxRecDepth 100000 in
theorem y_X3_mostCell : v_YS yX3_mostCell cX3_mostCell 3 (some .int) 1 := ⟨⟨v_at 1048 rfl (by decide +kernel), ini_X3, by decide +kernel⟩, v_at 1047 (w := Cond.static yX3_mostCell) (by decide +kernel) (by decide +kernel)⟩
set_option maxRecDepth 100000 in
theorem y_X3_rowsAbove : v_YS yX3_rowsAbove cX3_rowsAbove 4 (some .int) 2 := ⟨⟨v_at 938 rfl (by decide +kernel), ini_X3, by decide +kernel⟩, v_at 937 (w := Cond.static yX3_rowsAbove) (by decide +kernel) (by decide +kernel)⟩
set_option maxRecDepth 100000 in
theorem y_X3_cellsAbove : v_YS yX3_cellsAbove cX3_cellsAbove 4 (some .int) 2 := ⟨⟨v_at 955 rfl (by decide +kernel), ini_X3, by decide +kernel⟩, v_at 954 (w := Cond.static yX3_cellsAbove) (by decide +kernel) (by decide +kernel)⟩
set_option maxRecDepth 100000 in
theorem y_X3_firstHigher : v_YS yX3_firstHigher cX3_firstHigher 5 (some .int) 3 := ⟨⟨v_at 945 rfl (by decide +kernel), ini_X3, by decide +kernel⟩, v_at 944 (w := Cond.static yX3_firstHigher) (by decide +kernel) (by decide +kernel)⟩
set_option maxRecDepth 100000 in
theorem y_X3_leastButOthers : v_YS yX3_leastButOthers cX3_leastButOthers 5 (some .int) 2 := ⟨⟨v_at 952 rfl (by decide +kernel), ini_X3, by decide +kernel⟩, v_at 951 (w := Cond.static yX3_leastButOthers) (by decide +kernel) (by decide +kernel)⟩
set_option maxRecDepth 100000 in
theorem y_X3_way : v_YS yX3_way cX3_way 5 (some .int) 2 := ⟨⟨v_at 962 rfl (by decide +kernel), ini_X3, by decide +kernel⟩, v_at 961 (w := Cond.static yX3_way) (by decide +kernel) (by decide +kernel)⟩
set_option maxRecDepth 100000 in
theorem y_X3_wayToLevel : v_YV yX3_wayToLevel cX3_wayToLevel 4 (some .int) 1 := ⟨⟨v_at 973 rfl (by decide +kernel), ini_X3, by decide +kernel⟩, v_at 971 (w := Cond.instanceMethod yX3_wayToLevel) (by decide +kernel) (by decide +kernel), v_at 972 (w := Cond.selects yX3_wayToLevel.cls yX3_wayToLevel yX3_wayToLevel) (by decide +kernel) (by decide +kernel)⟩
set_option maxRecDepth 100000 in
theorem y_X3_parts : v_YV yX3_parts cX3_parts 7 (some .int) 3 := ⟨⟨v_at 982 rfl (by decide +kernel), ini_X3, by decide +kernel⟩, v_at 980 (w := Cond.instanceMethod yX3_parts) (by decide +kernel) (by decide +kernel), v_at 981 (w := Cond.selects yX3_parts.cls yX3_parts yX3_parts) (by decide +kernel) (by decide +kernel)⟩
set_option maxRecDepth 100000 in
theorem y_X3_fillParts : v_YV yX3_fillParts cX3_fillParts 8 (none) 2 := ⟨⟨v_at 986 rfl (by decide +kernel), ini_X3, by decide +kernel⟩, v_at 985 (w := Cond.instanceMethod yX3_fillParts) (by decide +kernel) (by decide +kernel), v_at 32 (w := Cond.selects yX3_fillParts.cls yX3_fillParts yX3_fillParts) (by decide +kernel) (by decide +kernel)⟩
set_option maxRecDepth 100000 in
theorem y_X3_nextPart : v_YV yX3_nextPart cX3_nextPart 7 (some .int) 4 := ⟨⟨v_at 990 rfl (by decide +kernel), ini_X3, by decide +kernel⟩, v_at 989 (w := Cond.instanceMethod yX3_nextPart) (by decide +kernel) (by decide +kernel), v_at 33 (w := Cond.selects yX3_nextPart.cls yX3_nextPart yX3_nextPart) (by decide +kernel) (by decide +kernel)⟩
set_option maxRecDepth 100000 in
theorem y_X3_lead : v_YV yX3_lead cX3_lead 6 (some .int) 3 := ⟨⟨v_at 1001 rfl (by decide +kernel), ini_X3, by decide +kernel⟩, v_at 999 (w := Cond.instanceMethod yX3_lead) (by decide +kernel) (by decide +kernel), v_at 1000 (w := Cond.selects yX3_lead.cls yX3_lead yX3_lead) (by decide +kernel) (by decide +kernel)⟩
set_option maxRecDepth 100000 in
theorem y_X3_firstTaken : v_YV yX3_firstTaken cX3_firstTaken 6 (some .int) 3 := ⟨⟨v_at 1009 rfl (by decide +kernel), ini_X3, by decide +kernel⟩, v_at 1007 (w := Cond.instanceMethod yX3_firstTaken) (by decide +kernel) (by decide +kernel), v_at 1008 (w := Cond.selects yX3_firstTaken.cls yX3_firstTaken yX3_firstTaken) (by decide +kernel) (by decide +kernel)⟩
set_option maxRecDepth 100000 in
theorem y_X3_covers : v_YV yX3_covers cX3_covers 10 (some .int) 4 := ⟨⟨v_at 1018 rfl (by decide +kernel), ini_X3, by decide +kernel⟩, v_at 1016 (w := Cond.instanceMethod yX3_covers) (by decide +kernel) (by decide +kernel), v_at 1017 (w := Cond.selects yX3_covers.cls yX3_covers yX3_covers) (by decide +kernel) (by decide +kernel)⟩
set_option maxRecDepth 100000 in
theorem y_X3_commonPart : v_YS yX3_commonPart cX3_commonPart 3 (some .int) 2 := ⟨⟨v_at 1087 rfl (by decide +kernel), ini_X3, by decide +kernel⟩, v_at 1086 (w := Cond.static yX3_commonPart) (by decide +kernel) (by decide +kernel)⟩
set_option maxRecDepth 100000 in
theorem y_X4_init : v_YI yX4_init cX4_init 1 0 := ⟨⟨v_at 134 rfl (by decide +kernel), ini_X4, by decide +kernel⟩, rfl, v_at 133 (w := Cond.instanceMethod yX4_init) (by decide +kernel) (by decide +kernel)⟩
set_option maxRecDepth 100000 in
theorem y_X4_becomes : v_YV yX4_becomes cX4_becomes 2 (none) 1 := ⟨⟨v_at 683 rfl (by decide +kernel), ini_X4, by decide +kernel⟩, v_at 681 (w := Cond.instanceMethod yX4_becomes) (by decide +kernel) (by decide +kernel), v_at 682 (w := Cond.selects yX4_becomes.cls yX4_becomes yX4_becomes) (by decide +kernel) (by decide +kernel)⟩
set_option maxRecDepth 100000 in
theorem y_X4_laysAs : v_YV yX4_laysAs cX4_laysAs 2 (none) 1 := ⟨⟨v_at 687 rfl (by decide +kernel), ini_X4, by decide +kernel⟩, v_at 685 (w := Cond.instanceMethod yX4_laysAs) (by decide +kernel) (by decide +kernel), v_at 686 (w := Cond.selects yX4_laysAs.cls yX4_laysAs yX4_laysAs) (by decide +kernel) (by decide +kernel)⟩
set_option maxRecDepth 100000 in
theorem y_X4_laysLike : v_YV yX4_laysLike cX4_laysLike 2 (some .boolean) 1 := ⟨⟨v_at 1060 rfl (by decide +kernel), ini_X4, by decide +kernel⟩, v_at 1058 (w := Cond.instanceMethod yX4_laysLike) (by decide +kernel) (by decide +kernel), v_at 1059 (w := Cond.selects yX4_laysLike.cls yX4_laysLike yX4_laysLike) (by decide +kernel) (by decide +kernel)⟩
set_option maxRecDepth 100000 in
theorem y_X4_unlike : v_YV yX4_unlike cX4_unlike 4 (some .int) 1 := ⟨⟨v_at 1064 rfl (by decide +kernel), ini_X4, by decide +kernel⟩, v_at 1062 (w := Cond.instanceMethod yX4_unlike) (by decide +kernel) (by decide +kernel), v_at 1063 (w := Cond.selects yX4_unlike.cls yX4_unlike yX4_unlike) (by decide +kernel) (by decide +kernel)⟩
set_option maxRecDepth 100000 in
theorem y_X4_drawn : v_YV yX4_drawn cX4_drawn 2 (some .int) 0 := ⟨⟨v_at 782 rfl (by decide +kernel), ini_X4, by decide +kernel⟩, v_at 780 (w := Cond.instanceMethod yX4_drawn) (by decide +kernel) (by decide +kernel), v_at 781 (w := Cond.selects yX4_drawn.cls yX4_drawn yX4_drawn) (by decide +kernel) (by decide +kernel)⟩
set_option maxRecDepth 100000 in
theorem y_X4_cutOff : v_YV yX4_cutOff cX4_cutOff 1 (none) 0 := ⟨⟨v_at 754 rfl (by decide +kernel), ini_X4, by decide +kernel⟩, v_at 752 (w := Cond.instanceMethod yX4_cutOff) (by decide +kernel) (by decide +kernel), v_at 753 (w := Cond.selects yX4_cutOff.cls yX4_cutOff yX4_cutOff) (by decide +kernel) (by decide +kernel)⟩
set_option maxRecDepth 100000 in
theorem y_X4_canMend : v_YV yX4_canMend cX4_canMend 3 (some .boolean) 2 := ⟨⟨v_at 762 rfl (by decide +kernel), ini_X4, by decide +kernel⟩, v_at 760 (w := Cond.instanceMethod yX4_canMend) (by decide +kernel) (by decide +kernel), v_at 761 (w := Cond.selects yX4_canMend.cls yX4_canMend yX4_canMend) (by decide +kernel) (by decide +kernel)⟩
set_option maxRecDepth 100000 in
theorem y_X4_mend : v_YV yX4_mend cX4_mend 3 (none) 2 := ⟨⟨v_at 766 rfl (by decide +kernel), ini_X4, by decide +kernel⟩, v_at 764 (w := Cond.instanceMethod yX4_mend) (by decide +kernel) (by decide +kernel), v_at 765 (w := Cond.selects yX4_mend.cls yX4_mend yX4_mend) (by decide +kernel) (by decide +kernel)⟩
set_option maxRecDepth 100000 in
theorem y_X4_carryTowns : v_YV yX4_carryTowns cX4_carryTowns 4 (none) 2 := ⟨⟨v_at 731 rfl (by decide +kernel), ini_X4, by decide +kernel⟩, v_at 729 (w := Cond.instanceMethod yX4_carryTowns) (by decide +kernel) (by decide +kernel), v_at 730 (w := Cond.selects yX4_carryTowns.cls yX4_carryTowns yX4_carryTowns) (by decide +kernel) (by decide +kernel)⟩
set_option maxRecDepth 100000 in
theorem y_X4_townsIn : v_YV yX4_townsIn cX4_townsIn 4 (some .int) 1 := ⟨⟨v_at 831 rfl (by decide +kernel), ini_X4, by decide +kernel⟩, v_at 829 (w := Cond.instanceMethod yX4_townsIn) (by decide +kernel) (by decide +kernel), v_at 830 (w := Cond.selects yX4_townsIn.cls yX4_townsIn yX4_townsIn) (by decide +kernel) (by decide +kernel)⟩
set_option maxRecDepth 100000 in
theorem y_X4_nearestTowns : v_YV yX4_nearestTowns cX4_nearestTowns 5 (some .int) 0 := ⟨⟨v_at 1107 rfl (by decide +kernel), ini_X4, by decide +kernel⟩, v_at 1105 (w := Cond.instanceMethod yX4_nearestTowns) (by decide +kernel) (by decide +kernel), v_at 1106 (w := Cond.selects yX4_nearestTowns.cls yX4_nearestTowns yX4_nearestTowns) (by decide +kernel) (by decide +kernel)⟩
set_option maxRecDepth 100000 in
theorem y_X4_write : v_YV yX4_write cX4_write 6 (none) 3 := ⟨⟨v_at 744 rfl (by decide +kernel), ini_X4, by decide +kernel⟩, v_at 742 (w := Cond.instanceMethod yX4_write) (by decide +kernel) (by decide +kernel), v_at 743 (w := Cond.selects yX4_write.cls yX4_write yX4_write) (by decide +kernel) (by decide +kernel)⟩
set_option maxRecDepth 100000 in
theorem y_X4_bookSize : v_YV yX4_bookSize cX4_bookSize 1 (some .int) 0 := ⟨⟨v_at 866 rfl (by decide +kernel), ini_X4, by decide +kernel⟩, v_at 864 (w := Cond.instanceMethod yX4_bookSize) (by decide +kernel) (by decide +kernel), v_at 865 (w := Cond.selects yX4_bookSize.cls yX4_bookSize yX4_bookSize) (by decide +kernel) (by decide +kernel)⟩
set_option maxRecDepth 100000 in
theorem y_X4_bookPart : v_YV yX4_bookPart cX4_bookPart 6 (some .int) 2 := ⟨⟨v_at 871 rfl (by decide +kernel), ini_X4, by decide +kernel⟩, v_at 869 (w := Cond.instanceMethod yX4_bookPart) (by decide +kernel) (by decide +kernel), v_at 870 (w := Cond.selects yX4_bookPart.cls yX4_bookPart yX4_bookPart) (by decide +kernel) (by decide +kernel)⟩
set_option maxRecDepth 100000 in
theorem y_X4_movedBy : v_YV yX4_movedBy cX4_movedBy 4 (some .int) 1 := ⟨⟨v_at 1136 rfl (by decide +kernel), ini_X4, by decide +kernel⟩, v_at 1134 (w := Cond.instanceMethod yX4_movedBy) (by decide +kernel) (by decide +kernel), v_at 1135 (w := Cond.selects yX4_movedBy.cls yX4_movedBy yX4_movedBy) (by decide +kernel) (by decide +kernel)⟩
set_option maxRecDepth 100000 in
theorem y_X5_init : v_YI yX5_init cX5_init 1 0 := ⟨⟨v_at 318 rfl (by decide +kernel), ini_X5, by decide +kernel⟩, rfl, v_at 317 (w := Cond.instanceMethod yX5_init) (by decide +kernel) (by decide +kernel)⟩
set_option maxRecDepth 100000 in
theorem y_X5_hasRoomFor : v_YV yX5_hasRoomFor cX5_hasRoomFor 2 (some .boolean) 1 := ⟨⟨v_at 445 rfl (by decide +kernel), ini_X5, by decide +kernel⟩, v_at 443 (w := Cond.instanceMethod yX5_hasRoomFor) (by decide +kernel) (by decide +kernel), v_at 444 (w := Cond.selects yX5_hasRoomFor.cls yX5_hasRoomFor yX5_hasRoomFor) (by decide +kernel) (by decide +kernel)⟩
set_option maxRecDepth 100000 in
theorem y_X5_takeFour : v_YV yX5_takeFour cX5_takeFour 3 (none) 1 := ⟨⟨v_at 449 rfl (by decide +kernel), ini_X5, by decide +kernel⟩, v_at 447 (w := Cond.instanceMethod yX5_takeFour) (by decide +kernel) (by decide +kernel), v_at 448 (w := Cond.selects yX5_takeFour.cls yX5_takeFour yX5_takeFour) (by decide +kernel) (by decide +kernel)⟩
set_option maxRecDepth 100000 in
theorem y_X5_findTokens : v_YV yX5_findTokens cX5_findTokens 2 (none) 0 := ⟨⟨v_at 465 rfl (by decide +kernel), ini_X5, by decide +kernel⟩, v_at 463 (w := Cond.instanceMethod yX5_findTokens) (by decide +kernel) (by decide +kernel), v_at 464 (w := Cond.selects yX5_findTokens.cls yX5_findTokens yX5_findTokens) (by decide +kernel) (by decide +kernel)⟩
set_option maxRecDepth 100000 in
theorem y_X5_add : v_YV yX5_add cX5_add 4 (none) 3 := ⟨⟨v_at 533 rfl (by decide +kernel), ini_X5, by decide +kernel⟩, v_at 532 (w := Cond.instanceMethod yX5_add) (by decide +kernel) (by decide +kernel), v_at 3 (w := Cond.selects yX5_add.cls yX5_add yX5_add) (by decide +kernel) (by decide +kernel)⟩
set_option maxRecDepth 100000 in
theorem y_X5_takeToken : v_YV yX5_takeToken cX5_takeToken 3 (some .int) 1 := ⟨⟨v_at 469 rfl (by decide +kernel), ini_X5, by decide +kernel⟩, v_at 468 (w := Cond.instanceMethod yX5_takeToken) (by decide +kernel) (by decide +kernel), v_at 0 (w := Cond.selects yX5_takeToken.cls yX5_takeToken yX5_takeToken) (by decide +kernel) (by decide +kernel)⟩
set_option maxRecDepth 100000 in
theorem y_X5_isLetter : v_YS yX5_isLetter cX5_isLetter 1 (some .boolean) 1 := ⟨⟨v_at 472 rfl (by decide +kernel), ini_X5, by decide +kernel⟩, v_at 471 (w := Cond.static yX5_isLetter) (by decide +kernel) (by decide +kernel)⟩
set_option maxRecDepth 100000 in
theorem y_X5_isDigit : v_YS yX5_isDigit cX5_isDigit 1 (some .boolean) 1 := ⟨⟨v_at 536 rfl (by decide +kernel), ini_X5, by decide +kernel⟩, v_at 535 (w := Cond.static yX5_isDigit) (by decide +kernel) (by decide +kernel)⟩
set_option maxRecDepth 100000 in
theorem y_X5_takeWord : v_YV yX5_takeWord cX5_takeWord 3 (some .int) 1 := ⟨⟨v_at 476 rfl (by decide +kernel), ini_X5, by decide +kernel⟩, v_at 475 (w := Cond.instanceMethod yX5_takeWord) (by decide +kernel) (by decide +kernel), v_at 1 (w := Cond.selects yX5_takeWord.cls yX5_takeWord yX5_takeWord) (by decide +kernel) (by decide +kernel)⟩
set_option maxRecDepth 100000 in
theorem y_X5_wordOf : v_YV yX5_wordOf cX5_wordOf 7 (some .int) 2 := ⟨⟨v_at 480 rfl (by decide +kernel), ini_X5, by decide +kernel⟩, v_at 479 (w := Cond.instanceMethod yX5_wordOf) (by decide +kernel) (by decide +kernel), v_at 2 (w := Cond.selects yX5_wordOf.cls yX5_wordOf yX5_wordOf) (by decide +kernel) (by decide +kernel)⟩
set_option maxRecDepth 100000 in
theorem y_X5_takeNumber : v_YV yX5_takeNumber cX5_takeNumber 4 (some .int) 1 := ⟨⟨v_at 540 rfl (by decide +kernel), ini_X5, by decide +kernel⟩, v_at 539 (w := Cond.instanceMethod yX5_takeNumber) (by decide +kernel) (by decide +kernel), v_at 4 (w := Cond.selects yX5_takeNumber.cls yX5_takeNumber yX5_takeNumber) (by decide +kernel) (by decide +kernel)⟩
set_option maxRecDepth 100000 in
theorem y_X5_signOf : v_YS yX5_signOf cX5_signOf 1 (some .int) 1 := ⟨⟨v_at 546 rfl (by decide +kernel), ini_X5, by decide +kernel⟩, v_at 545 (w := Cond.static yX5_signOf) (by decide +kernel) (by decide +kernel)⟩
set_option maxRecDepth 100000 in
theorem y_X6_init : v_YI yX6_init cX6_init 4 3 := ⟨⟨v_at 640 rfl (by decide +kernel), ini_X6, by decide +kernel⟩, rfl, v_at 639 (w := Cond.instanceMethod yX6_init) (by decide +kernel) (by decide +kernel)⟩
set_option maxRecDepth 100000 in
theorem y_X7_init : v_YI yX7_init cX7_init 5 3 := ⟨⟨v_at 270 rfl (by decide +kernel), ini_X7, by decide +kernel⟩, rfl, v_at 269 (w := Cond.instanceMethod yX7_init) (by decide +kernel) (by decide +kernel)⟩
set_option maxRecDepth 100000 in
theorem y_X7_behind : v_YV yX7_behind cX7_behind 4 (some (.object "RolledOut$Sheet")) 1 := ⟨⟨v_at 880 rfl (by decide +kernel), ini_X7, by decide +kernel⟩, v_at 878 (w := Cond.instanceMethod yX7_behind) (by decide +kernel) (by decide +kernel), v_at 879 (w := Cond.selects yX7_behind.cls yX7_behind yX7_behind) (by decide +kernel) (by decide +kernel)⟩
set_option maxRecDepth 100000 in
theorem y_X7_tried : v_YV yX7_tried cX7_tried 5 (some .boolean) 3 := ⟨⟨v_at 1036 rfl (by decide +kernel), ini_X7, by decide +kernel⟩, v_at 1035 (w := Cond.instanceMethod yX7_tried) (by decide +kernel) (by decide +kernel), v_at 35 (w := Cond.selects yX7_tried.cls yX7_tried yX7_tried) (by decide +kernel) (by decide +kernel)⟩
set_option maxRecDepth 100000 in
theorem y_X7_flattest : v_YV yX7_flattest cX7_flattest 7 (some .int) 1 := ⟨⟨v_at 1045 rfl (by decide +kernel), ini_X7, by decide +kernel⟩, v_at 1043 (w := Cond.instanceMethod yX7_flattest) (by decide +kernel) (by decide +kernel), v_at 1044 (w := Cond.selects yX7_flattest.cls yX7_flattest yX7_flattest) (by decide +kernel) (by decide +kernel)⟩
set_option maxRecDepth 100000 in
theorem y_X7_tearingStrokes : v_YV yX7_tearingStrokes cX7_tearingStrokes 4 (some .int) 1 := ⟨⟨v_at 1084 rfl (by decide +kernel), ini_X7, by decide +kernel⟩, v_at 1082 (w := Cond.instanceMethod yX7_tearingStrokes) (by decide +kernel) (by decide +kernel), v_at 1083 (w := Cond.selects yX7_tearingStrokes.cls yX7_tearingStrokes yX7_tearingStrokes) (by decide +kernel) (by decide +kernel)⟩
set_option maxRecDepth 100000 in
theorem y_X7_fewest : v_YV yX7_fewest cX7_fewest 4 (some .int) 2 := ⟨⟨v_at 1026 rfl (by decide +kernel), ini_X7, by decide +kernel⟩, v_at 1024 (w := Cond.instanceMethod yX7_fewest) (by decide +kernel) (by decide +kernel), v_at 1025 (w := Cond.selects yX7_fewest.cls yX7_fewest yX7_fewest) (by decide +kernel) (by decide +kernel)⟩
set_option maxRecDepth 100000 in
theorem y_X7_isPlan : v_YV yX7_isPlan cX7_isPlan 9 (some .boolean) 4 := ⟨⟨v_at 1031 rfl (by decide +kernel), ini_X7, by decide +kernel⟩, v_at 1030 (w := Cond.instanceMethod yX7_isPlan) (by decide +kernel) (by decide +kernel), v_at 34 (w := Cond.selects yX7_isPlan.cls yX7_isPlan yX7_isPlan) (by decide +kernel) (by decide +kernel)⟩
set_option maxRecDepth 100000 in
theorem y_X7_seekWays : v_YV yX7_seekWays cX7_seekWays 3 (none) 1 := ⟨⟨v_at 1056 rfl (by decide +kernel), ini_X7, by decide +kernel⟩, v_at 1054 (w := Cond.instanceMethod yX7_seekWays) (by decide +kernel) (by decide +kernel), v_at 1055 (w := Cond.selects yX7_seekWays.cls yX7_seekWays yX7_seekWays) (by decide +kernel) (by decide +kernel)⟩
set_option maxRecDepth 100000 in
theorem y_X7_seekSecond : v_YV yX7_seekSecond cX7_seekSecond 5 (none) 2 := ⟨⟨v_at 1068 rfl (by decide +kernel), ini_X7, by decide +kernel⟩, v_at 1067 (w := Cond.instanceMethod yX7_seekSecond) (by decide +kernel) (by decide +kernel), v_at 36 (w := Cond.selects yX7_seekSecond.cls yX7_seekSecond yX7_seekSecond) (by decide +kernel) (by decide +kernel)⟩
set_option maxRecDepth 100000 in
theorem y_X7_touched : v_YS yX7_touched cX7_touched 3 (some .int) 1 := ⟨⟨v_at 1072 rfl (by decide +kernel), ini_X7, by decide +kernel⟩, v_at 1071 (w := Cond.static yX7_touched) (by decide +kernel) (by decide +kernel)⟩
set_option maxRecDepth 100000 in
theorem y_X7_lowestFirst : v_YV yX7_lowestFirst cX7_lowestFirst 1 (some .int) 0 := ⟨⟨v_at 1076 rfl (by decide +kernel), ini_X7, by decide +kernel⟩, v_at 1074 (w := Cond.instanceMethod yX7_lowestFirst) (by decide +kernel) (by decide +kernel), v_at 1075 (w := Cond.selects yX7_lowestFirst.cls yX7_lowestFirst yX7_lowestFirst) (by decide +kernel) (by decide +kernel)⟩
set_option maxRecDepth 100000 in
theorem y_X8_init : v_YI yX8_init cX8_init 2 0 := ⟨⟨v_at 128 rfl (by decide +kernel), ini_X8, by decide +kernel⟩, rfl, v_at 127 (w := Cond.instanceMethod yX8_init) (by decide +kernel) (by decide +kernel)⟩
set_option maxRecDepth 100000 in
theorem y_X8_becomes : v_YV yX8_becomes cX8_becomes 3 (none) 1 := ⟨⟨v_at 1145 rfl (by decide +kernel), ini_X8, by decide +kernel⟩, v_at 1143 (w := Cond.instanceMethod yX8_becomes) (by decide +kernel) (by decide +kernel), v_at 1144 (w := Cond.selects yX8_becomes.cls yX8_becomes yX8_becomes) (by decide +kernel) (by decide +kernel)⟩
set_option maxRecDepth 100000 in
theorem y_X8_keepStep : v_YV yX8_keepStep cX8_keepStep 1 (none) 0 := ⟨⟨v_at 679 rfl (by decide +kernel), ini_X8, by decide +kernel⟩, v_at 677 (w := Cond.instanceMethod yX8_keepStep) (by decide +kernel) (by decide +kernel), v_at 678 (w := Cond.selects yX8_keepStep.cls yX8_keepStep yX8_keepStep) (by decide +kernel) (by decide +kernel)⟩
set_option maxRecDepth 100000 in
theorem y_X8_takeBack : v_YV yX8_takeBack cX8_takeBack 1 (some .int) 0 := ⟨⟨v_at 823 rfl (by decide +kernel), ini_X8, by decide +kernel⟩, v_at 821 (w := Cond.instanceMethod yX8_takeBack) (by decide +kernel) (by decide +kernel), v_at 822 (w := Cond.selects yX8_takeBack.cls yX8_takeBack yX8_takeBack) (by decide +kernel) (by decide +kernel)⟩
set_option maxRecDepth 100000 in
theorem y_X8_tellDough : v_YV yX8_tellDough cX8_tellDough 4 (none) 2 := ⟨⟨v_at 429 rfl (by decide +kernel), ini_X8, by decide +kernel⟩, v_at 427 (w := Cond.instanceMethod yX8_tellDough) (by decide +kernel) (by decide +kernel), v_at 428 (w := Cond.selects yX8_tellDough.cls yX8_tellDough yX8_tellDough) (by decide +kernel) (by decide +kernel)⟩
set_option maxRecDepth 100000 in
theorem y_X8_tellTown : v_YV yX8_tellTown cX8_tellTown 3 (none) 1 := ⟨⟨v_at 437 rfl (by decide +kernel), ini_X8, by decide +kernel⟩, v_at 435 (w := Cond.instanceMethod yX8_tellTown) (by decide +kernel) (by decide +kernel), v_at 436 (w := Cond.selects yX8_tellTown.cls yX8_tellTown yX8_tellTown) (by decide +kernel) (by decide +kernel)⟩
set_option maxRecDepth 100000 in
theorem y_X8_tellSaid : v_YV yX8_tellSaid cX8_tellSaid 5 (none) 3 := ⟨⟨v_at 1120 rfl (by decide +kernel), ini_X8, by decide +kernel⟩, v_at 1118 (w := Cond.instanceMethod yX8_tellSaid) (by decide +kernel) (by decide +kernel), v_at 1119 (w := Cond.selects yX8_tellSaid.cls yX8_tellSaid yX8_tellSaid) (by decide +kernel) (by decide +kernel)⟩
set_option maxRecDepth 100000 in
theorem y_X8_movesOf : v_YV yX8_movesOf cX8_movesOf 3 (some (.array .int)) 1 := ⟨⟨v_at 697 rfl (by decide +kernel), ini_X8, by decide +kernel⟩, v_at 695 (w := Cond.instanceMethod yX8_movesOf) (by decide +kernel) (by decide +kernel), v_at 696 (w := Cond.selects yX8_movesOf.cls yX8_movesOf yX8_movesOf) (by decide +kernel) (by decide +kernel)⟩
set_option maxRecDepth 100000 in
theorem y_X8_tearsOf : v_YV yX8_tearsOf cX8_tearsOf 3 (some (.array .int)) 1 := ⟨⟨v_at 739 rfl (by decide +kernel), ini_X8, by decide +kernel⟩, v_at 737 (w := Cond.instanceMethod yX8_tearsOf) (by decide +kernel) (by decide +kernel), v_at 738 (w := Cond.selects yX8_tearsOf.cls yX8_tearsOf yX8_tearsOf) (by decide +kernel) (by decide +kernel)⟩
set_option maxRecDepth 100000 in
theorem y_X9_init : v_YI yX9_init cX9_init 1 0 := ⟨⟨v_at 120 rfl (by decide +kernel), ini_X9, by decide +kernel⟩, rfl, v_at 119 (w := Cond.instanceMethod yX9_init) (by decide +kernel) (by decide +kernel)⟩
set_option maxRecDepth 100000 in
theorem y_X9_hand : v_YV yX9_hand cX9_hand 2 (some .int) 1 := ⟨⟨v_at 418 rfl (by decide +kernel), ini_X9, by decide +kernel⟩, v_at 416 (w := Cond.instanceMethod yX9_hand) (by decide +kernel) (by decide +kernel), v_at 417 (w := Cond.selects yX9_hand.cls yX9_hand yX9_hand) (by decide +kernel) (by decide +kernel)⟩
set_option maxRecDepth 100000 in
theorem y_X9_dough : v_YV yX9_dough cX9_dough 3 (some .boolean) 2 := ⟨⟨v_at 422 rfl (by decide +kernel), ini_X9, by decide +kernel⟩, v_at 420 (w := Cond.instanceMethod yX9_dough) (by decide +kernel) (by decide +kernel), v_at 421 (w := Cond.selects yX9_dough.cls yX9_dough yX9_dough) (by decide +kernel) (by decide +kernel)⟩
set_option maxRecDepth 100000 in
theorem y_X9_town : v_YV yX9_town cX9_town 2 (some .int) 1 := ⟨⟨v_at 433 rfl (by decide +kernel), ini_X9, by decide +kernel⟩, v_at 431 (w := Cond.instanceMethod yX9_town) (by decide +kernel) (by decide +kernel), v_at 432 (w := Cond.selects yX9_town.cls yX9_town yX9_town) (by decide +kernel) (by decide +kernel)⟩
set_option maxRecDepth 100000 in
theorem y_X9_feed : v_YV yX9_feed cX9_feed 6 (some .int) 5 := ⟨⟨v_at 441 rfl (by decide +kernel), ini_X9, by decide +kernel⟩, v_at 439 (w := Cond.instanceMethod yX9_feed) (by decide +kernel) (by decide +kernel), v_at 440 (w := Cond.selects yX9_feed.cls yX9_feed yX9_feed) (by decide +kernel) (by decide +kernel)⟩
set_option maxRecDepth 100000 in
theorem y_X9_end : v_YV yX9_end cX9_end 2 (some .int) 1 := ⟨⟨v_at 453 rfl (by decide +kernel), ini_X9, by decide +kernel⟩, v_at 451 (w := Cond.instanceMethod yX9_end) (by decide +kernel) (by decide +kernel), v_at 452 (w := Cond.selects yX9_end.cls yX9_end yX9_end) (by decide +kernel) (by decide +kernel)⟩
set_option maxRecDepth 100000 in
theorem y_X9_text : v_YV yX9_text cX9_text 2 (some .int) 0 := ⟨⟨v_at 457 rfl (by decide +kernel), ini_X9, by decide +kernel⟩, v_at 455 (w := Cond.instanceMethod yX9_text) (by decide +kernel) (by decide +kernel), v_at 456 (w := Cond.selects yX9_text.cls yX9_text yX9_text) (by decide +kernel) (by decide +kernel)⟩
set_option maxRecDepth 100000 in
theorem y_X9_fault : v_YV yX9_fault cX9_fault 2 (some .int) 1 := ⟨⟨v_at 659 rfl (by decide +kernel), ini_X9, by decide +kernel⟩, v_at 657 (w := Cond.instanceMethod yX9_fault) (by decide +kernel) (by decide +kernel), v_at 658 (w := Cond.selects yX9_fault.cls yX9_fault yX9_fault) (by decide +kernel) (by decide +kernel)⟩
set_option maxRecDepth 100000 in
theorem y_X9_by : v_YV yX9_by cX9_by 2 (some .boolean) 1 := ⟨⟨v_at 663 rfl (by decide +kernel), ini_X9, by decide +kernel⟩, v_at 661 (w := Cond.instanceMethod yX9_by) (by decide +kernel) (by decide +kernel), v_at 662 (w := Cond.selects yX9_by.cls yX9_by yX9_by) (by decide +kernel) (by decide +kernel)⟩
set_option maxRecDepth 100000 in
theorem y_X9_stroke : v_YV yX9_stroke cX9_stroke 4 (some .int) 3 := ⟨⟨v_at 671 rfl (by decide +kernel), ini_X9, by decide +kernel⟩, v_at 669 (w := Cond.instanceMethod yX9_stroke) (by decide +kernel) (by decide +kernel), v_at 670 (w := Cond.selects yX9_stroke.cls yX9_stroke yX9_stroke) (by decide +kernel) (by decide +kernel)⟩
set_option maxRecDepth 100000 in
theorem y_X9_trim : v_YV yX9_trim cX9_trim 2 (some .int) 0 := ⟨⟨v_at 750 rfl (by decide +kernel), ini_X9, by decide +kernel⟩, v_at 748 (w := Cond.instanceMethod yX9_trim) (by decide +kernel) (by decide +kernel), v_at 749 (w := Cond.selects yX9_trim.cls yX9_trim yX9_trim) (by decide +kernel) (by decide +kernel)⟩
set_option maxRecDepth 100000 in
theorem y_X9_patch : v_YV yX9_patch cX9_patch 3 (some .boolean) 2 := ⟨⟨v_at 758 rfl (by decide +kernel), ini_X9, by decide +kernel⟩, v_at 756 (w := Cond.instanceMethod yX9_patch) (by decide +kernel) (by decide +kernel), v_at 757 (w := Cond.selects yX9_patch.cls yX9_patch yX9_patch) (by decide +kernel) (by decide +kernel)⟩
set_option maxRecDepth 100000 in
theorem y_X9_roll : v_YV yX9_roll cX9_roll 3 (some .int) 1 := ⟨⟨v_at 770 rfl (by decide +kernel), ini_X9, by decide +kernel⟩, v_at 768 (w := Cond.instanceMethod yX9_roll) (by decide +kernel) (by decide +kernel), v_at 769 (w := Cond.selects yX9_roll.cls yX9_roll yX9_roll) (by decide +kernel) (by decide +kernel)⟩
set_option maxRecDepth 100000 in
theorem y_X9_played : v_YV yX9_played cX9_played 4 (some .int) 1 := ⟨⟨v_at 793 rfl (by decide +kernel), ini_X9, by decide +kernel⟩, v_at 791 (w := Cond.instanceMethod yX9_played) (by decide +kernel) (by decide +kernel), v_at 792 (w := Cond.selects yX9_played.cls yX9_played yX9_played) (by decide +kernel) (by decide +kernel)⟩
set_option maxRecDepth 100000 in
theorem y_X9_years : v_YV yX9_years cX9_years 4 (some .int) 2 := ⟨⟨v_at 807 rfl (by decide +kernel), ini_X9, by decide +kernel⟩, v_at 805 (w := Cond.instanceMethod yX9_years) (by decide +kernel) (by decide +kernel), v_at 806 (w := Cond.selects yX9_years.cls yX9_years yX9_years) (by decide +kernel) (by decide +kernel)⟩
set_option maxRecDepth 100000 in
theorem y_X9_undo : v_YV yX9_undo cX9_undo 1 (some .int) 0 := ⟨⟨v_at 819 rfl (by decide +kernel), ini_X9, by decide +kernel⟩, v_at 817 (w := Cond.instanceMethod yX9_undo) (by decide +kernel) (by decide +kernel), v_at 818 (w := Cond.selects yX9_undo.cls yX9_undo yX9_undo) (by decide +kernel) (by decide +kernel)⟩
set_option maxRecDepth 100000 in
theorem y_X9_of : v_YV yX9_of cX9_of 3 (some .int) 2 := ⟨⟨v_at 827 rfl (by decide +kernel), ini_X9, by decide +kernel⟩, v_at 825 (w := Cond.instanceMethod yX9_of) (by decide +kernel) (by decide +kernel), v_at 826 (w := Cond.selects yX9_of.cls yX9_of yX9_of) (by decide +kernel) (by decide +kernel)⟩
set_option maxRecDepth 100000 in
theorem y_X9_ofTown : v_YV yX9_ofTown cX9_ofTown 2 (some .int) 1 := ⟨⟨v_at 836 rfl (by decide +kernel), ini_X9, by decide +kernel⟩, v_at 834 (w := Cond.instanceMethod yX9_ofTown) (by decide +kernel) (by decide +kernel), v_at 835 (w := Cond.selects yX9_ofTown.cls yX9_ofTown yX9_ofTown) (by decide +kernel) (by decide +kernel)⟩
set_option maxRecDepth 100000 in
theorem y_X9_ofHand : v_YV yX9_ofHand cX9_ofHand 2 (some .int) 1 := ⟨⟨v_at 844 rfl (by decide +kernel), ini_X9, by decide +kernel⟩, v_at 842 (w := Cond.instanceMethod yX9_ofHand) (by decide +kernel) (by decide +kernel), v_at 843 (w := Cond.selects yX9_ofHand.cls yX9_ofHand yX9_ofHand) (by decide +kernel) (by decide +kernel)⟩
set_option maxRecDepth 100000 in
theorem y_X9_moves : v_YV yX9_moves cX9_moves 4 (some .int) 3 := ⟨⟨v_at 848 rfl (by decide +kernel), ini_X9, by decide +kernel⟩, v_at 846 (w := Cond.instanceMethod yX9_moves) (by decide +kernel) (by decide +kernel), v_at 847 (w := Cond.selects yX9_moves.cls yX9_moves yX9_moves) (by decide +kernel) (by decide +kernel)⟩
set_option maxRecDepth 100000 in
theorem y_X9_is : v_YV yX9_is cX9_is 2 (some .int) 1 := ⟨⟨v_at 854 rfl (by decide +kernel), ini_X9, by decide +kernel⟩, v_at 852 (w := Cond.instanceMethod yX9_is) (by decide +kernel) (by decide +kernel), v_at 853 (w := Cond.selects yX9_is.cls yX9_is yX9_is) (by decide +kernel) (by decide +kernel)⟩
set_option maxRecDepth 100000 in
theorem y_X9_book : v_YV yX9_book cX9_book 4 (some .int) 2 := ⟨⟨v_at 862 rfl (by decide +kernel), ini_X9, by decide +kernel⟩, v_at 860 (w := Cond.instanceMethod yX9_book) (by decide +kernel) (by decide +kernel), v_at 861 (w := Cond.selects yX9_book.cls yX9_book yX9_book) (by decide +kernel) (by decide +kernel)⟩
set_option maxRecDepth 100000 in
theorem y_X9_foretold : v_YV yX9_foretold cX9_foretold 6 (some .int) 3 := ⟨⟨v_at 876 rfl (by decide +kernel), ini_X9, by decide +kernel⟩, v_at 874 (w := Cond.instanceMethod yX9_foretold) (by decide +kernel) (by decide +kernel), v_at 875 (w := Cond.selects yX9_foretold.cls yX9_foretold yX9_foretold) (by decide +kernel) (by decide +kernel)⟩
set_option maxRecDepth 100000 in
theorem y_X9_lake : v_YV yX9_lake cX9_lake 1 (some .int) 0 := ⟨⟨v_at 886 rfl (by decide +kernel), ini_X9, by decide +kernel⟩, v_at 884 (w := Cond.instanceMethod yX9_lake) (by decide +kernel) (by decide +kernel), v_at 885 (w := Cond.selects yX9_lake.cls yX9_lake yX9_lake) (by decide +kernel) (by decide +kernel)⟩
set_option maxRecDepth 100000 in
theorem y_X9_glaze : v_YV yX9_glaze cX9_glaze 2 (some .int) 1 := ⟨⟨v_at 894 rfl (by decide +kernel), ini_X9, by decide +kernel⟩, v_at 892 (w := Cond.instanceMethod yX9_glaze) (by decide +kernel) (by decide +kernel), v_at 893 (w := Cond.selects yX9_glaze.cls yX9_glaze yX9_glaze) (by decide +kernel) (by decide +kernel)⟩
set_option maxRecDepth 100000 in
theorem y_X9_rise : v_YV yX9_rise cX9_rise 2 (some .int) 1 := ⟨⟨v_at 901 rfl (by decide +kernel), ini_X9, by decide +kernel⟩, v_at 899 (w := Cond.instanceMethod yX9_rise) (by decide +kernel) (by decide +kernel), v_at 900 (w := Cond.selects yX9_rise.cls yX9_rise yX9_rise) (by decide +kernel) (by decide +kernel)⟩
set_option maxRecDepth 100000 in
theorem y_X9_folds : v_YV yX9_folds cX9_folds 1 (some .int) 0 := ⟨⟨v_at 913 rfl (by decide +kernel), ini_X9, by decide +kernel⟩, v_at 911 (w := Cond.instanceMethod yX9_folds) (by decide +kernel) (by decide +kernel), v_at 912 (w := Cond.selects yX9_folds.cls yX9_folds yX9_folds) (by decide +kernel) (by decide +kernel)⟩
set_option maxRecDepth 100000 in
theorem y_X9_peaks : v_YV yX9_peaks cX9_peaks 1 (some .int) 0 := ⟨⟨v_at 920 rfl (by decide +kernel), ini_X9, by decide +kernel⟩, v_at 918 (w := Cond.instanceMethod yX9_peaks) (by decide +kernel) (by decide +kernel), v_at 919 (w := Cond.selects yX9_peaks.cls yX9_peaks yX9_peaks) (by decide +kernel) (by decide +kernel)⟩
set_option maxRecDepth 100000 in
theorem y_X9_richest : v_YV yX9_richest cX9_richest 2 (some .int) 1 := ⟨⟨v_at 927 rfl (by decide +kernel), ini_X9, by decide +kernel⟩, v_at 925 (w := Cond.instanceMethod yX9_richest) (by decide +kernel) (by decide +kernel), v_at 926 (w := Cond.selects yX9_richest.cls yX9_richest yX9_richest) (by decide +kernel) (by decide +kernel)⟩
set_option maxRecDepth 100000 in
theorem y_X9_islands : v_YV yX9_islands cX9_islands 2 (some .int) 1 := ⟨⟨v_at 935 rfl (by decide +kernel), ini_X9, by decide +kernel⟩, v_at 933 (w := Cond.instanceMethod yX9_islands) (by decide +kernel) (by decide +kernel), v_at 934 (w := Cond.selects yX9_islands.cls yX9_islands yX9_islands) (by decide +kernel) (by decide +kernel)⟩
set_option maxRecDepth 100000 in
theorem y_X9_sees : v_YV yX9_sees cX9_sees 3 (some .int) 2 := ⟨⟨v_at 942 rfl (by decide +kernel), ini_X9, by decide +kernel⟩, v_at 940 (w := Cond.instanceMethod yX9_sees) (by decide +kernel) (by decide +kernel), v_at 941 (w := Cond.selects yX9_sees.cls yX9_sees yX9_sees) (by decide +kernel) (by decide +kernel)⟩
set_option maxRecDepth 100000 in
theorem y_X9_middle : v_YV yX9_middle cX9_middle 2 (some .int) 1 := ⟨⟨v_at 949 rfl (by decide +kernel), ini_X9, by decide +kernel⟩, v_at 947 (w := Cond.instanceMethod yX9_middle) (by decide +kernel) (by decide +kernel), v_at 948 (w := Cond.selects yX9_middle.cls yX9_middle yX9_middle) (by decide +kernel) (by decide +kernel)⟩
set_option maxRecDepth 100000 in
theorem y_X9_carried : v_YV yX9_carried cX9_carried 3 (some .int) 0 := ⟨⟨v_at 959 rfl (by decide +kernel), ini_X9, by decide +kernel⟩, v_at 957 (w := Cond.instanceMethod yX9_carried) (by decide +kernel) (by decide +kernel), v_at 958 (w := Cond.selects yX9_carried.cls yX9_carried yX9_carried) (by decide +kernel) (by decide +kernel)⟩
set_option maxRecDepth 100000 in
theorem y_X9_level : v_YV yX9_level cX9_level 1 (some .int) 0 := ⟨⟨v_at 969 rfl (by decide +kernel), ini_X9, by decide +kernel⟩, v_at 967 (w := Cond.instanceMethod yX9_level) (by decide +kernel) (by decide +kernel), v_at 968 (w := Cond.selects yX9_level.cls yX9_level yX9_level) (by decide +kernel) (by decide +kernel)⟩
set_option maxRecDepth 100000 in
theorem y_X9_shared : v_YV yX9_shared cX9_shared 3 (some .int) 2 := ⟨⟨v_at 978 rfl (by decide +kernel), ini_X9, by decide +kernel⟩, v_at 976 (w := Cond.instanceMethod yX9_shared) (by decide +kernel) (by decide +kernel), v_at 977 (w := Cond.selects yX9_shared.cls yX9_shared yX9_shared) (by decide +kernel) (by decide +kernel)⟩
set_option maxRecDepth 100000 in
theorem y_X9_ends : v_YV yX9_ends cX9_ends 3 (some .int) 2 := ⟨⟨v_at 994 rfl (by decide +kernel), ini_X9, by decide +kernel⟩, v_at 992 (w := Cond.instanceMethod yX9_ends) (by decide +kernel) (by decide +kernel), v_at 993 (w := Cond.selects yX9_ends.cls yX9_ends yX9_ends) (by decide +kernel) (by decide +kernel)⟩
set_option maxRecDepth 100000 in
theorem y_X9_endsFirst : v_YV yX9_endsFirst cX9_endsFirst 3 (some .int) 2 := ⟨⟨v_at 1005 rfl (by decide +kernel), ini_X9, by decide +kernel⟩, v_at 1003 (w := Cond.instanceMethod yX9_endsFirst) (by decide +kernel) (by decide +kernel), v_at 1004 (w := Cond.selects yX9_endsFirst.cls yX9_endsFirst yX9_endsFirst) (by decide +kernel) (by decide +kernel)⟩
set_option maxRecDepth 100000 in
theorem y_X9_patches : v_YV yX9_patches cX9_patches 4 (some .int) 3 := ⟨⟨v_at 1014 rfl (by decide +kernel), ini_X9, by decide +kernel⟩, v_at 1012 (w := Cond.instanceMethod yX9_patches) (by decide +kernel) (by decide +kernel), v_at 1013 (w := Cond.selects yX9_patches.cls yX9_patches yX9_patches) (by decide +kernel) (by decide +kernel)⟩
set_option maxRecDepth 100000 in
theorem y_X9_plan : v_YV yX9_plan cX9_plan 5 (some .int) 3 := ⟨⟨v_at 1022 rfl (by decide +kernel), ini_X9, by decide +kernel⟩, v_at 1020 (w := Cond.instanceMethod yX9_plan) (by decide +kernel) (by decide +kernel), v_at 1021 (w := Cond.selects yX9_plan.cls yX9_plan yX9_plan) (by decide +kernel) (by decide +kernel)⟩
set_option maxRecDepth 100000 in
theorem y_X9_best : v_YV yX9_best cX9_best 2 (some .int) 1 := ⟨⟨v_at 1041 rfl (by decide +kernel), ini_X9, by decide +kernel⟩, v_at 1039 (w := Cond.instanceMethod yX9_best) (by decide +kernel) (by decide +kernel), v_at 1040 (w := Cond.selects yX9_best.cls yX9_best yX9_best) (by decide +kernel) (by decide +kernel)⟩
set_option maxRecDepth 100000 in
theorem y_X9_which : v_YV yX9_which cX9_which 3 (some .int) 2 := ⟨⟨v_at 1052 rfl (by decide +kernel), ini_X9, by decide +kernel⟩, v_at 1050 (w := Cond.instanceMethod yX9_which) (by decide +kernel) (by decide +kernel), v_at 1051 (w := Cond.selects yX9_which.cls yX9_which yX9_which) (by decide +kernel) (by decide +kernel)⟩
set_option maxRecDepth 100000 in
theorem y_X9_likely : v_YV yX9_likely cX9_likely 5 (some .int) 2 := ⟨⟨v_at 1080 rfl (by decide +kernel), ini_X9, by decide +kernel⟩, v_at 1078 (w := Cond.instanceMethod yX9_likely) (by decide +kernel) (by decide +kernel), v_at 1079 (w := Cond.selects yX9_likely.cls yX9_likely yX9_likely) (by decide +kernel) (by decide +kernel)⟩
set_option maxRecDepth 100000 in
theorem y_X9_thin : v_YV yX9_thin cX9_thin 1 (some .int) 0 := ⟨⟨v_at 1091 rfl (by decide +kernel), ini_X9, by decide +kernel⟩, v_at 1089 (w := Cond.instanceMethod yX9_thin) (by decide +kernel) (by decide +kernel), v_at 1090 (w := Cond.selects yX9_thin.cls yX9_thin yX9_thin) (by decide +kernel) (by decide +kernel)⟩
set_option maxRecDepth 100000 in
theorem y_X9_thick : v_YV yX9_thick cX9_thick 1 (some .int) 0 := ⟨⟨v_at 1098 rfl (by decide +kernel), ini_X9, by decide +kernel⟩, v_at 1096 (w := Cond.instanceMethod yX9_thick) (by decide +kernel) (by decide +kernel), v_at 1097 (w := Cond.selects yX9_thick.cls yX9_thick yX9_thick) (by decide +kernel) (by decide +kernel)⟩
set_option maxRecDepth 100000 in
theorem y_X9_apart : v_YV yX9_apart cX9_apart 1 (some .int) 0 := ⟨⟨v_at 1103 rfl (by decide +kernel), ini_X9, by decide +kernel⟩, v_at 1101 (w := Cond.instanceMethod yX9_apart) (by decide +kernel) (by decide +kernel), v_at 1102 (w := Cond.selects yX9_apart.cls yX9_apart yX9_apart) (by decide +kernel) (by decide +kernel)⟩
set_option maxRecDepth 100000 in
theorem y_X9_fallen : v_YV yX9_fallen cX9_fallen 1 (some .int) 0 := ⟨⟨v_at 1112 rfl (by decide +kernel), ini_X9, by decide +kernel⟩, v_at 1110 (w := Cond.instanceMethod yX9_fallen) (by decide +kernel) (by decide +kernel), v_at 1111 (w := Cond.selects yX9_fallen.cls yX9_fallen yX9_fallen) (by decide +kernel) (by decide +kernel)⟩
set_option maxRecDepth 100000 in
theorem y_X9_said : v_YV yX9_said cX9_said 5 (some .int) 3 := ⟨⟨v_at 1116 rfl (by decide +kernel), ini_X9, by decide +kernel⟩, v_at 1114 (w := Cond.instanceMethod yX9_said) (by decide +kernel) (by decide +kernel), v_at 1115 (w := Cond.selects yX9_said.cls yX9_said yX9_said) (by decide +kernel) (by decide +kernel)⟩
set_option maxRecDepth 100000 in
theorem y_X9_whose : v_YV yX9_whose cX9_whose 3 (some .int) 0 := ⟨⟨v_at 1124 rfl (by decide +kernel), ini_X9, by decide +kernel⟩, v_at 1122 (w := Cond.instanceMethod yX9_whose) (by decide +kernel) (by decide +kernel), v_at 1123 (w := Cond.selects yX9_whose.cls yX9_whose yX9_whose) (by decide +kernel) (by decide +kernel)⟩
set_option maxRecDepth 100000 in
theorem y_X9_ledger : v_YV yX9_ledger cX9_ledger 2 (some .int) 1 := ⟨⟨v_at 1132 rfl (by decide +kernel), ini_X9, by decide +kernel⟩, v_at 1130 (w := Cond.instanceMethod yX9_ledger) (by decide +kernel) (by decide +kernel), v_at 1131 (w := Cond.selects yX9_ledger.cls yX9_ledger yX9_ledger) (by decide +kernel) (by decide +kernel)⟩
set_option maxRecDepth 100000 in
theorem y_X9_image : v_YV yX9_image cX9_image 1 (some .int) 0 := ⟨⟨v_at 1141 rfl (by decide +kernel), ini_X9, by decide +kernel⟩, v_at 1139 (w := Cond.instanceMethod yX9_image) (by decide +kernel) (by decide +kernel), v_at 1140 (w := Cond.selects yX9_image.cls yX9_image yX9_image) (by decide +kernel) (by decide +kernel)⟩
set_option maxRecDepth 100000 in
theorem y_X9_back : v_YV yX9_back cX9_back 1 (some .int) 0 := ⟨⟨v_at 1150 rfl (by decide +kernel), ini_X9, by decide +kernel⟩, v_at 1148 (w := Cond.instanceMethod yX9_back) (by decide +kernel) (by decide +kernel), v_at 1149 (w := Cond.selects yX9_back.cls yX9_back yX9_back) (by decide +kernel) (by decide +kernel)⟩
set_option maxRecDepth 100000 in
theorem y_X9_about : v_YV yX9_about cX9_about 2 (some .int) 1 := ⟨⟨v_at 1154 rfl (by decide +kernel), ini_X9, by decide +kernel⟩, v_at 1152 (w := Cond.instanceMethod yX9_about) (by decide +kernel) (by decide +kernel), v_at 1153 (w := Cond.selects yX9_about.cls yX9_about yX9_about) (by decide +kernel) (by decide +kernel)⟩
set_option maxRecDepth 100000 in
theorem y_X9_isCell : v_YS yX9_isCell cX9_isCell 1 (some .boolean) 1 := ⟨⟨v_at 425 rfl (by decide +kernel), ini_X9, by decide +kernel⟩, v_at 424 (w := Cond.static yX9_isCell) (by decide +kernel) (by decide +kernel)⟩
set_option maxRecDepth 100000 in
theorem y_X9_isRow : v_YS yX9_isRow cX9_isRow 2 (some .boolean) 2 := ⟨⟨v_at 997 rfl (by decide +kernel), ini_X9, by decide +kernel⟩, v_at 996 (w := Cond.static yX9_isRow) (by decide +kernel) (by decide +kernel)⟩
set_option maxRecDepth 100000 in
theorem y_X9_isHand : v_YV yX9_isHand cX9_isHand 2 (some .boolean) 1 := ⟨⟨v_at 675 rfl (by decide +kernel), ini_X9, by decide +kernel⟩, v_at 674 (w := Cond.instanceMethod yX9_isHand) (by decide +kernel) (by decide +kernel), v_at 24 (w := Cond.selects yX9_isHand.cls yX9_isHand yX9_isHand) (by decide +kernel) (by decide +kernel)⟩
set_option maxRecDepth 100000 in
theorem y_X9_isTown : v_YV yX9_isTown cX9_isTown 2 (some .boolean) 1 := ⟨⟨v_at 840 rfl (by decide +kernel), ini_X9, by decide +kernel⟩, v_at 839 (w := Cond.instanceMethod yX9_isTown) (by decide +kernel) (by decide +kernel), v_at 30 (w := Cond.selects yX9_isTown.cls yX9_isTown yX9_isTown) (by decide +kernel) (by decide +kernel)⟩
set_option maxRecDepth 100000 in
theorem y_X9_isText : v_YV yX9_isText cX9_isText 2 (some .boolean) 1 := ⟨⟨v_at 667 rfl (by decide +kernel), ini_X9, by decide +kernel⟩, v_at 666 (w := Cond.instanceMethod yX9_isText) (by decide +kernel) (by decide +kernel), v_at 23 (w := Cond.selects yX9_isText.cls yX9_isText yX9_isText) (by decide +kernel) (by decide +kernel)⟩
set_option maxRecDepth 100000 in
theorem y_X9_passTurns : v_YV yX9_passTurns cX9_passTurns 4 (some .int) 1 := ⟨⟨v_at 774 rfl (by decide +kernel), ini_X9, by decide +kernel⟩, v_at 773 (w := Cond.instanceMethod yX9_passTurns) (by decide +kernel) (by decide +kernel), v_at 28 (w := Cond.selects yX9_passTurns.cls yX9_passTurns yX9_passTurns) (by decide +kernel) (by decide +kernel)⟩
set_option maxRecDepth 100000 in
theorem y_X9_isDone : v_YV yX9_isDone cX9_isDone 4 (some .boolean) 3 := ⟨⟨v_at 797 rfl (by decide +kernel), ini_X9, by decide +kernel⟩, v_at 796 (w := Cond.instanceMethod yX9_isDone) (by decide +kernel) (by decide +kernel), v_at 29 (w := Cond.selects yX9_isDone.cls yX9_isDone yX9_isDone) (by decide +kernel) (by decide +kernel)⟩
set_option maxRecDepth 100000 in
theorem y_X10_init : v_YI yX10_init cX10_init 2 0 := ⟨⟨v_at 1159 rfl (by decide +kernel), ini_X10, by decide +kernel⟩, rfl, v_at 1158 (w := Cond.instanceMethod yX10_init) (by decide +kernel) (by decide +kernel)⟩
set_option maxRecDepth 100000 in
theorem y_X10_copy : v_YS yX10_copy cX10_copy 3 (none) 2 := ⟨⟨v_at 1163 rfl (by decide +kernel), ini_X10, by decide +kernel⟩, v_at 1162 (w := Cond.static yX10_copy) (by decide +kernel) (by decide +kernel)⟩
set_option maxRecDepth 100000 in
theorem y_X10_isIn : v_YS yX10_isIn cX10_isIn 3 (some .boolean) 3 := ⟨⟨v_at 1259 rfl (by decide +kernel), ini_X10, by decide +kernel⟩, v_at 1258 (w := Cond.static yX10_isIn) (by decide +kernel) (by decide +kernel)⟩
set_option maxRecDepth 100000 in
theorem y_X10_cut : v_YS yX10_cut cX10_cut 4 (some .int) 3 := ⟨⟨v_at 1495 rfl (by decide +kernel), ini_X10, by decide +kernel⟩, v_at 1494 (w := Cond.static yX10_cut) (by decide +kernel) (by decide +kernel)⟩
set_option maxRecDepth 100000 in
theorem y_X10_has : v_YS yX10_has cX10_has 2 (some .boolean) 2 := ⟨⟨v_at 1336 rfl (by decide +kernel), ini_X10, by decide +kernel⟩, v_at 1335 (w := Cond.static yX10_has) (by decide +kernel) (by decide +kernel)⟩
set_option maxRecDepth 100000 in
theorem y_X10_isHand : v_YV yX10_isHand cX10_isHand 2 (some .boolean) 1 := ⟨⟨v_at 1442 rfl (by decide +kernel), ini_X10, by decide +kernel⟩, v_at 1441 (w := Cond.instanceMethod yX10_isHand) (by decide +kernel) (by decide +kernel), v_at 64 (w := Cond.selects yX10_isHand.cls yX10_isHand yX10_isHand) (by decide +kernel) (by decide +kernel)⟩
set_option maxRecDepth 100000 in
theorem y_X10_isCell : v_YS yX10_isCell cX10_isCell 1 (some .boolean) 1 := ⟨⟨v_at 1266 rfl (by decide +kernel), ini_X10, by decide +kernel⟩, v_at 1265 (w := Cond.static yX10_isCell) (by decide +kernel) (by decide +kernel)⟩
set_option maxRecDepth 100000 in
theorem y_X10_townsIn : v_YV yX10_townsIn cX10_townsIn 4 (some .int) 1 := ⟨⟨v_at 1572 rfl (by decide +kernel), ini_X10, by decide +kernel⟩, v_at 1571 (w := Cond.instanceMethod yX10_townsIn) (by decide +kernel) (by decide +kernel), v_at 83 (w := Cond.selects yX10_townsIn.cls yX10_townsIn yX10_townsIn) (by decide +kernel) (by decide +kernel)⟩
set_option maxRecDepth 100000 in
theorem y_X10_tornNow : v_YV yX10_tornNow cX10_tornNow 3 (some .int) 0 := ⟨⟨v_at 1592 rfl (by decide +kernel), ini_X10, by decide +kernel⟩, v_at 1591 (w := Cond.instanceMethod yX10_tornNow) (by decide +kernel) (by decide +kernel), v_at 84 (w := Cond.selects yX10_tornNow.cls yX10_tornNow yX10_tornNow) (by decide +kernel) (by decide +kernel)⟩
set_option maxRecDepth 100000 in
theorem y_X10_doughOf : v_YV yX10_doughOf cX10_doughOf 5 (some .int) 2 := ⟨⟨v_at 1596 rfl (by decide +kernel), ini_X10, by decide +kernel⟩, v_at 1595 (w := Cond.instanceMethod yX10_doughOf) (by decide +kernel) (by decide +kernel), v_at 85 (w := Cond.selects yX10_doughOf.cls yX10_doughOf yX10_doughOf) (by decide +kernel) (by decide +kernel)⟩
set_option maxRecDepth 100000 in
theorem y_X10_hand : v_YV yX10_hand cX10_hand 2 (some .int) 1 := ⟨⟨v_at 1256 rfl (by decide +kernel), ini_X10, by decide +kernel⟩, v_at 1254 (w := Cond.instanceMethod yX10_hand) (by decide +kernel) (by decide +kernel), v_at 1255 (w := Cond.selects yX10_hand.cls yX10_hand yX10_hand) (by decide +kernel) (by decide +kernel)⟩
set_option maxRecDepth 100000 in
theorem y_X10_dough : v_YV yX10_dough cX10_dough 4 (some .boolean) 2 := ⟨⟨v_at 1263 rfl (by decide +kernel), ini_X10, by decide +kernel⟩, v_at 1261 (w := Cond.instanceMethod yX10_dough) (by decide +kernel) (by decide +kernel), v_at 1262 (w := Cond.selects yX10_dough.cls yX10_dough yX10_dough) (by decide +kernel) (by decide +kernel)⟩
set_option maxRecDepth 100000 in
theorem y_X10_town : v_YV yX10_town cX10_town 2 (some .int) 1 := ⟨⟨v_at 1270 rfl (by decide +kernel), ini_X10, by decide +kernel⟩, v_at 1268 (w := Cond.instanceMethod yX10_town) (by decide +kernel) (by decide +kernel), v_at 1269 (w := Cond.selects yX10_town.cls yX10_town yX10_town) (by decide +kernel) (by decide +kernel)⟩
set_option maxRecDepth 100000 in
theorem y_X10_four : v_YV yX10_four cX10_four 3 (none) 1 := ⟨⟨v_at 1278 rfl (by decide +kernel), ini_X10, by decide +kernel⟩, v_at 1277 (w := Cond.instanceMethod yX10_four) (by decide +kernel) (by decide +kernel), v_at 37 (w := Cond.selects yX10_four.cls yX10_four yX10_four) (by decide +kernel) (by decide +kernel)⟩
set_option maxRecDepth 100000 in
theorem y_X10_feed : v_YV yX10_feed cX10_feed 6 (some .int) 5 := ⟨⟨v_at 1274 rfl (by decide +kernel), ini_X10, by decide +kernel⟩, v_at 1272 (w := Cond.instanceMethod yX10_feed) (by decide +kernel) (by decide +kernel), v_at 1273 (w := Cond.selects yX10_feed.cls yX10_feed yX10_feed) (by decide +kernel) (by decide +kernel)⟩
set_option maxRecDepth 100000 in
theorem y_X10_end : v_YV yX10_end cX10_end 2 (some .int) 1 := ⟨⟨v_at 1282 rfl (by decide +kernel), ini_X10, by decide +kernel⟩, v_at 1280 (w := Cond.instanceMethod yX10_end) (by decide +kernel) (by decide +kernel), v_at 1281 (w := Cond.selects yX10_end.cls yX10_end yX10_end) (by decide +kernel) (by decide +kernel)⟩
set_option maxRecDepth 100000 in
theorem y_X10_byteAt : v_YV yX10_byteAt cX10_byteAt 2 (some .int) 1 := ⟨⟨v_at 1298 rfl (by decide +kernel), ini_X10, by decide +kernel⟩, v_at 1297 (w := Cond.instanceMethod yX10_byteAt) (by decide +kernel) (by decide +kernel), v_at 40 (w := Cond.selects yX10_byteAt.cls yX10_byteAt yX10_byteAt) (by decide +kernel) (by decide +kernel)⟩
set_option maxRecDepth 100000 in
theorem y_X10_isLetterByte : v_YS yX10_isLetterByte cX10_isLetterByte 1 (some .boolean) 1 := ⟨⟨v_at 1305 rfl (by decide +kernel), ini_X10, by decide +kernel⟩, v_at 1304 (w := Cond.static yX10_isLetterByte) (by decide +kernel) (by decide +kernel)⟩
set_option maxRecDepth 100000 in
theorem y_X10_isFigure : v_YS yX10_isFigure cX10_isFigure 1 (some .boolean) 1 := ⟨⟨v_at 1301 rfl (by decide +kernel), ini_X10, by decide +kernel⟩, v_at 1300 (w := Cond.static yX10_isFigure) (by decide +kernel) (by decide +kernel)⟩
set_option maxRecDepth 100000 in
theorem y_X10_isSign : v_YS yX10_isSign cX10_isSign 1 (some .boolean) 1 := ⟨⟨v_at 1309 rfl (by decide +kernel), ini_X10, by decide +kernel⟩, v_at 1308 (w := Cond.static yX10_isSign) (by decide +kernel) (by decide +kernel)⟩
set_option maxRecDepth 100000 in
theorem y_X10_nextToken : v_YV yX10_nextToken cX10_nextToken 2 (none) 0 := ⟨⟨v_at 1294 rfl (by decide +kernel), ini_X10, by decide +kernel⟩, v_at 1293 (w := Cond.instanceMethod yX10_nextToken) (by decide +kernel) (by decide +kernel), v_at 39 (w := Cond.selects yX10_nextToken.cls yX10_nextToken yX10_nextToken) (by decide +kernel) (by decide +kernel)⟩
set_option maxRecDepth 100000 in
theorem y_X10_w2 : v_YS yX10_w2 cX10_w2 2 (some .long) 2 := ⟨⟨v_at 1329 rfl (by decide +kernel), ini_X10, by decide +kernel⟩, v_at 1328 (w := Cond.static yX10_w2) (by decide +kernel) (by decide +kernel)⟩
set_option maxRecDepth 100000 in
theorem y_X10_w3 : v_YS yX10_w3 cX10_w3 3 (some .long) 3 := ⟨⟨v_at 1326 rfl (by decide +kernel), ini_X10, by decide +kernel⟩, v_at 1325 (w := Cond.static yX10_w3) (by decide +kernel) (by decide +kernel)⟩
set_option maxRecDepth 100000 in
theorem y_X10_w4 : v_YS yX10_w4 cX10_w4 4 (some .long) 4 := ⟨⟨v_at 1323 rfl (by decide +kernel), ini_X10, by decide +kernel⟩, v_at 1322 (w := Cond.static yX10_w4) (by decide +kernel) (by decide +kernel)⟩
set_option maxRecDepth 100000 in
theorem y_X10_w5 : v_YS yX10_w5 cX10_w5 5 (some .long) 5 := ⟨⟨v_at 1320 rfl (by decide +kernel), ini_X10, by decide +kernel⟩, v_at 1319 (w := Cond.static yX10_w5) (by decide +kernel) (by decide +kernel)⟩
set_option maxRecDepth 100000 in
theorem y_X10_w6 : v_YS yX10_w6 cX10_w6 6 (some .long) 6 := ⟨⟨v_at 1414 rfl (by decide +kernel), ini_X10, by decide +kernel⟩, v_at 1413 (w := Cond.static yX10_w6) (by decide +kernel) (by decide +kernel)⟩
set_option maxRecDepth 100000 in
theorem y_X10_isWord : v_YV yX10_isWord cX10_isWord 3 (some .boolean) 1 := ⟨⟨v_at 1333 rfl (by decide +kernel), ini_X10, by decide +kernel⟩, v_at 1332 (w := Cond.instanceMethod yX10_isWord) (by decide +kernel) (by decide +kernel), v_at 43 (w := Cond.selects yX10_isWord.cls yX10_isWord yX10_isWord) (by decide +kernel) (by decide +kernel)⟩
set_option maxRecDepth 100000 in
theorem y_X10_emit : v_YV yX10_emit cX10_emit 3 (none) 2 := ⟨⟨v_at 1391 rfl (by decide +kernel), ini_X10, by decide +kernel⟩, v_at 1390 (w := Cond.instanceMethod yX10_emit) (by decide +kernel) (by decide +kernel), v_at 56 (w := Cond.selects yX10_emit.cls yX10_emit yX10_emit) (by decide +kernel) (by decide +kernel)⟩
set_option maxRecDepth 100000 in
theorem y_X10_isStrength : v_YV yX10_isStrength cX10_isStrength 1 (some .boolean) 0 := ⟨⟨v_at 1407 rfl (by decide +kernel), ini_X10, by decide +kernel⟩, v_at 1406 (w := Cond.instanceMethod yX10_isStrength) (by decide +kernel) (by decide +kernel), v_at 60 (w := Cond.selects yX10_isStrength.cls yX10_isStrength yX10_isStrength) (by decide +kernel) (by decide +kernel)⟩
set_option maxRecDepth 100000 in
theorem y_X10_nameOf : v_YV yX10_nameOf cX10_nameOf 1 (some .int) 0 := ⟨⟨v_at 1403 rfl (by decide +kernel), ini_X10, by decide +kernel⟩, v_at 1402 (w := Cond.instanceMethod yX10_nameOf) (by decide +kernel) (by decide +kernel), v_at 59 (w := Cond.selects yX10_nameOf.cls yX10_nameOf yX10_nameOf) (by decide +kernel) (by decide +kernel)⟩
set_option maxRecDepth 100000 in
theorem y_X10_rank : v_YS yX10_rank cX10_rank 1 (some .int) 1 := ⟨⟨v_at 1379 rfl (by decide +kernel), ini_X10, by decide +kernel⟩, v_at 1378 (w := Cond.static yX10_rank) (by decide +kernel) (by decide +kernel)⟩
set_option maxRecDepth 100000 in
theorem y_X10_settle : v_YV yX10_settle cX10_settle 2 (none) 1 := ⟨⟨v_at 1387 rfl (by decide +kernel), ini_X10, by decide +kernel⟩, v_at 1386 (w := Cond.instanceMethod yX10_settle) (by decide +kernel) (by decide +kernel), v_at 55 (w := Cond.selects yX10_settle.cls yX10_settle yX10_settle) (by decide +kernel) (by decide +kernel)⟩
set_option maxRecDepth 100000 in
theorem y_X10_openAt : v_YV yX10_openAt cX10_openAt 2 (some .int) 0 := ⟨⟨v_at 1372 rfl (by decide +kernel), ini_X10, by decide +kernel⟩, v_at 1371 (w := Cond.instanceMethod yX10_openAt) (by decide +kernel) (by decide +kernel), v_at 52 (w := Cond.selects yX10_openAt.cls yX10_openAt yX10_openAt) (by decide +kernel) (by decide +kernel)⟩
set_option maxRecDepth 100000 in
theorem y_X10_openNow : v_YV yX10_openNow cX10_openNow 1 (some .int) 0 := ⟨⟨v_at 1368 rfl (by decide +kernel), ini_X10, by decide +kernel⟩, v_at 1367 (w := Cond.instanceMethod yX10_openNow) (by decide +kernel) (by decide +kernel), v_at 51 (w := Cond.selects yX10_openNow.cls yX10_openNow yX10_openNow) (by decide +kernel) (by decide +kernel)⟩
set_option maxRecDepth 100000 in
theorem y_X10_isCompared : v_YV yX10_isCompared cX10_isCompared 2 (some .boolean) 0 := ⟨⟨v_at 1376 rfl (by decide +kernel), ini_X10, by decide +kernel⟩, v_at 1375 (w := Cond.instanceMethod yX10_isCompared) (by decide +kernel) (by decide +kernel), v_at 53 (w := Cond.selects yX10_isCompared.cls yX10_isCompared yX10_isCompared) (by decide +kernel) (by decide +kernel)⟩
set_option maxRecDepth 100000 in
theorem y_X10_isAskAhead : v_YV yX10_isAskAhead cX10_isAskAhead 1 (some .boolean) 0 := ⟨⟨v_at 1418 rfl (by decide +kernel), ini_X10, by decide +kernel⟩, v_at 1417 (w := Cond.instanceMethod yX10_isAskAhead) (by decide +kernel) (by decide +kernel), v_at 62 (w := Cond.selects yX10_isAskAhead.cls yX10_isAskAhead yX10_isAskAhead) (by decide +kernel) (by decide +kernel)⟩
set_option maxRecDepth 100000 in
theorem y_X10_opened : v_YV yX10_opened cX10_opened 2 (some .int) 1 := ⟨⟨v_at 1411 rfl (by decide +kernel), ini_X10, by decide +kernel⟩, v_at 1410 (w := Cond.instanceMethod yX10_opened) (by decide +kernel) (by decide +kernel), v_at 61 (w := Cond.selects yX10_opened.cls yX10_opened yX10_opened) (by decide +kernel) (by decide +kernel)⟩
set_option maxRecDepth 100000 in
theorem y_X10_beginOne : v_YV yX10_beginOne cX10_beginOne 2 (some .int) 0 := ⟨⟨v_at 1399 rfl (by decide +kernel), ini_X10, by decide +kernel⟩, v_at 1398 (w := Cond.instanceMethod yX10_beginOne) (by decide +kernel) (by decide +kernel), v_at 58 (w := Cond.selects yX10_beginOne.cls yX10_beginOne yX10_beginOne) (by decide +kernel) (by decide +kernel)⟩
set_option maxRecDepth 100000 in
theorem y_X10_compareOf : v_YV yX10_compareOf cX10_compareOf 1 (some .int) 0 := ⟨⟨v_at 1383 rfl (by decide +kernel), ini_X10, by decide +kernel⟩, v_at 1382 (w := Cond.instanceMethod yX10_compareOf) (by decide +kernel) (by decide +kernel), v_at 54 (w := Cond.selects yX10_compareOf.cls yX10_compareOf yX10_compareOf) (by decide +kernel) (by decide +kernel)⟩
set_option maxRecDepth 100000 in
theorem y_X10_betweenOf : v_YV yX10_betweenOf cX10_betweenOf 1 (some .int) 0 := ⟨⟨v_at 1364 rfl (by decide +kernel), ini_X10, by decide +kernel⟩, v_at 1363 (w := Cond.instanceMethod yX10_betweenOf) (by decide +kernel) (by decide +kernel), v_at 50 (w := Cond.selects yX10_betweenOf.cls yX10_betweenOf yX10_betweenOf) (by decide +kernel) (by decide +kernel)⟩
set_option maxRecDepth 100000 in
theorem y_X10_partOf : v_YV yX10_partOf cX10_partOf 2 (some .int) 1 := ⟨⟨v_at 1395 rfl (by decide +kernel), ini_X10, by decide +kernel⟩, v_at 1394 (w := Cond.instanceMethod yX10_partOf) (by decide +kernel) (by decide +kernel), v_at 57 (w := Cond.selects yX10_partOf.cls yX10_partOf yX10_partOf) (by decide +kernel) (by decide +kernel)⟩
set_option maxRecDepth 100000 in
theorem y_X10_behindOne : v_YV yX10_behindOne cX10_behindOne 4 (some .boolean) 0 := ⟨⟨v_at 1360 rfl (by decide +kernel), ini_X10, by decide +kernel⟩, v_at 1359 (w := Cond.instanceMethod yX10_behindOne) (by decide +kernel) (by decide +kernel), v_at 49 (w := Cond.selects yX10_behindOne.cls yX10_behindOne yX10_behindOne) (by decide +kernel) (by decide +kernel)⟩
set_option maxRecDepth 100000 in
theorem y_X10_summed : v_YV yX10_summed cX10_summed 2 (some .int) 0 := ⟨⟨v_at 1356 rfl (by decide +kernel), ini_X10, by decide +kernel⟩, v_at 1355 (w := Cond.instanceMethod yX10_summed) (by decide +kernel) (by decide +kernel), v_at 48 (w := Cond.selects yX10_summed.cls yX10_summed yX10_summed) (by decide +kernel) (by decide +kernel)⟩
set_option maxRecDepth 100000 in
theorem y_X10_figure : v_YV yX10_figure cX10_figure 4 (some .int) 3 := ⟨⟨v_at 1344 rfl (by decide +kernel), ini_X10, by decide +kernel⟩, v_at 1343 (w := Cond.instanceMethod yX10_figure) (by decide +kernel) (by decide +kernel), v_at 45 (w := Cond.selects yX10_figure.cls yX10_figure yX10_figure) (by decide +kernel) (by decide +kernel)⟩
set_option maxRecDepth 100000 in
theorem y_X10_lawClause : v_YV yX10_lawClause cX10_lawClause 3 (some .int) 1 := ⟨⟨v_at 1352 rfl (by decide +kernel), ini_X10, by decide +kernel⟩, v_at 1351 (w := Cond.instanceMethod yX10_lawClause) (by decide +kernel) (by decide +kernel), v_at 47 (w := Cond.selects yX10_lawClause.cls yX10_lawClause yX10_lawClause) (by decide +kernel) (by decide +kernel)⟩
set_option maxRecDepth 100000 in
theorem y_X10_pair : v_YV yX10_pair cX10_pair 8 (some .int) 5 := ⟨⟨v_at 1348 rfl (by decide +kernel), ini_X10, by decide +kernel⟩, v_at 1347 (w := Cond.instanceMethod yX10_pair) (by decide +kernel) (by decide +kernel), v_at 46 (w := Cond.selects yX10_pair.cls yX10_pair yX10_pair) (by decide +kernel) (by decide +kernel)⟩
set_option maxRecDepth 100000 in
theorem y_X10_body : v_YV yX10_body cX10_body 3 (some .int) 2 := ⟨⟨v_at 1340 rfl (by decide +kernel), ini_X10, by decide +kernel⟩, v_at 1339 (w := Cond.instanceMethod yX10_body) (by decide +kernel) (by decide +kernel), v_at 44 (w := Cond.selects yX10_body.cls yX10_body yX10_body) (by decide +kernel) (by decide +kernel)⟩
set_option maxRecDepth 100000 in
theorem y_X10_sortOf : v_YV yX10_sortOf cX10_sortOf 1 (some .int) 0 := ⟨⟨v_at 1317 rfl (by decide +kernel), ini_X10, by decide +kernel⟩, v_at 1316 (w := Cond.instanceMethod yX10_sortOf) (by decide +kernel) (by decide +kernel), v_at 42 (w := Cond.selects yX10_sortOf.cls yX10_sortOf yX10_sortOf) (by decide +kernel) (by decide +kernel)⟩
set_option maxRecDepth 100000 in
theorem y_X10_clause : v_YV yX10_clause cX10_clause 5 (some .int) 0 := ⟨⟨v_at 1313 rfl (by decide +kernel), ini_X10, by decide +kernel⟩, v_at 1312 (w := Cond.instanceMethod yX10_clause) (by decide +kernel) (by decide +kernel), v_at 41 (w := Cond.selects yX10_clause.cls yX10_clause yX10_clause) (by decide +kernel) (by decide +kernel)⟩
set_option maxRecDepth 100000 in
theorem y_X10_readText : v_YV yX10_readText cX10_readText 2 (some .int) 0 := ⟨⟨v_at 1290 rfl (by decide +kernel), ini_X10, by decide +kernel⟩, v_at 1289 (w := Cond.instanceMethod yX10_readText) (by decide +kernel) (by decide +kernel), v_at 38 (w := Cond.selects yX10_readText.cls yX10_readText yX10_readText) (by decide +kernel) (by decide +kernel)⟩
set_option maxRecDepth 100000 in
theorem y_X10_text : v_YV yX10_text cX10_text 1 (some .int) 0 := ⟨⟨v_at 1286 rfl (by decide +kernel), ini_X10, by decide +kernel⟩, v_at 1284 (w := Cond.instanceMethod yX10_text) (by decide +kernel) (by decide +kernel), v_at 1285 (w := Cond.selects yX10_text.cls yX10_text yX10_text) (by decide +kernel) (by decide +kernel)⟩
set_option maxRecDepth 100000 in
theorem y_X10_fault : v_YV yX10_fault cX10_fault 2 (some .int) 1 := ⟨⟨v_at 1422 rfl (by decide +kernel), ini_X10, by decide +kernel⟩, v_at 1420 (w := Cond.instanceMethod yX10_fault) (by decide +kernel) (by decide +kernel), v_at 1421 (w := Cond.selects yX10_fault.cls yX10_fault yX10_fault) (by decide +kernel) (by decide +kernel)⟩
set_option maxRecDepth 100000 in
theorem y_X10_by : v_YV yX10_by cX10_by 2 (some .boolean) 1 := ⟨⟨v_at 1426 rfl (by decide +kernel), ini_X10, by decide +kernel⟩, v_at 1424 (w := Cond.instanceMethod yX10_by) (by decide +kernel) (by decide +kernel), v_at 1425 (w := Cond.selects yX10_by.cls yX10_by yX10_by) (by decide +kernel) (by decide +kernel)⟩
set_option maxRecDepth 100000 in
theorem y_X10_clip : v_YS yX10_clip cX10_clip 2 (some .long) 1 := ⟨⟨v_at 1479 rfl (by decide +kernel), ini_X10, by decide +kernel⟩, v_at 1478 (w := Cond.static yX10_clip) (by decide +kernel) (by decide +kernel)⟩
set_option maxRecDepth 100000 in
theorem y_X10_two : v_YS yX10_two cX10_two 5 (some .long) 3 := ⟨⟨v_at 1476 rfl (by decide +kernel), ini_X10, by decide +kernel⟩, v_at 1475 (w := Cond.static yX10_two) (by decide +kernel) (by decide +kernel)⟩
set_option maxRecDepth 100000 in
theorem y_X10_isAsked : v_YS yX10_isAsked cX10_isAsked 5 (some .boolean) 3 := ⟨⟨v_at 1489 rfl (by decide +kernel), ini_X10, by decide +kernel⟩, v_at 1488 (w := Cond.static yX10_isAsked) (by decide +kernel) (by decide +kernel)⟩
set_option maxRecDepth 100000 in
theorem y_X10_sheetOf : v_YV yX10_sheetOf cX10_sheetOf 3 (some .long) 1 := ⟨⟨v_at 1485 rfl (by decide +kernel), ini_X10, by decide +kernel⟩, v_at 1484 (w := Cond.instanceMethod yX10_sheetOf) (by decide +kernel) (by decide +kernel), v_at 72 (w := Cond.selects yX10_sheetOf.cls yX10_sheetOf yX10_sheetOf) (by decide +kernel) (by decide +kernel)⟩
set_option maxRecDepth 100000 in
theorem y_X10_ofOne : v_YV yX10_ofOne cX10_ofOne 4 (some .long) 2 := ⟨⟨v_at 1473 rfl (by decide +kernel), ini_X10, by decide +kernel⟩, v_at 1472 (w := Cond.instanceMethod yX10_ofOne) (by decide +kernel) (by decide +kernel), v_at 71 (w := Cond.selects yX10_ofOne.cls yX10_ofOne yX10_ofOne) (by decide +kernel) (by decide +kernel)⟩
set_option maxRecDepth 100000 in
theorem y_X10_joined : v_YS yX10_joined cX10_joined 3 (some .boolean) 3 := ⟨⟨v_at 1492 rfl (by decide +kernel), ini_X10, by decide +kernel⟩, v_at 1491 (w := Cond.static yX10_joined) (by decide +kernel) (by decide +kernel)⟩
set_option maxRecDepth 100000 in
theorem y_X10_summedUp : v_YV yX10_summedUp cX10_summedUp 10 (some .long) 2 := ⟨⟨v_at 1469 rfl (by decide +kernel), ini_X10, by decide +kernel⟩, v_at 1468 (w := Cond.instanceMethod yX10_summedUp) (by decide +kernel) (by decide +kernel), v_at 70 (w := Cond.selects yX10_summedUp.cls yX10_summedUp yX10_summedUp) (by decide +kernel) (by decide +kernel)⟩
set_option maxRecDepth 100000 in
theorem y_X10_says : v_YV yX10_says cX10_says 6 (some .int) 4 := ⟨⟨v_at 1465 rfl (by decide +kernel), ini_X10, by decide +kernel⟩, v_at 1464 (w := Cond.instanceMethod yX10_says) (by decide +kernel) (by decide +kernel), v_at 69 (w := Cond.selects yX10_says.cls yX10_says yX10_says) (by decide +kernel) (by decide +kernel)⟩
set_option maxRecDepth 100000 in
theorem y_X10_name : v_YV yX10_name cX10_name 2 (none) 1 := ⟨⟨v_at 1461 rfl (by decide +kernel), ini_X10, by decide +kernel⟩, v_at 1460 (w := Cond.instanceMethod yX10_name) (by decide +kernel) (by decide +kernel), v_at 68 (w := Cond.selects yX10_name.cls yX10_name yX10_name) (by decide +kernel) (by decide +kernel)⟩
set_option maxRecDepth 100000 in
theorem y_X10_besideOf : v_YS yX10_besideOf cX10_besideOf 2 (some .int) 2 := ⟨⟨v_at 1457 rfl (by decide +kernel), ini_X10, by decide +kernel⟩, v_at 1456 (w := Cond.static yX10_besideOf) (by decide +kernel) (by decide +kernel)⟩
set_option maxRecDepth 100000 in
theorem y_X10_movesOf : v_YV yX10_movesOf cX10_movesOf 6 (some .int) 4 := ⟨⟨v_at 1454 rfl (by decide +kernel), ini_X10, by decide +kernel⟩, v_at 1453 (w := Cond.instanceMethod yX10_movesOf) (by decide +kernel) (by decide +kernel), v_at 67 (w := Cond.selects yX10_movesOf.cls yX10_movesOf yX10_movesOf) (by decide +kernel) (by decide +kernel)⟩
set_option maxRecDepth 100000 in
theorem y_X10_tearsOf : v_YV yX10_tearsOf cX10_tearsOf 2 (some .int) 1 := ⟨⟨v_at 1499 rfl (by decide +kernel), ini_X10, by decide +kernel⟩, v_at 1498 (w := Cond.instanceMethod yX10_tearsOf) (by decide +kernel) (by decide +kernel), v_at 73 (w := Cond.selects yX10_tearsOf.cls yX10_tearsOf yX10_tearsOf) (by decide +kernel) (by decide +kernel)⟩
set_option maxRecDepth 100000 in
theorem y_X10_write : v_YV yX10_write cX10_write 5 (none) 3 := ⟨⟨v_at 1503 rfl (by decide +kernel), ini_X10, by decide +kernel⟩, v_at 1502 (w := Cond.instanceMethod yX10_write) (by decide +kernel) (by decide +kernel), v_at 74 (w := Cond.selects yX10_write.cls yX10_write yX10_write) (by decide +kernel) (by decide +kernel)⟩
set_option maxRecDepth 100000 in
theorem y_X10_drawnBy : v_YV yX10_drawnBy cX10_drawnBy 3 (some .int) 1 := ⟨⟨v_at 1539 rfl (by decide +kernel), ini_X10, by decide +kernel⟩, v_at 1538 (w := Cond.instanceMethod yX10_drawnBy) (by decide +kernel) (by decide +kernel), v_at 80 (w := Cond.selects yX10_drawnBy.cls yX10_drawnBy yX10_drawnBy) (by decide +kernel) (by decide +kernel)⟩
set_option maxRecDepth 100000 in
theorem y_X10_strokeNow : v_YV yX10_strokeNow cX10_strokeNow 8 (some .int) 3 := ⟨⟨v_at 1450 rfl (by decide +kernel), ini_X10, by decide +kernel⟩, v_at 1449 (w := Cond.instanceMethod yX10_strokeNow) (by decide +kernel) (by decide +kernel), v_at 66 (w := Cond.selects yX10_strokeNow.cls yX10_strokeNow yX10_strokeNow) (by decide +kernel) (by decide +kernel)⟩
set_option maxRecDepth 100000 in
theorem y_X10_pass : v_YV yX10_pass cX10_pass 4 (none) 0 := ⟨⟨v_at 1535 rfl (by decide +kernel), ini_X10, by decide +kernel⟩, v_at 1534 (w := Cond.instanceMethod yX10_pass) (by decide +kernel) (by decide +kernel), v_at 79 (w := Cond.selects yX10_pass.cls yX10_pass yX10_pass) (by decide +kernel) (by decide +kernel)⟩
set_option maxRecDepth 100000 in
theorem y_X10_keep : v_YV yX10_keep cX10_keep 3 (none) 0 := ⟨⟨v_at 1446 rfl (by decide +kernel), ini_X10, by decide +kernel⟩, v_at 1445 (w := Cond.instanceMethod yX10_keep) (by decide +kernel) (by decide +kernel), v_at 65 (w := Cond.selects yX10_keep.cls yX10_keep yX10_keep) (by decide +kernel) (by decide +kernel)⟩
set_option maxRecDepth 100000 in
theorem y_X10_undo : v_YV yX10_undo cX10_undo 3 (some .int) 0 := ⟨⟨v_at 1430 rfl (by decide +kernel), ini_X10, by decide +kernel⟩, v_at 1428 (w := Cond.instanceMethod yX10_undo) (by decide +kernel) (by decide +kernel), v_at 1429 (w := Cond.selects yX10_undo.cls yX10_undo yX10_undo) (by decide +kernel) (by decide +kernel)⟩
set_option maxRecDepth 100000 in
theorem y_X10_canStroke : v_YV yX10_canStroke cX10_canStroke 3 (some .boolean) 2 := ⟨⟨v_at 1438 rfl (by decide +kernel), ini_X10, by decide +kernel⟩, v_at 1437 (w := Cond.instanceMethod yX10_canStroke) (by decide +kernel) (by decide +kernel), v_at 63 (w := Cond.selects yX10_canStroke.cls yX10_canStroke yX10_canStroke) (by decide +kernel) (by decide +kernel)⟩
set_option maxRecDepth 100000 in
theorem y_X10_stroke : v_YV yX10_stroke cX10_stroke 4 (some .int) 3 := ⟨⟨v_at 1434 rfl (by decide +kernel), ini_X10, by decide +kernel⟩, v_at 1432 (w := Cond.instanceMethod yX10_stroke) (by decide +kernel) (by decide +kernel), v_at 1433 (w := Cond.selects yX10_stroke.cls yX10_stroke yX10_stroke) (by decide +kernel) (by decide +kernel)⟩
set_option maxRecDepth 100000 in
theorem y_X10_trimNow : v_YV yX10_trimNow cX10_trimNow 1 (none) 0 := ⟨⟨v_at 1511 rfl (by decide +kernel), ini_X10, by decide +kernel⟩, v_at 1510 (w := Cond.instanceMethod yX10_trimNow) (by decide +kernel) (by decide +kernel), v_at 75 (w := Cond.selects yX10_trimNow.cls yX10_trimNow yX10_trimNow) (by decide +kernel) (by decide +kernel)⟩
set_option maxRecDepth 100000 in
theorem y_X10_trim : v_YV yX10_trim cX10_trim 2 (some .int) 0 := ⟨⟨v_at 1507 rfl (by decide +kernel), ini_X10, by decide +kernel⟩, v_at 1505 (w := Cond.instanceMethod yX10_trim) (by decide +kernel) (by decide +kernel), v_at 1506 (w := Cond.selects yX10_trim.cls yX10_trim yX10_trim) (by decide +kernel) (by decide +kernel)⟩
set_option maxRecDepth 100000 in
theorem y_X10_canPatch : v_YV yX10_canPatch cX10_canPatch 3 (some .boolean) 2 := ⟨⟨v_at 1519 rfl (by decide +kernel), ini_X10, by decide +kernel⟩, v_at 1518 (w := Cond.instanceMethod yX10_canPatch) (by decide +kernel) (by decide +kernel), v_at 76 (w := Cond.selects yX10_canPatch.cls yX10_canPatch yX10_canPatch) (by decide +kernel) (by decide +kernel)⟩
set_option maxRecDepth 100000 in
theorem y_X10_patchNow : v_YV yX10_patchNow cX10_patchNow 3 (none) 2 := ⟨⟨v_at 1523 rfl (by decide +kernel), ini_X10, by decide +kernel⟩, v_at 1522 (w := Cond.instanceMethod yX10_patchNow) (by decide +kernel) (by decide +kernel), v_at 77 (w := Cond.selects yX10_patchNow.cls yX10_patchNow yX10_patchNow) (by decide +kernel) (by decide +kernel)⟩
set_option maxRecDepth 100000 in
theorem y_X10_patch : v_YV yX10_patch cX10_patch 3 (some .boolean) 2 := ⟨⟨v_at 1515 rfl (by decide +kernel), ini_X10, by decide +kernel⟩, v_at 1513 (w := Cond.instanceMethod yX10_patch) (by decide +kernel) (by decide +kernel), v_at 1514 (w := Cond.selects yX10_patch.cls yX10_patch yX10_patch) (by decide +kernel) (by decide +kernel)⟩
set_option maxRecDepth 100000 in
theorem y_X10_arePassed : v_YV yX10_arePassed cX10_arePassed 3 (some .boolean) 1 := ⟨⟨v_at 1531 rfl (by decide +kernel), ini_X10, by decide +kernel⟩, v_at 1530 (w := Cond.instanceMethod yX10_arePassed) (by decide +kernel) (by decide +kernel), v_at 78 (w := Cond.selects yX10_arePassed.cls yX10_arePassed yX10_arePassed) (by decide +kernel) (by decide +kernel)⟩
set_option maxRecDepth 100000 in
theorem y_X10_roll : v_YV yX10_roll cX10_roll 2 (some .int) 1 := ⟨⟨v_at 1527 rfl (by decide +kernel), ini_X10, by decide +kernel⟩, v_at 1525 (w := Cond.instanceMethod yX10_roll) (by decide +kernel) (by decide +kernel), v_at 1526 (w := Cond.selects yX10_roll.cls yX10_roll yX10_roll) (by decide +kernel) (by decide +kernel)⟩
set_option maxRecDepth 100000 in
theorem y_X10_isPlayed : v_YV yX10_isPlayed cX10_isPlayed 4 (some .boolean) 1 := ⟨⟨v_at 1550 rfl (by decide +kernel), ini_X10, by decide +kernel⟩, v_at 1549 (w := Cond.instanceMethod yX10_isPlayed) (by decide +kernel) (by decide +kernel), v_at 81 (w := Cond.selects yX10_isPlayed.cls yX10_isPlayed yX10_isPlayed) (by decide +kernel) (by decide +kernel)⟩
set_option maxRecDepth 100000 in
theorem y_X10_played : v_YV yX10_played cX10_played 3 (some .int) 1 := ⟨⟨v_at 1546 rfl (by decide +kernel), ini_X10, by decide +kernel⟩, v_at 1544 (w := Cond.instanceMethod yX10_played) (by decide +kernel) (by decide +kernel), v_at 1545 (w := Cond.selects yX10_played.cls yX10_played yX10_played) (by decide +kernel) (by decide +kernel)⟩
set_option maxRecDepth 100000 in
theorem y_X10_happens : v_YV yX10_happens cX10_happens 3 (none) 1 := ⟨⟨v_at 1564 rfl (by decide +kernel), ini_X10, by decide +kernel⟩, v_at 1563 (w := Cond.instanceMethod yX10_happens) (by decide +kernel) (by decide +kernel), v_at 82 (w := Cond.selects yX10_happens.cls yX10_happens yX10_happens) (by decide +kernel) (by decide +kernel)⟩
set_option maxRecDepth 100000 in
theorem y_X10_years : v_YV yX10_years cX10_years 5 (some .int) 2 := ⟨⟨v_at 1560 rfl (by decide +kernel), ini_X10, by decide +kernel⟩, v_at 1558 (w := Cond.instanceMethod yX10_years) (by decide +kernel) (by decide +kernel), v_at 1559 (w := Cond.selects yX10_years.cls yX10_years yX10_years) (by decide +kernel) (by decide +kernel)⟩
set_option maxRecDepth 100000 in
theorem y_X10_of : v_YV yX10_of cX10_of 3 (some .int) 2 := ⟨⟨v_at 1568 rfl (by decide +kernel), ini_X10, by decide +kernel⟩, v_at 1566 (w := Cond.instanceMethod yX10_of) (by decide +kernel) (by decide +kernel), v_at 1567 (w := Cond.selects yX10_of.cls yX10_of yX10_of) (by decide +kernel) (by decide +kernel)⟩
set_option maxRecDepth 100000 in
theorem y_X10_ofTown : v_YV yX10_ofTown cX10_ofTown 2 (some .int) 1 := ⟨⟨v_at 1576 rfl (by decide +kernel), ini_X10, by decide +kernel⟩, v_at 1574 (w := Cond.instanceMethod yX10_ofTown) (by decide +kernel) (by decide +kernel), v_at 1575 (w := Cond.selects yX10_ofTown.cls yX10_ofTown yX10_ofTown) (by decide +kernel) (by decide +kernel)⟩
set_option maxRecDepth 100000 in
theorem y_X10_ofHand : v_YV yX10_ofHand cX10_ofHand 2 (some .int) 1 := ⟨⟨v_at 1580 rfl (by decide +kernel), ini_X10, by decide +kernel⟩, v_at 1578 (w := Cond.instanceMethod yX10_ofHand) (by decide +kernel) (by decide +kernel), v_at 1579 (w := Cond.selects yX10_ofHand.cls yX10_ofHand yX10_ofHand) (by decide +kernel) (by decide +kernel)⟩
set_option maxRecDepth 100000 in
theorem y_X10_moves : v_YV yX10_moves cX10_moves 4 (some .int) 3 := ⟨⟨v_at 1584 rfl (by decide +kernel), ini_X10, by decide +kernel⟩, v_at 1582 (w := Cond.instanceMethod yX10_moves) (by decide +kernel) (by decide +kernel), v_at 1583 (w := Cond.selects yX10_moves.cls yX10_moves yX10_moves) (by decide +kernel) (by decide +kernel)⟩
set_option maxRecDepth 100000 in
theorem y_X10_is : v_YV yX10_is cX10_is 2 (some .int) 1 := ⟨⟨v_at 1588 rfl (by decide +kernel), ini_X10, by decide +kernel⟩, v_at 1586 (w := Cond.instanceMethod yX10_is) (by decide +kernel) (by decide +kernel), v_at 1587 (w := Cond.selects yX10_is.cls yX10_is yX10_is) (by decide +kernel) (by decide +kernel)⟩
set_option maxRecDepth 100000 in
theorem y_X10_entry : v_YV yX10_entry cX10_entry 4 (some .int) 2 := ⟨⟨v_at 1604 rfl (by decide +kernel), ini_X10, by decide +kernel⟩, v_at 1603 (w := Cond.instanceMethod yX10_entry) (by decide +kernel) (by decide +kernel), v_at 86 (w := Cond.selects yX10_entry.cls yX10_entry yX10_entry) (by decide +kernel) (by decide +kernel)⟩
set_option maxRecDepth 100000 in
theorem y_X10_book : v_YV yX10_book cX10_book 3 (some .int) 2 := ⟨⟨v_at 1600 rfl (by decide +kernel), ini_X10, by decide +kernel⟩, v_at 1598 (w := Cond.instanceMethod yX10_book) (by decide +kernel) (by decide +kernel), v_at 1599 (w := Cond.selects yX10_book.cls yX10_book yX10_book) (by decide +kernel) (by decide +kernel)⟩
set_option maxRecDepth 100000 in
theorem y_X10_ledger : v_YV yX10_ledger cX10_ledger 4 (some .int) 1 := ⟨⟨v_at 1608 rfl (by decide +kernel), ini_X10, by decide +kernel⟩, v_at 1606 (w := Cond.instanceMethod yX10_ledger) (by decide +kernel) (by decide +kernel), v_at 1607 (w := Cond.selects yX10_ledger.cls yX10_ledger yX10_ledger) (by decide +kernel) (by decide +kernel)⟩
set_option maxRecDepth 100000 in
theorem y_X10_thin : v_YV yX10_thin cX10_thin 3 (some .int) 0 := ⟨⟨v_at 1612 rfl (by decide +kernel), ini_X10, by decide +kernel⟩, v_at 1610 (w := Cond.instanceMethod yX10_thin) (by decide +kernel) (by decide +kernel), v_at 1611 (w := Cond.selects yX10_thin.cls yX10_thin yX10_thin) (by decide +kernel) (by decide +kernel)⟩
set_option maxRecDepth 100000 in
theorem y_X10_thick : v_YV yX10_thick cX10_thick 3 (some .int) 0 := ⟨⟨v_at 1616 rfl (by decide +kernel), ini_X10, by decide +kernel⟩, v_at 1614 (w := Cond.instanceMethod yX10_thick) (by decide +kernel) (by decide +kernel), v_at 1615 (w := Cond.selects yX10_thick.cls yX10_thick yX10_thick) (by decide +kernel) (by decide +kernel)⟩
set_option maxRecDepth 100000 in
theorem y_X10_fallen : v_YV yX10_fallen cX10_fallen 1 (some .int) 0 := ⟨⟨v_at 1620 rfl (by decide +kernel), ini_X10, by decide +kernel⟩, v_at 1618 (w := Cond.instanceMethod yX10_fallen) (by decide +kernel) (by decide +kernel), v_at 1619 (w := Cond.selects yX10_fallen.cls yX10_fallen yX10_fallen) (by decide +kernel) (by decide +kernel)⟩
set_option maxRecDepth 100000 in
theorem y_X10_apart : v_YV yX10_apart cX10_apart 5 (some .int) 0 := ⟨⟨v_at 1624 rfl (by decide +kernel), ini_X10, by decide +kernel⟩, v_at 1622 (w := Cond.instanceMethod yX10_apart) (by decide +kernel) (by decide +kernel), v_at 1623 (w := Cond.selects yX10_apart.cls yX10_apart yX10_apart) (by decide +kernel) (by decide +kernel)⟩
set_option maxRecDepth 100000 in
theorem y_X10_setAside : v_YV yX10_setAside cX10_setAside 2 (none) 0 := ⟨⟨v_at 1633 rfl (by decide +kernel), ini_X10, by decide +kernel⟩, v_at 1632 (w := Cond.instanceMethod yX10_setAside) (by decide +kernel) (by decide +kernel), v_at 87 (w := Cond.selects yX10_setAside.cls yX10_setAside yX10_setAside) (by decide +kernel) (by decide +kernel)⟩
set_option maxRecDepth 100000 in
theorem y_X10_putBack : v_YV yX10_putBack cX10_putBack 2 (none) 0 := ⟨⟨v_at 1637 rfl (by decide +kernel), ini_X10, by decide +kernel⟩, v_at 1636 (w := Cond.instanceMethod yX10_putBack) (by decide +kernel) (by decide +kernel), v_at 88 (w := Cond.selects yX10_putBack.cls yX10_putBack yX10_putBack) (by decide +kernel) (by decide +kernel)⟩
set_option maxRecDepth 100000 in
theorem y_X10_foretold : v_YV yX10_foretold cX10_foretold 5 (some .int) 3 := ⟨⟨v_at 1629 rfl (by decide +kernel), ini_X10, by decide +kernel⟩, v_at 1627 (w := Cond.instanceMethod yX10_foretold) (by decide +kernel) (by decide +kernel), v_at 1628 (w := Cond.selects yX10_foretold.cls yX10_foretold yX10_foretold) (by decide +kernel) (by decide +kernel)⟩
set_option maxRecDepth 100000 in
theorem y_X10_mostOf : v_YV yX10_mostOf cX10_mostOf 5 (some .int) 2 := ⟨⟨v_at 1645 rfl (by decide +kernel), ini_X10, by decide +kernel⟩, v_at 1644 (w := Cond.instanceMethod yX10_mostOf) (by decide +kernel) (by decide +kernel), v_at 89 (w := Cond.selects yX10_mostOf.cls yX10_mostOf yX10_mostOf) (by decide +kernel) (by decide +kernel)⟩
set_option maxRecDepth 100000 in
theorem y_X10_leastOf : v_YV yX10_leastOf cX10_leastOf 5 (some .int) 2 := ⟨⟨v_at 1653 rfl (by decide +kernel), ini_X10, by decide +kernel⟩, v_at 1652 (w := Cond.instanceMethod yX10_leastOf) (by decide +kernel) (by decide +kernel), v_at 90 (w := Cond.selects yX10_leastOf.cls yX10_leastOf yX10_leastOf) (by decide +kernel) (by decide +kernel)⟩
set_option maxRecDepth 100000 in
theorem y_X10_lake : v_YV yX10_lake cX10_lake 5 (some .int) 0 := ⟨⟨v_at 1641 rfl (by decide +kernel), ini_X10, by decide +kernel⟩, v_at 1639 (w := Cond.instanceMethod yX10_lake) (by decide +kernel) (by decide +kernel), v_at 1640 (w := Cond.selects yX10_lake.cls yX10_lake yX10_lake) (by decide +kernel) (by decide +kernel)⟩
set_option maxRecDepth 100000 in
theorem y_X10_glaze : v_YV yX10_glaze cX10_glaze 7 (some .int) 1 := ⟨⟨v_at 1649 rfl (by decide +kernel), ini_X10, by decide +kernel⟩, v_at 1647 (w := Cond.instanceMethod yX10_glaze) (by decide +kernel) (by decide +kernel), v_at 1648 (w := Cond.selects yX10_glaze.cls yX10_glaze yX10_glaze) (by decide +kernel) (by decide +kernel)⟩
set_option maxRecDepth 100000 in
theorem y_X10_rise : v_YV yX10_rise cX10_rise 6 (some .int) 1 := ⟨⟨v_at 1657 rfl (by decide +kernel), ini_X10, by decide +kernel⟩, v_at 1655 (w := Cond.instanceMethod yX10_rise) (by decide +kernel) (by decide +kernel), v_at 1656 (w := Cond.selects yX10_rise.cls yX10_rise yX10_rise) (by decide +kernel) (by decide +kernel)⟩
set_option maxRecDepth 100000 in
theorem y_X10_folds : v_YV yX10_folds cX10_folds 4 (some .int) 0 := ⟨⟨v_at 1661 rfl (by decide +kernel), ini_X10, by decide +kernel⟩, v_at 1659 (w := Cond.instanceMethod yX10_folds) (by decide +kernel) (by decide +kernel), v_at 1660 (w := Cond.selects yX10_folds.cls yX10_folds yX10_folds) (by decide +kernel) (by decide +kernel)⟩
set_option maxRecDepth 100000 in
theorem y_X10_peaks : v_YV yX10_peaks cX10_peaks 3 (some .int) 0 := ⟨⟨v_at 1665 rfl (by decide +kernel), ini_X10, by decide +kernel⟩, v_at 1663 (w := Cond.instanceMethod yX10_peaks) (by decide +kernel) (by decide +kernel), v_at 1664 (w := Cond.selects yX10_peaks.cls yX10_peaks yX10_peaks) (by decide +kernel) (by decide +kernel)⟩
set_option maxRecDepth 100000 in
theorem y_X10_richest : v_YV yX10_richest cX10_richest 4 (some .int) 1 := ⟨⟨v_at 1669 rfl (by decide +kernel), ini_X10, by decide +kernel⟩, v_at 1667 (w := Cond.instanceMethod yX10_richest) (by decide +kernel) (by decide +kernel), v_at 1668 (w := Cond.selects yX10_richest.cls yX10_richest yX10_richest) (by decide +kernel) (by decide +kernel)⟩
set_option maxRecDepth 100000 in
theorem y_X10_islands : v_YV yX10_islands cX10_islands 4 (some .int) 1 := ⟨⟨v_at 1673 rfl (by decide +kernel), ini_X10, by decide +kernel⟩, v_at 1671 (w := Cond.instanceMethod yX10_islands) (by decide +kernel) (by decide +kernel), v_at 1672 (w := Cond.selects yX10_islands.cls yX10_islands yX10_islands) (by decide +kernel) (by decide +kernel)⟩
set_option maxRecDepth 100000 in
theorem y_X10_sees : v_YV yX10_sees cX10_sees 4 (some .int) 2 := ⟨⟨v_at 1677 rfl (by decide +kernel), ini_X10, by decide +kernel⟩, v_at 1675 (w := Cond.instanceMethod yX10_sees) (by decide +kernel) (by decide +kernel), v_at 1676 (w := Cond.selects yX10_sees.cls yX10_sees yX10_sees) (by decide +kernel) (by decide +kernel)⟩
set_option maxRecDepth 100000 in
theorem y_X10_middle : v_YV yX10_middle cX10_middle 6 (some .int) 1 := ⟨⟨v_at 1681 rfl (by decide +kernel), ini_X10, by decide +kernel⟩, v_at 1679 (w := Cond.instanceMethod yX10_middle) (by decide +kernel) (by decide +kernel), v_at 1680 (w := Cond.selects yX10_middle.cls yX10_middle yX10_middle) (by decide +kernel) (by decide +kernel)⟩
set_option maxRecDepth 100000 in
theorem y_X10_size : v_YS yX10_size cX10_size 1 (some .int) 1 := ⟨⟨v_at 1688 rfl (by decide +kernel), ini_X10, by decide +kernel⟩, v_at 1687 (w := Cond.static yX10_size) (by decide +kernel) (by decide +kernel)⟩
set_option maxRecDepth 100000 in
theorem y_X10_carried : v_YV yX10_carried cX10_carried 4 (some .int) 0 := ⟨⟨v_at 1685 rfl (by decide +kernel), ini_X10, by decide +kernel⟩, v_at 1683 (w := Cond.instanceMethod yX10_carried) (by decide +kernel) (by decide +kernel), v_at 1684 (w := Cond.selects yX10_carried.cls yX10_carried yX10_carried) (by decide +kernel) (by decide +kernel)⟩
set_option maxRecDepth 100000 in
theorem y_X10_level : v_YV yX10_level cX10_level 5 (some .int) 0 := ⟨⟨v_at 1692 rfl (by decide +kernel), ini_X10, by decide +kernel⟩, v_at 1690 (w := Cond.instanceMethod yX10_level) (by decide +kernel) (by decide +kernel), v_at 1691 (w := Cond.selects yX10_level.cls yX10_level yX10_level) (by decide +kernel) (by decide +kernel)⟩
set_option maxRecDepth 100000 in
theorem y_X10_isShared : v_YV yX10_isShared cX10_isShared 8 (some .boolean) 3 := ⟨⟨v_at 1700 rfl (by decide +kernel), ini_X10, by decide +kernel⟩, v_at 1699 (w := Cond.instanceMethod yX10_isShared) (by decide +kernel) (by decide +kernel), v_at 91 (w := Cond.selects yX10_isShared.cls yX10_isShared yX10_isShared) (by decide +kernel) (by decide +kernel)⟩
set_option maxRecDepth 100000 in
theorem y_X10_shared : v_YV yX10_shared cX10_shared 6 (some .int) 2 := ⟨⟨v_at 1696 rfl (by decide +kernel), ini_X10, by decide +kernel⟩, v_at 1694 (w := Cond.instanceMethod yX10_shared) (by decide +kernel) (by decide +kernel), v_at 1695 (w := Cond.selects yX10_shared.cls yX10_shared yX10_shared) (by decide +kernel) (by decide +kernel)⟩
set_option maxRecDepth 100000 in
theorem y_X10_layGames : v_YV yX10_layGames cX10_layGames 6 (none) 0 := ⟨⟨v_at 1711 rfl (by decide +kernel), ini_X10, by decide +kernel⟩, v_at 1710 (w := Cond.instanceMethod yX10_layGames) (by decide +kernel) (by decide +kernel), v_at 92 (w := Cond.selects yX10_layGames.cls yX10_layGames yX10_layGames) (by decide +kernel) (by decide +kernel)⟩
set_option maxRecDepth 100000 in
theorem y_X10_areCells : v_YS yX10_areCells cX10_areCells 2 (some .boolean) 2 := ⟨⟨v_at 1707 rfl (by decide +kernel), ini_X10, by decide +kernel⟩, v_at 1706 (w := Cond.static yX10_areCells) (by decide +kernel) (by decide +kernel)⟩
set_option maxRecDepth 100000 in
theorem y_X10_ends : v_YV yX10_ends cX10_ends 3 (some .int) 2 := ⟨⟨v_at 1704 rfl (by decide +kernel), ini_X10, by decide +kernel⟩, v_at 1702 (w := Cond.instanceMethod yX10_ends) (by decide +kernel) (by decide +kernel), v_at 1703 (w := Cond.selects yX10_ends.cls yX10_ends yX10_ends) (by decide +kernel) (by decide +kernel)⟩
set_option maxRecDepth 100000 in
theorem y_X10_endsFirst : v_YV yX10_endsFirst cX10_endsFirst 3 (some .int) 2 := ⟨⟨v_at 1715 rfl (by decide +kernel), ini_X10, by decide +kernel⟩, v_at 1713 (w := Cond.instanceMethod yX10_endsFirst) (by decide +kernel) (by decide +kernel), v_at 1714 (w := Cond.selects yX10_endsFirst.cls yX10_endsFirst yX10_endsFirst) (by decide +kernel) (by decide +kernel)⟩
set_option maxRecDepth 100000 in
theorem y_X10_patches : v_YV yX10_patches cX10_patches 7 (some .int) 3 := ⟨⟨v_at 1719 rfl (by decide +kernel), ini_X10, by decide +kernel⟩, v_at 1717 (w := Cond.instanceMethod yX10_patches) (by decide +kernel) (by decide +kernel), v_at 1718 (w := Cond.selects yX10_patches.cls yX10_patches yX10_patches) (by decide +kernel) (by decide +kernel)⟩
set_option maxRecDepth 100000 in
theorem y_X10_isStroked : v_YV yX10_isStroked cX10_isStroked 3 (some .boolean) 2 := ⟨⟨v_at 1735 rfl (by decide +kernel), ini_X10, by decide +kernel⟩, v_at 1734 (w := Cond.instanceMethod yX10_isStroked) (by decide +kernel) (by decide +kernel), v_at 95 (w := Cond.selects yX10_isStroked.cls yX10_isStroked yX10_isStroked) (by decide +kernel) (by decide +kernel)⟩
set_option maxRecDepth 100000 in
theorem y_X10_areStroked : v_YV yX10_areStroked cX10_areStroked 6 (some .boolean) 3 := ⟨⟨v_at 1731 rfl (by decide +kernel), ini_X10, by decide +kernel⟩, v_at 1730 (w := Cond.instanceMethod yX10_areStroked) (by decide +kernel) (by decide +kernel), v_at 94 (w := Cond.selects yX10_areStroked.cls yX10_areStroked yX10_areStroked) (by decide +kernel) (by decide +kernel)⟩
set_option maxRecDepth 100000 in
theorem y_X10_isPlan : v_YV yX10_isPlan cX10_isPlan 7 (some .boolean) 4 := ⟨⟨v_at 1727 rfl (by decide +kernel), ini_X10, by decide +kernel⟩, v_at 1726 (w := Cond.instanceMethod yX10_isPlan) (by decide +kernel) (by decide +kernel), v_at 93 (w := Cond.selects yX10_isPlan.cls yX10_isPlan yX10_isPlan) (by decide +kernel) (by decide +kernel)⟩
set_option maxRecDepth 100000 in
theorem y_X10_plan : v_YV yX10_plan cX10_plan 9 (some .int) 3 := ⟨⟨v_at 1723 rfl (by decide +kernel), ini_X10, by decide +kernel⟩, v_at 1721 (w := Cond.instanceMethod yX10_plan) (by decide +kernel) (by decide +kernel), v_at 1722 (w := Cond.selects yX10_plan.cls yX10_plan yX10_plan) (by decide +kernel) (by decide +kernel)⟩
set_option maxRecDepth 100000 in
theorem y_X10_best : v_YV yX10_best cX10_best 7 (some .int) 1 := ⟨⟨v_at 1739 rfl (by decide +kernel), ini_X10, by decide +kernel⟩, v_at 1737 (w := Cond.instanceMethod yX10_best) (by decide +kernel) (by decide +kernel), v_at 1738 (w := Cond.selects yX10_best.cls yX10_best yX10_best) (by decide +kernel) (by decide +kernel)⟩
set_option maxRecDepth 100000 in
theorem y_X10_isMade : v_YV yX10_isMade cX10_isMade 6 (some .boolean) 3 := ⟨⟨v_at 1747 rfl (by decide +kernel), ini_X10, by decide +kernel⟩, v_at 1746 (w := Cond.instanceMethod yX10_isMade) (by decide +kernel) (by decide +kernel), v_at 96 (w := Cond.selects yX10_isMade.cls yX10_isMade yX10_isMade) (by decide +kernel) (by decide +kernel)⟩
set_option maxRecDepth 100000 in
theorem y_X10_which : v_YV yX10_which cX10_which 6 (some .int) 2 := ⟨⟨v_at 1743 rfl (by decide +kernel), ini_X10, by decide +kernel⟩, v_at 1741 (w := Cond.instanceMethod yX10_which) (by decide +kernel) (by decide +kernel), v_at 1742 (w := Cond.selects yX10_which.cls yX10_which yX10_which) (by decide +kernel) (by decide +kernel)⟩
set_option maxRecDepth 100000 in
theorem y_X10_likely : v_YV yX10_likely cX10_likely 8 (some .int) 2 := ⟨⟨v_at 1751 rfl (by decide +kernel), ini_X10, by decide +kernel⟩, v_at 1749 (w := Cond.instanceMethod yX10_likely) (by decide +kernel) (by decide +kernel), v_at 1750 (w := Cond.selects yX10_likely.cls yX10_likely yX10_likely) (by decide +kernel) (by decide +kernel)⟩
set_option maxRecDepth 100000 in
theorem y_X10_said : v_YV yX10_said cX10_said 5 (some .int) 3 := ⟨⟨v_at 1755 rfl (by decide +kernel), ini_X10, by decide +kernel⟩, v_at 1753 (w := Cond.instanceMethod yX10_said) (by decide +kernel) (by decide +kernel), v_at 1754 (w := Cond.selects yX10_said.cls yX10_said yX10_said) (by decide +kernel) (by decide +kernel)⟩
set_option maxRecDepth 100000 in
theorem y_X10_whose : v_YV yX10_whose cX10_whose 5 (some .int) 0 := ⟨⟨v_at 1759 rfl (by decide +kernel), ini_X10, by decide +kernel⟩, v_at 1757 (w := Cond.instanceMethod yX10_whose) (by decide +kernel) (by decide +kernel), v_at 1758 (w := Cond.selects yX10_whose.cls yX10_whose yX10_whose) (by decide +kernel) (by decide +kernel)⟩
set_option maxRecDepth 100000 in
theorem y_X10_image : v_YV yX10_image cX10_image 1 (some .int) 0 := ⟨⟨v_at 1763 rfl (by decide +kernel), ini_X10, by decide +kernel⟩, v_at 1761 (w := Cond.instanceMethod yX10_image) (by decide +kernel) (by decide +kernel), v_at 1762 (w := Cond.selects yX10_image.cls yX10_image yX10_image) (by decide +kernel) (by decide +kernel)⟩
set_option maxRecDepth 100000 in
theorem y_X10_back : v_YV yX10_back cX10_back 1 (some .int) 0 := ⟨⟨v_at 1767 rfl (by decide +kernel), ini_X10, by decide +kernel⟩, v_at 1765 (w := Cond.instanceMethod yX10_back) (by decide +kernel) (by decide +kernel), v_at 1766 (w := Cond.selects yX10_back.cls yX10_back yX10_back) (by decide +kernel) (by decide +kernel)⟩
set_option maxRecDepth 100000 in
theorem y_X10_about : v_YV yX10_about cX10_about 2 (some .int) 1 := ⟨⟨v_at 1771 rfl (by decide +kernel), ini_X10, by decide +kernel⟩, v_at 1769 (w := Cond.instanceMethod yX10_about) (by decide +kernel) (by decide +kernel), v_at 1770 (w := Cond.selects yX10_about.cls yX10_about yX10_about) (by decide +kernel) (by decide +kernel)⟩
set_option maxRecDepth 100000 in
theorem y_J6_bitCount_0f7a4 : v_YS yJ6_bitCount_0f7a4 cJ6_bitCount_0f7a4 1 (some .int) 1 := ⟨⟨v_at 786 rfl (by decide +kernel), ini_Integer, by decide +kernel⟩, v_at 785 (w := Cond.static yJ6_bitCount_0f7a4) (by decide +kernel) (by decide +kernel)⟩
set_option maxRecDepth 100000 in
theorem y_J9_abs_0f7a4 : v_YS yJ9_abs_0f7a4 cJ9_abs_0f7a4 1 (some .int) 1 := ⟨⟨v_at 965 rfl (by decide +kernel), ini_Math, by decide +kernel⟩, v_at 964 (w := Cond.static yJ9_abs_0f7a4) (by decide +kernel) (by decide +kernel)⟩
set_option maxRecDepth 100000 in
theorem y_J9_max_7cf53 : v_YS yJ9_max_7cf53 cJ9_max_7cf53 2 (some .int) 2 := ⟨⟨v_at 549 rfl (by decide +kernel), ini_Math, by decide +kernel⟩, v_at 548 (w := Cond.static yJ9_max_7cf53) (by decide +kernel) (by decide +kernel)⟩
set_option maxRecDepth 100000 in
theorem y_J9_max_f86c9 : v_YS yJ9_max_f86c9 cJ9_max_f86c9 4 (some .long) 2 := ⟨⟨v_at 718 rfl (by decide +kernel), ini_Math, by decide +kernel⟩, v_at 717 (w := Cond.static yJ9_max_f86c9) (by decide +kernel) (by decide +kernel)⟩
set_option maxRecDepth 100000 in
theorem y_J9_min_7cf53 : v_YS yJ9_min_7cf53 cJ9_min_7cf53 2 (some .int) 2 := ⟨⟨v_at 543 rfl (by decide +kernel), ini_Math, by decide +kernel⟩, v_at 542 (w := Cond.static yJ9_min_7cf53) (by decide +kernel) (by decide +kernel)⟩
set_option maxRecDepth 100000 in
theorem y_J9_min_f86c9 : v_YS yJ9_min_f86c9 cJ9_min_f86c9 4 (some .long) 2 := ⟨⟨v_at 715 rfl (by decide +kernel), ini_Math, by decide +kernel⟩, v_at 714 (w := Cond.static yJ9_min_f86c9) (by decide +kernel) (by decide +kernel)⟩
set_option maxRecDepth 100000 in
theorem y_J0_length_8abf5 : v_YV yJ0_length_8abf5 cJ0_length_8abf5 1 (some .int) 0 := ⟨⟨v_at 485 rfl (by decide +kernel), ini_String, by decide +kernel⟩, v_at 483 (w := Cond.instanceMethod yJ0_length_8abf5) (by decide +kernel) (by decide +kernel), v_at 484 (w := Cond.selects yJ0_length_8abf5.cls yJ0_length_8abf5 yJ0_length_8abf5) (by decide +kernel) (by decide +kernel)⟩
set_option maxRecDepth 100000 in
theorem y_J0_charAt_5068e : v_YV yJ0_charAt_5068e cJ0_charAt_5068e 2 (some .char) 1 := ⟨⟨v_at 495 rfl (by decide +kernel), ini_String, by decide +kernel⟩, v_at 493 (w := Cond.instanceMethod yJ0_charAt_5068e) (by decide +kernel) (by decide +kernel), v_at 494 (w := Cond.selects yJ0_charAt_5068e.cls yJ0_charAt_5068e yJ0_charAt_5068e) (by decide +kernel) (by decide +kernel)⟩
set_option maxRecDepth 100000 in
theorem y_J0_coder_7d493 : v_YV yJ0_coder_7d493 cJ0_coder_7d493 1 (some .byte) 0 := ⟨⟨v_at 489 rfl (by decide +kernel), ini_String, by decide +kernel⟩, v_at 487 (w := Cond.instanceMethod yJ0_coder_7d493) (by decide +kernel) (by decide +kernel), v_at 488 (w := Cond.selects yJ0_coder_7d493.cls yJ0_coder_7d493 yJ0_coder_7d493) (by decide +kernel) (by decide +kernel)⟩
set_option maxRecDepth 100000 in
theorem y_J0_isLatin1_aae02 : v_YV yJ0_isLatin1_aae02 cJ0_isLatin1_aae02 1 (some .boolean) 0 := ⟨⟨v_at 499 rfl (by decide +kernel), ini_String, by decide +kernel⟩, v_at 497 (w := Cond.instanceMethod yJ0_isLatin1_aae02) (by decide +kernel) (by decide +kernel), v_at 498 (w := Cond.selects yJ0_isLatin1_aae02.cls yJ0_isLatin1_aae02 yJ0_isLatin1_aae02) (by decide +kernel) (by decide +kernel)⟩
set_option maxRecDepth 100000 in
theorem y_J0_checkIndex_df160 : v_YS yJ0_checkIndex_df160 cJ0_checkIndex_df160 2 (none) 2 := ⟨⟨v_at 505 rfl (by decide +kernel), ini_String, by decide +kernel⟩, v_at 504 (w := Cond.static yJ0_checkIndex_df160) (by decide +kernel) (by decide +kernel)⟩
set_option maxRecDepth 100000 in
theorem y_J1_charAt_3b067 : v_YS yJ1_charAt_3b067 cJ1_charAt_3b067 2 (some .char) 2 := ⟨⟨v_at 502 rfl (by decide +kernel), ini_StringLatin1, by decide +kernel⟩, v_at 501 (w := Cond.static yJ1_charAt_3b067) (by decide +kernel) (by decide +kernel)⟩
set_option maxRecDepth 100000 in
theorem y_J2_getChar_3b067 : v_YS yJ2_getChar_3b067 cJ2_getChar_3b067 2 (some .char) 2 := ⟨⟨v_at 523 rfl (by decide +kernel), ini_StringUTF16, by decide +kernel⟩, v_at 522 (w := Cond.static yJ2_getChar_3b067) (by decide +kernel) (by decide +kernel)⟩
set_option maxRecDepth 100000 in
theorem y_J2_length_9d52b : v_YS yJ2_length_9d52b cJ2_length_9d52b 1 (some .int) 1 := ⟨⟨v_at 519 rfl (by decide +kernel), ini_StringUTF16, by decide +kernel⟩, v_at 518 (w := Cond.static yJ2_length_9d52b) (by decide +kernel) (by decide +kernel)⟩
set_option maxRecDepth 100000 in
theorem y_J2_charAt_3b067 : v_YS yJ2_charAt_3b067 cJ2_charAt_3b067 2 (some .char) 2 := ⟨⟨v_at 513 rfl (by decide +kernel), ini_StringUTF16, by decide +kernel⟩, v_at 512 (w := Cond.static yJ2_charAt_3b067) (by decide +kernel) (by decide +kernel)⟩
set_option maxRecDepth 100000 in
theorem y_J2_checkIndex_2214a : v_YS yJ2_checkIndex_2214a cJ2_checkIndex_2214a 2 (none) 2 := ⟨⟨v_at 516 rfl (by decide +kernel), ini_StringUTF16, by decide +kernel⟩, v_at 515 (w := Cond.static yJ2_checkIndex_2214a) (by decide +kernel) (by decide +kernel)⟩
set_option maxRecDepth 100000 in
theorem y_J7_fill_53178 : v_YS yJ7_fill_53178 cJ7_fill_53178 4 (none) 2 := ⟨⟨v_at 138 rfl (by decide +kernel), ini_Arrays, by decide +kernel⟩, v_at 137 (w := Cond.static yJ7_fill_53178) (by decide +kernel) (by decide +kernel)⟩
set_option maxRecDepth 100000 in
theorem y_J7_copyOf_59c91 : v_YS yJ7_copyOf_59c91 cJ7_copyOf_59c91 3 (some (.array .int)) 2 := ⟨⟨v_at 616 rfl (by decide +kernel), ini_Arrays, by decide +kernel⟩, v_at 615 (w := Cond.static yJ7_copyOf_59c91) (by decide +kernel) (by decide +kernel)⟩
set_option maxRecDepth 100000 in
theorem y_J3_checkIndex_8e157 : v_YS yJ3_checkIndex_8e157 cJ3_checkIndex_8e157 3 (some .int) 3 := ⟨⟨v_at 510 rfl (by decide +kernel), ini_Preconditions, by decide +kernel⟩, v_at 509 (w := Cond.static yJ3_checkIndex_8e157) (by decide +kernel) (by decide +kernel)⟩
