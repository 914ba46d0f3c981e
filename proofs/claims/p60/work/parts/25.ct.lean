/-! ===== constructors: the trees of new things; what each constructor leaves ===== -/
theorem kz_17 : Cond.initialized "MulePostBishops" ∈ ev_gw := ev_gi (List.mem_of_getElem? (i := 17) (by decide +kernel)) (by decide +kernel)
theorem kz_18 : Cond.initialized "MulePostBishops$Text" ∈ ev_gw := ev_gi (List.mem_of_getElem? (i := 18) (by decide +kernel)) (by decide +kernel)
theorem kz_19 : Cond.initialized "MulePostBishops$Script" ∈ ev_gw := ev_gi (List.mem_of_getElem? (i := 19) (by decide +kernel)) (by decide +kernel)
theorem kz_20 : Cond.initialized "MulePostBishops$Output" ∈ ev_gw := ev_gi (List.mem_of_getElem? (i := 20) (by decide +kernel)) (by decide +kernel)
theorem kz_21 : Cond.initialized "MulePostBishops$Game" ∈ ev_gw := ev_gi (List.mem_of_getElem? (i := 21) (by decide +kernel)) (by decide +kernel)
theorem kz_22 : Cond.initialized "MulePostBishops$Desk" ∈ ev_gw := ev_gi (List.mem_of_getElem? (i := 22) (by decide +kernel)) (by decide +kernel)
theorem kz_23 : Cond.initialized "MulePostBishops$Board" ∈ ev_gw := ev_gi (List.mem_of_getElem? (i := 23) (by decide +kernel)) (by decide +kernel)
theorem kz_24 : Cond.initialized "MulePostBishops$Post" ∈ ev_gw := ev_gi (List.mem_of_getElem? (i := 24) (by decide +kernel)) (by decide +kernel)
theorem kz_25 : Cond.initialized "MulePostBishops$Passes" ∈ ev_gw := ev_gi (List.mem_of_getElem? (i := 25) (by decide +kernel)) (by decide +kernel)
theorem kz_26 : Cond.initialized "MulePostBishops$History" ∈ ev_gw := ev_gi (List.mem_of_getElem? (i := 26) (by decide +kernel)) (by decide +kernel)
theorem kz_34 : Cond.initialized "MulePostBishopsLaw$Own" ∈ ev_gw := ev_gi (List.mem_of_getElem? (i := 34) (by decide +kernel)) (by decide +kernel)
theorem kz_35 : Cond.initialized "MulePostBishopsLaw$Board" ∈ ev_gw := ev_gi (List.mem_of_getElem? (i := 35) (by decide +kernel)) (by decide +kernel)
theorem kz_52 : Cond.instanceMethod ({ cls := "MulePostBishops", name := "<init>", desc := "()V" } : MethodName) ∈ ev_gw := ev_gi (List.mem_of_getElem? (i := 52) (by decide +kernel)) (by decide +kernel)
theorem kz_53 : Cond.code ({ cls := "MulePostBishops", name := "<init>", desc := "()V" } : MethodName) prog_1_method_1_code 2 (Option.none : Option FieldType) ∈ ev_gw := ev_gi (List.mem_of_getElem? (i := 53) (by decide +kernel)) (by decide +kernel)
theorem kz_54 : Cond.methodLink "MulePostBishops" 3 ({ cls := "java/lang/Object", name := "<init>", desc := "()V" } : MethodName) ∈ ev_gw := ev_gi (List.mem_of_getElem? (i := 54) (by decide +kernel)) (by decide +kernel)
theorem kz_55 : Cond.instanceMethod ({ cls := "java/lang/Object", name := "<init>", desc := "()V" } : MethodName) ∈ ev_gw := ev_gi (List.mem_of_getElem? (i := 55) (by decide +kernel)) (by decide +kernel)
theorem kz_56 : Cond.code ({ cls := "java/lang/Object", name := "<init>", desc := "()V" } : MethodName) object_method_1_code 1 (Option.none : Option FieldType) ∈ ev_gw := ev_gi (List.mem_of_getElem? (i := 56) (by decide +kernel)) (by decide +kernel)
theorem kz_57 : Cond.classLink "MulePostBishops" 9 "MulePostBishops$Text" ∈ ev_gw := ev_gi (List.mem_of_getElem? (i := 57) (by decide +kernel)) (by decide +kernel)
theorem kz_58 : Cond.instantiable "MulePostBishops$Text" 9 ∈ ev_gw := ev_gi (List.mem_of_getElem? (i := 58) (by decide +kernel)) (by decide +kernel)
theorem kz_60 : Cond.instanceMethod ({ cls := "MulePostBishops$Text", name := "<init>", desc := "()V" } : MethodName) ∈ ev_gw := ev_gi (List.mem_of_getElem? (i := 60) (by decide +kernel)) (by decide +kernel)
theorem kz_61 : Cond.code ({ cls := "MulePostBishops$Text", name := "<init>", desc := "()V" } : MethodName) prog_10_method_1_code 1 (Option.none : Option FieldType) ∈ ev_gw := ev_gi (List.mem_of_getElem? (i := 61) (by decide +kernel)) (by decide +kernel)
theorem kz_62 : Cond.methodLink "MulePostBishops$Text" 3 ({ cls := "java/lang/Object", name := "<init>", desc := "()V" } : MethodName) ∈ ev_gw := ev_gi (List.mem_of_getElem? (i := 62) (by decide +kernel)) (by decide +kernel)
theorem kz_63 : Cond.fieldLink "MulePostBishops$Text" 9 "MulePostBishops$Text" "bytes" "[I" ∈ ev_gw := ev_gi (List.mem_of_getElem? (i := 63) (by decide +kernel)) (by decide +kernel)
theorem kz_71 : Cond.fieldLink "MulePostBishops$Text" 15 "MulePostBishops$Text" "errorAt" "I" ∈ ev_gw := ev_gi (List.mem_of_getElem? (i := 71) (by decide +kernel)) (by decide +kernel)
theorem kz_91 : Cond.arrayClass FieldType.int ∈ ev_gw := ev_gi (List.mem_of_getElem? (i := 91) (by decide +kernel)) (by decide +kernel)
theorem kz_92 : Cond.classLink "MulePostBishops" 16 "MulePostBishops$Script" ∈ ev_gw := ev_gi (List.mem_of_getElem? (i := 92) (by decide +kernel)) (by decide +kernel)
theorem kz_93 : Cond.instantiable "MulePostBishops$Script" 8 ∈ ev_gw := ev_gi (List.mem_of_getElem? (i := 93) (by decide +kernel)) (by decide +kernel)
theorem kz_95 : Cond.instanceMethod ({ cls := "MulePostBishops$Script", name := "<init>", desc := "()V" } : MethodName) ∈ ev_gw := ev_gi (List.mem_of_getElem? (i := 95) (by decide +kernel)) (by decide +kernel)
theorem kz_96 : Cond.code ({ cls := "MulePostBishops$Script", name := "<init>", desc := "()V" } : MethodName) prog_9_method_1_code 1 (Option.none : Option FieldType) ∈ ev_gw := ev_gi (List.mem_of_getElem? (i := 96) (by decide +kernel)) (by decide +kernel)
theorem kz_97 : Cond.methodLink "MulePostBishops$Script" 5 ({ cls := "java/lang/Object", name := "<init>", desc := "()V" } : MethodName) ∈ ev_gw := ev_gi (List.mem_of_getElem? (i := 97) (by decide +kernel)) (by decide +kernel)
theorem kz_98 : Cond.fieldLink "MulePostBishops$Script" 11 "MulePostBishops$Script" "commands" "[I" ∈ ev_gw := ev_gi (List.mem_of_getElem? (i := 98) (by decide +kernel)) (by decide +kernel)
theorem kz_99 : Cond.fieldLink "MulePostBishops$Script" 15 "MulePostBishops$Script" "arguments" "[I" ∈ ev_gw := ev_gi (List.mem_of_getElem? (i := 99) (by decide +kernel)) (by decide +kernel)
theorem kz_100 : Cond.fieldLink "MulePostBishops$Script" 18 "MulePostBishops$Script" "partners" "[I" ∈ ev_gw := ev_gi (List.mem_of_getElem? (i := 100) (by decide +kernel)) (by decide +kernel)
theorem kz_101 : Cond.fieldLink "MulePostBishops$Script" 21 "MulePostBishops$Script" "roundsLeft" "[I" ∈ ev_gw := ev_gi (List.mem_of_getElem? (i := 101) (by decide +kernel)) (by decide +kernel)
theorem kz_102 : Cond.fieldLink "MulePostBishops$Script" 24 "MulePostBishops$Script" "open" "[I" ∈ ev_gw := ev_gi (List.mem_of_getElem? (i := 102) (by decide +kernel)) (by decide +kernel)
theorem kz_120 : Cond.classLink "MulePostBishops" 23 "MulePostBishops$Output" ∈ ev_gw := ev_gi (List.mem_of_getElem? (i := 120) (by decide +kernel)) (by decide +kernel)
theorem kz_121 : Cond.instantiable "MulePostBishops$Output" 2 ∈ ev_gw := ev_gi (List.mem_of_getElem? (i := 121) (by decide +kernel)) (by decide +kernel)
theorem kz_123 : Cond.instanceMethod ({ cls := "MulePostBishops$Output", name := "<init>", desc := "()V" } : MethodName) ∈ ev_gw := ev_gi (List.mem_of_getElem? (i := 123) (by decide +kernel)) (by decide +kernel)
theorem kz_124 : Cond.code ({ cls := "MulePostBishops$Output", name := "<init>", desc := "()V" } : MethodName) prog_6_method_1_code 1 (Option.none : Option FieldType) ∈ ev_gw := ev_gi (List.mem_of_getElem? (i := 124) (by decide +kernel)) (by decide +kernel)
theorem kz_125 : Cond.methodLink "MulePostBishops$Output" 3 ({ cls := "java/lang/Object", name := "<init>", desc := "()V" } : MethodName) ∈ ev_gw := ev_gi (List.mem_of_getElem? (i := 125) (by decide +kernel)) (by decide +kernel)
theorem kz_126 : Cond.fieldLink "MulePostBishops$Output" 9 "MulePostBishops$Output" "bytes" "[I" ∈ ev_gw := ev_gi (List.mem_of_getElem? (i := 126) (by decide +kernel)) (by decide +kernel)
theorem kz_132 : Cond.classLink "MulePostBishops" 30 "MulePostBishops$Game" ∈ ev_gw := ev_gi (List.mem_of_getElem? (i := 132) (by decide +kernel)) (by decide +kernel)
theorem kz_133 : Cond.instantiable "MulePostBishops$Game" 6 ∈ ev_gw := ev_gi (List.mem_of_getElem? (i := 133) (by decide +kernel)) (by decide +kernel)
theorem kz_135 : Cond.instanceMethod ({ cls := "MulePostBishops$Game", name := "<init>", desc := "()V" } : MethodName) ∈ ev_gw := ev_gi (List.mem_of_getElem? (i := 135) (by decide +kernel)) (by decide +kernel)
theorem kz_136 : Cond.code ({ cls := "MulePostBishops$Game", name := "<init>", desc := "()V" } : MethodName) prog_4_method_1_code 1 (Option.none : Option FieldType) ∈ ev_gw := ev_gi (List.mem_of_getElem? (i := 136) (by decide +kernel)) (by decide +kernel)
theorem kz_137 : Cond.methodLink "MulePostBishops$Game" 3 ({ cls := "java/lang/Object", name := "<init>", desc := "()V" } : MethodName) ∈ ev_gw := ev_gi (List.mem_of_getElem? (i := 137) (by decide +kernel)) (by decide +kernel)
theorem kz_138 : Cond.classLink "MulePostBishops$Game" 9 "MulePostBishops$Desk" ∈ ev_gw := ev_gi (List.mem_of_getElem? (i := 138) (by decide +kernel)) (by decide +kernel)
theorem kz_139 : Cond.instantiable "MulePostBishops$Desk" 11 ∈ ev_gw := ev_gi (List.mem_of_getElem? (i := 139) (by decide +kernel)) (by decide +kernel)
theorem kz_140 : Cond.methodLink "MulePostBishops$Game" 11 ({ cls := "MulePostBishops$Desk", name := "<init>", desc := "(I)V" } : MethodName) ∈ ev_gw := ev_gi (List.mem_of_getElem? (i := 140) (by decide +kernel)) (by decide +kernel)
theorem kz_141 : Cond.instanceMethod ({ cls := "MulePostBishops$Desk", name := "<init>", desc := "(I)V" } : MethodName) ∈ ev_gw := ev_gi (List.mem_of_getElem? (i := 141) (by decide +kernel)) (by decide +kernel)
theorem kz_142 : Cond.code ({ cls := "MulePostBishops$Desk", name := "<init>", desc := "(I)V" } : MethodName) prog_3_method_1_code 2 (Option.none : Option FieldType) ∈ ev_gw := ev_gi (List.mem_of_getElem? (i := 142) (by decide +kernel)) (by decide +kernel)
theorem kz_143 : Cond.methodLink "MulePostBishops$Desk" 3 ({ cls := "java/lang/Object", name := "<init>", desc := "()V" } : MethodName) ∈ ev_gw := ev_gi (List.mem_of_getElem? (i := 143) (by decide +kernel)) (by decide +kernel)
theorem kz_144 : Cond.classLink "MulePostBishops$Desk" 9 "MulePostBishops$Board" ∈ ev_gw := ev_gi (List.mem_of_getElem? (i := 144) (by decide +kernel)) (by decide +kernel)
theorem kz_145 : Cond.instantiable "MulePostBishops$Board" 9 ∈ ev_gw := ev_gi (List.mem_of_getElem? (i := 145) (by decide +kernel)) (by decide +kernel)
theorem kz_147 : Cond.instanceMethod ({ cls := "MulePostBishops$Board", name := "<init>", desc := "()V" } : MethodName) ∈ ev_gw := ev_gi (List.mem_of_getElem? (i := 147) (by decide +kernel)) (by decide +kernel)
theorem kz_148 : Cond.code ({ cls := "MulePostBishops$Board", name := "<init>", desc := "()V" } : MethodName) prog_2_method_1_code 1 (Option.none : Option FieldType) ∈ ev_gw := ev_gi (List.mem_of_getElem? (i := 148) (by decide +kernel)) (by decide +kernel)
theorem kz_149 : Cond.methodLink "MulePostBishops$Board" 3 ({ cls := "java/lang/Object", name := "<init>", desc := "()V" } : MethodName) ∈ ev_gw := ev_gi (List.mem_of_getElem? (i := 149) (by decide +kernel)) (by decide +kernel)
theorem kz_150 : Cond.fieldLink "MulePostBishops$Board" 9 "MulePostBishops$Board" "owners" "[I" ∈ ev_gw := ev_gi (List.mem_of_getElem? (i := 150) (by decide +kernel)) (by decide +kernel)
theorem kz_151 : Cond.fieldLink "MulePostBishops$Board" 15 "MulePostBishops$Board" "bishops" "[I" ∈ ev_gw := ev_gi (List.mem_of_getElem? (i := 151) (by decide +kernel)) (by decide +kernel)
theorem kz_152 : Cond.fieldLink "MulePostBishops$Board" 18 "MulePostBishops$Board" "moves" "[I" ∈ ev_gw := ev_gi (List.mem_of_getElem? (i := 152) (by decide +kernel)) (by decide +kernel)
theorem kz_153 : Cond.fieldLink "MulePostBishops$Board" 21 "MulePostBishops$Board" "takes" "[I" ∈ ev_gw := ev_gi (List.mem_of_getElem? (i := 153) (by decide +kernel)) (by decide +kernel)
theorem kz_178 : Cond.fieldLink "MulePostBishops$Desk" 28 "MulePostBishops$Desk" "player" "I" ∈ ev_gw := ev_gi (List.mem_of_getElem? (i := 178) (by decide +kernel)) (by decide +kernel)
theorem kz_179 : Cond.fieldLink "MulePostBishops$Desk" 12 "MulePostBishops$Desk" "board" "LMulePostBishops$Board;" ∈ ev_gw := ev_gi (List.mem_of_getElem? (i := 179) (by decide +kernel)) (by decide +kernel)
theorem kz_180 : Cond.fieldLink "MulePostBishops$Desk" 18 "MulePostBishops$Desk" "stored" "[I" ∈ ev_gw := ev_gi (List.mem_of_getElem? (i := 180) (by decide +kernel)) (by decide +kernel)
theorem kz_181 : Cond.fieldLink "MulePostBishops$Desk" 22 "MulePostBishops$Desk" "expected" "[I" ∈ ev_gw := ev_gi (List.mem_of_getElem? (i := 181) (by decide +kernel)) (by decide +kernel)
theorem kz_182 : Cond.fieldLink "MulePostBishops$Desk" 25 "MulePostBishops$Desk" "replies" "[I" ∈ ev_gw := ev_gi (List.mem_of_getElem? (i := 182) (by decide +kernel)) (by decide +kernel)
theorem kz_212 : Cond.classLink "MulePostBishops$Game" 23 "MulePostBishops$Post" ∈ ev_gw := ev_gi (List.mem_of_getElem? (i := 212) (by decide +kernel)) (by decide +kernel)
theorem kz_213 : Cond.instantiable "MulePostBishops$Post" 18 ∈ ev_gw := ev_gi (List.mem_of_getElem? (i := 213) (by decide +kernel)) (by decide +kernel)
theorem kz_215 : Cond.instanceMethod ({ cls := "MulePostBishops$Post", name := "<init>", desc := "()V" } : MethodName) ∈ ev_gw := ev_gi (List.mem_of_getElem? (i := 215) (by decide +kernel)) (by decide +kernel)
theorem kz_216 : Cond.code ({ cls := "MulePostBishops$Post", name := "<init>", desc := "()V" } : MethodName) prog_8_method_1_code 1 (Option.none : Option FieldType) ∈ ev_gw := ev_gi (List.mem_of_getElem? (i := 216) (by decide +kernel)) (by decide +kernel)
theorem kz_217 : Cond.methodLink "MulePostBishops$Post" 3 ({ cls := "java/lang/Object", name := "<init>", desc := "()V" } : MethodName) ∈ ev_gw := ev_gi (List.mem_of_getElem? (i := 217) (by decide +kernel)) (by decide +kernel)
theorem kz_218 : Cond.classLink "MulePostBishops$Post" 9 "MulePostBishops$Passes" ∈ ev_gw := ev_gi (List.mem_of_getElem? (i := 218) (by decide +kernel)) (by decide +kernel)
theorem kz_219 : Cond.instantiable "MulePostBishops$Passes" 5 ∈ ev_gw := ev_gi (List.mem_of_getElem? (i := 219) (by decide +kernel)) (by decide +kernel)
theorem kz_221 : Cond.instanceMethod ({ cls := "MulePostBishops$Passes", name := "<init>", desc := "()V" } : MethodName) ∈ ev_gw := ev_gi (List.mem_of_getElem? (i := 221) (by decide +kernel)) (by decide +kernel)
theorem kz_222 : Cond.code ({ cls := "MulePostBishops$Passes", name := "<init>", desc := "()V" } : MethodName) prog_7_method_1_code 1 (Option.none : Option FieldType) ∈ ev_gw := ev_gi (List.mem_of_getElem? (i := 222) (by decide +kernel)) (by decide +kernel)
theorem kz_223 : Cond.methodLink "MulePostBishops$Passes" 3 ({ cls := "java/lang/Object", name := "<init>", desc := "()V" } : MethodName) ∈ ev_gw := ev_gi (List.mem_of_getElem? (i := 223) (by decide +kernel)) (by decide +kernel)
theorem kz_224 : Cond.fieldLink "MulePostBishops$Passes" 9 "MulePostBishops$Passes" "baseDays" "[I" ∈ ev_gw := ev_gi (List.mem_of_getElem? (i := 224) (by decide +kernel)) (by decide +kernel)
theorem kz_225 : Cond.fieldLink "MulePostBishops$Passes" 15 "MulePostBishops$Passes" "snow" "[I" ∈ ev_gw := ev_gi (List.mem_of_getElem? (i := 225) (by decide +kernel)) (by decide +kernel)
theorem kz_226 : Cond.fieldLink "MulePostBishops$Passes" 18 "MulePostBishops$Passes" "stables" "[I" ∈ ev_gw := ev_gi (List.mem_of_getElem? (i := 226) (by decide +kernel)) (by decide +kernel)
theorem kz_240 : Cond.fieldLink "MulePostBishops$Post" 12 "MulePostBishops$Post" "passes" "LMulePostBishops$Passes;" ∈ ev_gw := ev_gi (List.mem_of_getElem? (i := 240) (by decide +kernel)) (by decide +kernel)
theorem kz_241 : Cond.fieldLink "MulePostBishops$Post" 18 "MulePostBishops$Post" "writers" "[I" ∈ ev_gw := ev_gi (List.mem_of_getElem? (i := 241) (by decide +kernel)) (by decide +kernel)
theorem kz_242 : Cond.fieldLink "MulePostBishops$Post" 22 "MulePostBishops$Post" "numbers" "[I" ∈ ev_gw := ev_gi (List.mem_of_getElem? (i := 242) (by decide +kernel)) (by decide +kernel)
theorem kz_243 : Cond.fieldLink "MulePostBishops$Post" 25 "MulePostBishops$Post" "moves" "[I" ∈ ev_gw := ev_gi (List.mem_of_getElem? (i := 243) (by decide +kernel)) (by decide +kernel)
theorem kz_244 : Cond.fieldLink "MulePostBishops$Post" 28 "MulePostBishops$Post" "expectations" "[I" ∈ ev_gw := ev_gi (List.mem_of_getElem? (i := 244) (by decide +kernel)) (by decide +kernel)
theorem kz_245 : Cond.fieldLink "MulePostBishops$Post" 31 "MulePostBishops$Post" "routes" "[I" ∈ ev_gw := ev_gi (List.mem_of_getElem? (i := 245) (by decide +kernel)) (by decide +kernel)
theorem kz_246 : Cond.fieldLink "MulePostBishops$Post" 34 "MulePostBishops$Post" "states" "[I" ∈ ev_gw := ev_gi (List.mem_of_getElem? (i := 246) (by decide +kernel)) (by decide +kernel)
theorem kz_247 : Cond.fieldLink "MulePostBishops$Post" 37 "MulePostBishops$Post" "daysLeft" "[I" ∈ ev_gw := ev_gi (List.mem_of_getElem? (i := 247) (by decide +kernel)) (by decide +kernel)
theorem kz_248 : Cond.fieldLink "MulePostBishops$Post" 40 "MulePostBishops$Post" "postDays" "[I" ∈ ev_gw := ev_gi (List.mem_of_getElem? (i := 248) (by decide +kernel)) (by decide +kernel)
theorem kz_249 : Cond.fieldLink "MulePostBishops$Post" 43 "MulePostBishops$Post" "arrivalDays" "[I" ∈ ev_gw := ev_gi (List.mem_of_getElem? (i := 249) (by decide +kernel)) (by decide +kernel)
theorem kz_250 : Cond.fieldLink "MulePostBishops$Post" 46 "MulePostBishops$Post" "road" "[I" ∈ ev_gw := ev_gi (List.mem_of_getElem? (i := 250) (by decide +kernel)) (by decide +kernel)
theorem kz_251 : Cond.fieldLink "MulePostBishops$Post" 49 "MulePostBishops$Post" "arrivals" "[I" ∈ ev_gw := ev_gi (List.mem_of_getElem? (i := 251) (by decide +kernel)) (by decide +kernel)
theorem kz_252 : Cond.fieldLink "MulePostBishops$Post" 52 "MulePostBishops$Post" "waiting" "[I" ∈ ev_gw := ev_gi (List.mem_of_getElem? (i := 252) (by decide +kernel)) (by decide +kernel)
theorem kz_295 : Cond.classLink "MulePostBishops$Game" 30 "MulePostBishops$Board" ∈ ev_gw := ev_gi (List.mem_of_getElem? (i := 295) (by decide +kernel)) (by decide +kernel)
theorem kz_297 : Cond.fieldLink "MulePostBishops$Game" 14 "MulePostBishops$Game" "desk0" "LMulePostBishops$Desk;" ∈ ev_gw := ev_gi (List.mem_of_getElem? (i := 297) (by decide +kernel)) (by decide +kernel)
theorem kz_298 : Cond.fieldLink "MulePostBishops$Game" 20 "MulePostBishops$Game" "desk1" "LMulePostBishops$Desk;" ∈ ev_gw := ev_gi (List.mem_of_getElem? (i := 298) (by decide +kernel)) (by decide +kernel)
theorem kz_299 : Cond.fieldLink "MulePostBishops$Game" 26 "MulePostBishops$Game" "post" "LMulePostBishops$Post;" ∈ ev_gw := ev_gi (List.mem_of_getElem? (i := 299) (by decide +kernel)) (by decide +kernel)
theorem kz_300 : Cond.fieldLink "MulePostBishops$Game" 33 "MulePostBishops$Game" "trial" "LMulePostBishops$Board;" ∈ ev_gw := ev_gi (List.mem_of_getElem? (i := 300) (by decide +kernel)) (by decide +kernel)
theorem kz_316 : Cond.classLink "MulePostBishops" 40 "MulePostBishops$History" ∈ ev_gw := ev_gi (List.mem_of_getElem? (i := 316) (by decide +kernel)) (by decide +kernel)
theorem kz_317 : Cond.instantiable "MulePostBishops$History" 3 ∈ ev_gw := ev_gi (List.mem_of_getElem? (i := 317) (by decide +kernel)) (by decide +kernel)
theorem kz_318 : Cond.methodLink "MulePostBishops" 42 ({ cls := "MulePostBishops$History", name := "<init>", desc := "()V" } : MethodName) ∈ ev_gw := ev_gi (List.mem_of_getElem? (i := 318) (by decide +kernel)) (by decide +kernel)
theorem kz_319 : Cond.instanceMethod ({ cls := "MulePostBishops$History", name := "<init>", desc := "()V" } : MethodName) ∈ ev_gw := ev_gi (List.mem_of_getElem? (i := 319) (by decide +kernel)) (by decide +kernel)
theorem kz_320 : Cond.code ({ cls := "MulePostBishops$History", name := "<init>", desc := "()V" } : MethodName) prog_5_method_1_code 2 (Option.none : Option FieldType) ∈ ev_gw := ev_gi (List.mem_of_getElem? (i := 320) (by decide +kernel)) (by decide +kernel)
theorem kz_598 : Cond.fieldLink "MulePostBishops" 12 "MulePostBishops" "text" "LMulePostBishops$Text;" ∈ ev_gw := ev_gi (List.mem_of_getElem? (i := 598) (by decide +kernel)) (by decide +kernel)
theorem kz_599 : Cond.fieldLink "MulePostBishops" 19 "MulePostBishops" "script" "LMulePostBishops$Script;" ∈ ev_gw := ev_gi (List.mem_of_getElem? (i := 599) (by decide +kernel)) (by decide +kernel)
theorem kz_600 : Cond.fieldLink "MulePostBishops" 26 "MulePostBishops" "output" "LMulePostBishops$Output;" ∈ ev_gw := ev_gi (List.mem_of_getElem? (i := 600) (by decide +kernel)) (by decide +kernel)
theorem kz_601 : Cond.fieldLink "MulePostBishops" 33 "MulePostBishops" "game" "LMulePostBishops$Game;" ∈ ev_gw := ev_gi (List.mem_of_getElem? (i := 601) (by decide +kernel)) (by decide +kernel)
theorem kz_602 : Cond.fieldLink "MulePostBishops" 37 "MulePostBishops" "draft" "LMulePostBishops$Game;" ∈ ev_gw := ev_gi (List.mem_of_getElem? (i := 602) (by decide +kernel)) (by decide +kernel)
theorem kz_603 : Cond.fieldLink "MulePostBishops" 43 "MulePostBishops" "history" "LMulePostBishops$History;" ∈ ev_gw := ev_gi (List.mem_of_getElem? (i := 603) (by decide +kernel)) (by decide +kernel)
theorem kz_604 : Cond.fieldLink "MulePostBishops" 47 "MulePostBishops" "slot0" "LMulePostBishops$Game;" ∈ ev_gw := ev_gi (List.mem_of_getElem? (i := 604) (by decide +kernel)) (by decide +kernel)
theorem kz_605 : Cond.fieldLink "MulePostBishops" 50 "MulePostBishops" "slot1" "LMulePostBishops$Game;" ∈ ev_gw := ev_gi (List.mem_of_getElem? (i := 605) (by decide +kernel)) (by decide +kernel)
theorem kz_609 : Cond.fieldLink "MulePostBishops" 53 "MulePostBishops" "lastErrorAt" "I" ∈ ev_gw := ev_gi (List.mem_of_getElem? (i := 609) (by decide +kernel)) (by decide +kernel)
theorem kz_728 : Cond.instanceMethod ({ cls := "MulePostBishopsLaw$Own", name := "<init>", desc := "()V" } : MethodName) ∈ ev_gw := ev_gi (List.mem_of_getElem? (i := 728) (by decide +kernel)) (by decide +kernel)
theorem kz_729 : Cond.code ({ cls := "MulePostBishopsLaw$Own", name := "<init>", desc := "()V" } : MethodName) prog_13_method_1_code 1 (Option.none : Option FieldType) ∈ ev_gw := ev_gi (List.mem_of_getElem? (i := 729) (by decide +kernel)) (by decide +kernel)
theorem kz_735 : Cond.instanceMethod ({ cls := "MulePostBishopsLaw$Board", name := "<init>", desc := "()V" } : MethodName) ∈ ev_gw := ev_gi (List.mem_of_getElem? (i := 735) (by decide +kernel)) (by decide +kernel)
theorem kz_736 : Cond.code ({ cls := "MulePostBishopsLaw$Board", name := "<init>", desc := "()V" } : MethodName) prog_12_method_1_code 1 (Option.none : Option FieldType) ∈ ev_gw := ev_gi (List.mem_of_getElem? (i := 736) (by decide +kernel)) (by decide +kernel)
theorem kz_737 : Cond.methodLink "MulePostBishopsLaw$Board" 1 ({ cls := "java/lang/Object", name := "<init>", desc := "()V" } : MethodName) ∈ ev_gw := ev_gi (List.mem_of_getElem? (i := 737) (by decide +kernel)) (by decide +kernel)
theorem kz_738 : Cond.fieldLink "MulePostBishopsLaw$Board" 7 "MulePostBishopsLaw$Board" "owner" "[I" ∈ ev_gw := ev_gi (List.mem_of_getElem? (i := 738) (by decide +kernel)) (by decide +kernel)
theorem kz_741 : Cond.fieldLink "MulePostBishopsLaw$Board" 13 "MulePostBishopsLaw$Board" "from" "[I" ∈ ev_gw := ev_gi (List.mem_of_getElem? (i := 741) (by decide +kernel)) (by decide +kernel)
theorem kz_744 : Cond.fieldLink "MulePostBishopsLaw$Board" 16 "MulePostBishopsLaw$Board" "to" "[I" ∈ ev_gw := ev_gi (List.mem_of_getElem? (i := 744) (by decide +kernel)) (by decide +kernel)
theorem kz_747 : Cond.fieldLink "MulePostBishopsLaw$Board" 19 "MulePostBishopsLaw$Board" "storedFrom" "[I" ∈ ev_gw := ev_gi (List.mem_of_getElem? (i := 747) (by decide +kernel)) (by decide +kernel)
theorem kz_750 : Cond.fieldLink "MulePostBishopsLaw$Board" 22 "MulePostBishopsLaw$Board" "storedTo" "[I" ∈ ev_gw := ev_gi (List.mem_of_getElem? (i := 750) (by decide +kernel)) (by decide +kernel)
theorem kz_752 : Cond.fieldLink "MulePostBishopsLaw$Board" 25 "MulePostBishopsLaw$Board" "isCapture" "[Z" ∈ ev_gw := ev_gi (List.mem_of_getElem? (i := 752) (by decide +kernel)) (by decide +kernel)
theorem kz_757 : Cond.fieldLink "MulePostBishopsLaw$Board" 29 "MulePostBishopsLaw$Board" "lastOwn" "I" ∈ ev_gw := ev_gi (List.mem_of_getElem? (i := 757) (by decide +kernel)) (by decide +kernel)
theorem kz_796 : Cond.arrayClass FieldType.boolean ∈ ev_gw := ev_gi (List.mem_of_getElem? (i := 796) (by decide +kernel)) (by decide +kernel)
theorem kz_820 : Cond.fieldLink "MulePostBishopsLaw$Own" 16 "MulePostBishopsLaw$Own" "base" "[I" ∈ ev_gw := ev_gi (List.mem_of_getElem? (i := 820) (by decide +kernel)) (by decide +kernel)
theorem kz_822 : Cond.fieldLink "MulePostBishopsLaw$Own" 20 "MulePostBishopsLaw$Own" "stable" "[I" ∈ ev_gw := ev_gi (List.mem_of_getElem? (i := 822) (by decide +kernel)) (by decide +kernel)
theorem kz_824 : Cond.fieldLink "MulePostBishopsLaw$Own" 23 "MulePostBishopsLaw$Own" "snow" "[I" ∈ ev_gw := ev_gi (List.mem_of_getElem? (i := 824) (by decide +kernel)) (by decide +kernel)
theorem kz_826 : Cond.fieldLink "MulePostBishopsLaw$Own" 26 "MulePostBishopsLaw$Own" "by" "[I" ∈ ev_gw := ev_gi (List.mem_of_getElem? (i := 826) (by decide +kernel)) (by decide +kernel)
theorem kz_828 : Cond.fieldLink "MulePostBishopsLaw$Own" 29 "MulePostBishopsLaw$Own" "over" "[I" ∈ ev_gw := ev_gi (List.mem_of_getElem? (i := 828) (by decide +kernel)) (by decide +kernel)
theorem kz_829 : Cond.fieldLink "MulePostBishopsLaw$Own" 32 "MulePostBishopsLaw$Own" "number" "[I" ∈ ev_gw := ev_gi (List.mem_of_getElem? (i := 829) (by decide +kernel)) (by decide +kernel)
theorem kz_831 : Cond.fieldLink "MulePostBishopsLaw$Own" 35 "MulePostBishopsLaw$Own" "from" "[I" ∈ ev_gw := ev_gi (List.mem_of_getElem? (i := 831) (by decide +kernel)) (by decide +kernel)
theorem kz_833 : Cond.fieldLink "MulePostBishopsLaw$Own" 38 "MulePostBishopsLaw$Own" "to" "[I" ∈ ev_gw := ev_gi (List.mem_of_getElem? (i := 833) (by decide +kernel)) (by decide +kernel)
theorem kz_835 : Cond.fieldLink "MulePostBishopsLaw$Own" 41 "MulePostBishopsLaw$Own" "state" "[I" ∈ ev_gw := ev_gi (List.mem_of_getElem? (i := 835) (by decide +kernel)) (by decide +kernel)
theorem kz_837 : Cond.fieldLink "MulePostBishopsLaw$Own" 44 "MulePostBishopsLaw$Own" "posted" "[I" ∈ ev_gw := ev_gi (List.mem_of_getElem? (i := 837) (by decide +kernel)) (by decide +kernel)
theorem kz_838 : Cond.fieldLink "MulePostBishopsLaw$Own" 47 "MulePostBishopsLaw$Own" "left" "[I" ∈ ev_gw := ev_gi (List.mem_of_getElem? (i := 838) (by decide +kernel)) (by decide +kernel)
theorem kz_839 : Cond.fieldLink "MulePostBishopsLaw$Own" 50 "MulePostBishopsLaw$Own" "remains" "[I" ∈ ev_gw := ev_gi (List.mem_of_getElem? (i := 839) (by decide +kernel)) (by decide +kernel)
theorem kz_840 : Cond.fieldLink "MulePostBishopsLaw$Own" 53 "MulePostBishopsLaw$Own" "came" "[I" ∈ ev_gw := ev_gi (List.mem_of_getElem? (i := 840) (by decide +kernel)) (by decide +kernel)
theorem kz_841 : Cond.fieldLink "MulePostBishopsLaw$Own" 56 "MulePostBishopsLaw$Own" "isPromise" "[Z" ∈ ev_gw := ev_gi (List.mem_of_getElem? (i := 841) (by decide +kernel)) (by decide +kernel)
theorem kz_843 : Cond.fieldLink "MulePostBishopsLaw$Own" 60 "MulePostBishopsLaw$Own" "isWritten" "[Z" ∈ ev_gw := ev_gi (List.mem_of_getElem? (i := 843) (by decide +kernel)) (by decide +kernel)
theorem kz_845 : Cond.fieldLink "MulePostBishopsLaw$Own" 63 "MulePostBishopsLaw$Own" "isKnown" "[Z" ∈ ev_gw := ev_gi (List.mem_of_getElem? (i := 845) (by decide +kernel)) (by decide +kernel)
theorem kz_846 : Cond.fieldLink "MulePostBishopsLaw$Own" 66 "MulePostBishopsLaw$Own" "expectFrom" "[I" ∈ ev_gw := ev_gi (List.mem_of_getElem? (i := 846) (by decide +kernel)) (by decide +kernel)
theorem kz_848 : Cond.fieldLink "MulePostBishopsLaw$Own" 69 "MulePostBishopsLaw$Own" "expectTo" "[I" ∈ ev_gw := ev_gi (List.mem_of_getElem? (i := 848) (by decide +kernel)) (by decide +kernel)
theorem kz_850 : Cond.fieldLink "MulePostBishopsLaw$Own" 72 "MulePostBishopsLaw$Own" "replyFrom" "[I" ∈ ev_gw := ev_gi (List.mem_of_getElem? (i := 850) (by decide +kernel)) (by decide +kernel)
theorem kz_852 : Cond.fieldLink "MulePostBishopsLaw$Own" 75 "MulePostBishopsLaw$Own" "replyTo" "[I" ∈ ev_gw := ev_gi (List.mem_of_getElem? (i := 852) (by decide +kernel)) (by decide +kernel)
theorem kz_854 : Cond.fieldLink "MulePostBishopsLaw$Own" 78 "MulePostBishopsLaw$Own" "silent" "I" ∈ ev_gw := ev_gi (List.mem_of_getElem? (i := 854) (by decide +kernel)) (by decide +kernel)
def ct_t0 : ct_T := ((0, 0), []) :: ([((19, 64), [])] ++ [((19, 2), [])] ++ [((19, 61), [])] ++ [((19, 61), [])])
def ct_t1 (p : Int32) : ct_T := ((1, 0), [p]) :: (ct_t0 ++ [((19, 61), [])] ++ [((19, 61), [])] ++ [((19, 61), [])])
def ct_t5 : ct_T := ((5, 0), []) :: ([((19, 4), [])] ++ [((19, 48), [])] ++ [((19, 8), [])])
def ct_t6 : ct_T := ((6, 0), []) :: (ct_t5 ++ [((19, 84), [])] ++ [((19, 84), [])] ++ [((19, 84), [])] ++ [((19, 84), [])] ++ [((19, 84), [])] ++ [((19, 84), [])] ++ [((19, 84), [])] ++ [((19, 84), [])] ++ [((19, 84), [])] ++ [((19, 84), [])] ++ [((19, 84), [])] ++ [((19, 8), [])])
def ct_t2 : ct_T := ((2, 0), []) :: ((ct_t1 0) ++ (ct_t1 1) ++ ct_t6 ++ ct_t0)
def ct_t7 : ct_T := ((7, 0), []) :: ([((19, 60), [])] ++ [((19, 360), [])] ++ [((19, 60), [])] ++ [((19, 60), [])] ++ [((19, 2), [])])
def ct_t4 : ct_T := ((4, 0), []) :: ([((19, 400), [])])
def ct_t8 : ct_T := ((8, 0), [0, 0, 0, 0, 0, 0, 0, 0, -1]) :: ([((19, 800), [])])
def ct_t10 : ct_T := ((10, 0), [0, 0, 0, 0, 0, 0, 0, -1]) :: ([((19, 64), [])] ++ [((19, 61), [])] ++ [((19, 61), [])] ++ [((19, 61), [])] ++ [((19, 61), [])] ++ [((20, 61), [])])
def ct_t11 : ct_T := ((11, 0), [0, 0, 0, 0, 0, 0, 0, 0, 0, 0, 0, 0, 0, 0, 0, 0, 0, 0, 0, 0, 0, 0, 0, 0, 0, 0, 0, 0, 0, 0, 0, 0, -1]) :: ([((26, 2), [])] ++ ct_t10 ++ ct_t10 ++ [((19, 4), [])] ++ [((19, 8), [])] ++ [((19, 48), [])] ++ [((19, 81), [])] ++ [((19, 81), [])] ++ [((19, 81), [])] ++ [((19, 81), [])] ++ [((19, 81), [])] ++ [((19, 81), [])] ++ [((19, 81), [])] ++ [((19, 81), [])] ++ [((19, 81), [])] ++ [((19, 81), [])] ++ [((20, 81), [])] ++ [((20, 64), [])] ++ [((20, 64), [])] ++ [((19, 64), [])] ++ [((19, 64), [])] ++ [((19, 64), [])] ++ [((19, 64), [])])
def ct_t3 : ct_T := ((3, 0), []) :: ((24, 8), []) :: (ct_t2 ++ ct_t2 ++ ct_t2 ++ ct_t2 ++ ct_t2 ++ ct_t2 ++ ct_t2 ++ ct_t2)
theorem ct_l0 : (ct_t0).length = 5 := rfl
theorem ct_l1 (p : Int32) : (ct_t1 p).length = 9 := rfl
theorem ct_l5 : (ct_t5).length = 4 := rfl
theorem ct_l6 : (ct_t6).length = 17 := rfl
theorem ct_l2 : (ct_t2).length = 41 := rfl
theorem ct_l7 : (ct_t7).length = 6 := rfl
theorem ct_l4 : (ct_t4).length = 2 := rfl
theorem ct_l8 : (ct_t8).length = 2 := rfl
theorem ct_l3 : (ct_t3).length = 330 := by decide +kernel
theorem ct_l10 : (ct_t10).length = 7 := rfl
theorem ct_l11 : (ct_t11).length = 36 := by decide +kernel
def ct_f0 : List Value := [.null, .null, .null, .null, .int 0, .int 0, .int 0, .int 0, .int 0]
def ct_f1 : List Value := [.int 0, .null, .null, .null, .null, .int 0, .int 0, .int 0, .int 0, .int 0, .int 0]
def ct_f2 : List Value := [.null, .null, .null, .null, .int 0, .int 0]
def ct_f3 : List Value := [.null, .int 0, .int 0]
def ct_f4 : List Value := [.null, .int 0]
def ct_f5 : List Value := [.null, .null, .null, .int 0, .int 0]
def ct_f6 : List Value := [.null, .null, .null, .null, .null, .null, .null, .null, .null, .null, .null, .null, .null, .int 0, .int 0, .int 0, .int 0, .int 0]
def ct_f7 : List Value := [.null, .null, .null, .null, .null, .int 0, .int 0, .int 0]
def ct_f8 : List Value := [.null, .int 0, .int 0, .int 0, .int 0, .int 0, .int 0, .int 0, .int 0]
def ct_f9 : List Value := [.null, .null, .null, .null, .null, .null, .null, .null, .int 0, .int 0, .int 0, .int 0]
def ct_f10 : List Value := [.null, .null, .null, .null, .null, .null, .int 0, .int 0, .int 0, .int 0, .int 0, .int 0]
def ct_f11 : List Value := [.int 0, .int 0, .int 0, .int 0, .int 0, .int 0, .int 0, .int 0, .int 0, .int 0, .int 0, .null, .null, .null, .null, .null, .null, .null, .null, .null, .null, .null, .null, .null, .null, .null, .null, .null, .null, .null, .null, .null, .int 0, .int 0]
theorem ct_d0 : ∀ j, j < 9 → defaultValue (tyX0 j) = vp_V ct_f0 j := by decide +kernel
theorem ct_d1 : ∀ j, j < 11 → defaultValue (tyX1 j) = vp_V ct_f1 j := by decide +kernel
theorem ct_d2 : ∀ j, j < 6 → defaultValue (tyX2 j) = vp_V ct_f2 j := by decide +kernel
theorem ct_d3 : ∀ j, j < 3 → defaultValue (tyX3 j) = vp_V ct_f3 j := by decide +kernel
theorem ct_d4 : ∀ j, j < 2 → defaultValue (tyX4 j) = vp_V ct_f4 j := by decide +kernel
theorem ct_d5 : ∀ j, j < 5 → defaultValue (tyX5 j) = vp_V ct_f5 j := by decide +kernel
theorem ct_d6 : ∀ j, j < 18 → defaultValue (tyX6 j) = vp_V ct_f6 j := by decide +kernel
theorem ct_d7 : ∀ j, j < 8 → defaultValue (tyX7 j) = vp_V ct_f7 j := by decide +kernel
theorem ct_d8 : ∀ j, j < 9 → defaultValue (tyX8 j) = vp_V ct_f8 j := by decide +kernel
theorem ct_d9 : ∀ j, j < 12 → defaultValue (tyX9 j) = vp_V ct_f9 j := by decide +kernel
theorem ct_d10 : ∀ j, j < 12 → defaultValue (tyX10 j) = vp_V ct_f10 j := by decide +kernel
theorem ct_d11 : ∀ j, j < 34 → defaultValue (tyX11 j) = vp_V ct_f11 j := by decide +kernel
theorem ci_0 : ct_Mi m_X0_init 0 := ⟨rfl, rfl, rfl, kz_23, kz_147, kz_148, ⟨by decide, by decide, by decide +kernel⟩, by decide⟩
theorem ci_1 : ct_Mi m_X1_init 1 := ⟨rfl, rfl, rfl, kz_22, kz_141, kz_142, ⟨by decide, by decide, by decide +kernel⟩, by decide⟩
theorem ci_2 : ct_Mi m_X2_init 0 := ⟨rfl, rfl, rfl, kz_21, kz_135, kz_136, ⟨by decide, by decide, by decide +kernel⟩, by decide⟩
theorem ci_3 : ct_Mi m_X3_init 0 := ⟨rfl, rfl, rfl, kz_26, kz_319, kz_320, ⟨by decide, by decide, by decide +kernel⟩, by decide⟩
theorem ci_4 : ct_Mi m_X4_init 0 := ⟨rfl, rfl, rfl, kz_20, kz_123, kz_124, ⟨by decide, by decide, by decide +kernel⟩, by decide⟩
theorem ci_5 : ct_Mi m_X5_init 0 := ⟨rfl, rfl, rfl, kz_25, kz_221, kz_222, ⟨by decide, by decide, by decide +kernel⟩, by decide⟩
theorem ci_6 : ct_Mi m_X6_init 0 := ⟨rfl, rfl, rfl, kz_24, kz_215, kz_216, ⟨by decide, by decide, by decide +kernel⟩, by decide⟩
theorem ci_7 : ct_Mi m_X7_init 0 := ⟨rfl, rfl, rfl, kz_19, kz_95, kz_96, ⟨by decide, by decide, by decide +kernel⟩, by decide⟩
theorem ci_8 : ct_Mi m_X8_init 0 := ⟨rfl, rfl, rfl, kz_18, kz_60, kz_61, ⟨by decide, by decide, by decide +kernel⟩, by decide⟩
theorem ci_9 : ct_Mi m_X9_init 0 := ⟨rfl, rfl, rfl, kz_17, kz_52, kz_53, ⟨by decide, by decide, by decide +kernel⟩, by decide⟩
theorem ci_10 : ct_Mi m_X10_init 0 := ⟨rfl, rfl, rfl, kz_35, kz_735, kz_736, ⟨by decide, by decide, by decide +kernel⟩, by decide⟩
theorem ci_11 : ct_Mi m_X11_init 0 := ⟨rfl, rfl, rfl, kz_34, kz_728, kz_729, ⟨by decide, by decide, by decide +kernel⟩, by decide⟩
