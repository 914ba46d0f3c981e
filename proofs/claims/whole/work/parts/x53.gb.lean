/-! ===== constructors: the trees of new things; what each constructor leaves ===== -/
theorem kz_109 : Cond.initialized "MulePostBishops" ∈ ev_gw := ev_gi (List.mem_of_getElem? (i := 109) (by decide +kernel)) (by decide +kernel)
theorem kz_110 : Cond.initialized "MulePostBishops$Text" ∈ ev_gw := ev_gi (List.mem_of_getElem? (i := 110) (by decide +kernel)) (by decide +kernel)
theorem kz_111 : Cond.initialized "MulePostBishops$Script" ∈ ev_gw := ev_gi (List.mem_of_getElem? (i := 111) (by decide +kernel)) (by decide +kernel)
theorem kz_112 : Cond.initialized "MulePostBishops$Output" ∈ ev_gw := ev_gi (List.mem_of_getElem? (i := 112) (by decide +kernel)) (by decide +kernel)
theorem kz_113 : Cond.initialized "MulePostBishops$Game" ∈ ev_gw := ev_gi (List.mem_of_getElem? (i := 113) (by decide +kernel)) (by decide +kernel)
theorem kz_114 : Cond.initialized "MulePostBishops$Desk" ∈ ev_gw := ev_gi (List.mem_of_getElem? (i := 114) (by decide +kernel)) (by decide +kernel)
theorem kz_115 : Cond.initialized "MulePostBishops$Board" ∈ ev_gw := ev_gi (List.mem_of_getElem? (i := 115) (by decide +kernel)) (by decide +kernel)
theorem kz_116 : Cond.initialized "MulePostBishops$Post" ∈ ev_gw := ev_gi (List.mem_of_getElem? (i := 116) (by decide +kernel)) (by decide +kernel)
theorem kz_117 : Cond.initialized "MulePostBishops$Passes" ∈ ev_gw := ev_gi (List.mem_of_getElem? (i := 117) (by decide +kernel)) (by decide +kernel)
theorem kz_118 : Cond.initialized "MulePostBishops$History" ∈ ev_gw := ev_gi (List.mem_of_getElem? (i := 118) (by decide +kernel)) (by decide +kernel)
theorem kz_126 : Cond.initialized "MulePostBishopsModel" ∈ ev_gw := ev_gi (List.mem_of_getElem? (i := 126) (by decide +kernel)) (by decide +kernel)
theorem kz_137 : Cond.instanceMethod ({ cls := "MulePostBishops", name := "<init>", desc := "()V" } : MethodName) ∈ ev_gw := ev_gi (List.mem_of_getElem? (i := 137) (by decide +kernel)) (by decide +kernel)
theorem kz_138 : Cond.code ({ cls := "MulePostBishops", name := "<init>", desc := "()V" } : MethodName) prog_1_method_1_code 2 (Option.none : Option FieldType) ∈ ev_gw := ev_gi (List.mem_of_getElem? (i := 138) (by decide +kernel)) (by decide +kernel)
theorem kz_139 : Cond.methodLink "MulePostBishops" 3 ({ cls := "java/lang/Object", name := "<init>", desc := "()V" } : MethodName) ∈ ev_gw := ev_gi (List.mem_of_getElem? (i := 139) (by decide +kernel)) (by decide +kernel)
theorem kz_140 : Cond.instanceMethod ({ cls := "java/lang/Object", name := "<init>", desc := "()V" } : MethodName) ∈ ev_gw := ev_gi (List.mem_of_getElem? (i := 140) (by decide +kernel)) (by decide +kernel)
theorem kz_141 : Cond.code ({ cls := "java/lang/Object", name := "<init>", desc := "()V" } : MethodName) object_method_1_code 1 (Option.none : Option FieldType) ∈ ev_gw := ev_gi (List.mem_of_getElem? (i := 141) (by decide +kernel)) (by decide +kernel)
theorem kz_142 : Cond.classLink "MulePostBishops" 9 "MulePostBishops$Text" ∈ ev_gw := ev_gi (List.mem_of_getElem? (i := 142) (by decide +kernel)) (by decide +kernel)
theorem kz_143 : Cond.instantiable "MulePostBishops$Text" 9 ∈ ev_gw := ev_gi (List.mem_of_getElem? (i := 143) (by decide +kernel)) (by decide +kernel)
theorem kz_145 : Cond.instanceMethod ({ cls := "MulePostBishops$Text", name := "<init>", desc := "()V" } : MethodName) ∈ ev_gw := ev_gi (List.mem_of_getElem? (i := 145) (by decide +kernel)) (by decide +kernel)
theorem kz_146 : Cond.code ({ cls := "MulePostBishops$Text", name := "<init>", desc := "()V" } : MethodName) prog_10_method_1_code 1 (Option.none : Option FieldType) ∈ ev_gw := ev_gi (List.mem_of_getElem? (i := 146) (by decide +kernel)) (by decide +kernel)
theorem kz_147 : Cond.methodLink "MulePostBishops$Text" 3 ({ cls := "java/lang/Object", name := "<init>", desc := "()V" } : MethodName) ∈ ev_gw := ev_gi (List.mem_of_getElem? (i := 147) (by decide +kernel)) (by decide +kernel)
theorem kz_148 : Cond.fieldLink "MulePostBishops$Text" 9 "MulePostBishops$Text" "bytes" "[I" ∈ ev_gw := ev_gi (List.mem_of_getElem? (i := 148) (by decide +kernel)) (by decide +kernel)
theorem kz_156 : Cond.fieldLink "MulePostBishops$Text" 15 "MulePostBishops$Text" "errorAt" "I" ∈ ev_gw := ev_gi (List.mem_of_getElem? (i := 156) (by decide +kernel)) (by decide +kernel)
theorem kz_176 : Cond.arrayClass FieldType.int ∈ ev_gw := ev_gi (List.mem_of_getElem? (i := 176) (by decide +kernel)) (by decide +kernel)
theorem kz_177 : Cond.classLink "MulePostBishops" 16 "MulePostBishops$Script" ∈ ev_gw := ev_gi (List.mem_of_getElem? (i := 177) (by decide +kernel)) (by decide +kernel)
theorem kz_178 : Cond.instantiable "MulePostBishops$Script" 8 ∈ ev_gw := ev_gi (List.mem_of_getElem? (i := 178) (by decide +kernel)) (by decide +kernel)
theorem kz_180 : Cond.instanceMethod ({ cls := "MulePostBishops$Script", name := "<init>", desc := "()V" } : MethodName) ∈ ev_gw := ev_gi (List.mem_of_getElem? (i := 180) (by decide +kernel)) (by decide +kernel)
theorem kz_181 : Cond.code ({ cls := "MulePostBishops$Script", name := "<init>", desc := "()V" } : MethodName) prog_9_method_1_code 1 (Option.none : Option FieldType) ∈ ev_gw := ev_gi (List.mem_of_getElem? (i := 181) (by decide +kernel)) (by decide +kernel)
theorem kz_182 : Cond.methodLink "MulePostBishops$Script" 5 ({ cls := "java/lang/Object", name := "<init>", desc := "()V" } : MethodName) ∈ ev_gw := ev_gi (List.mem_of_getElem? (i := 182) (by decide +kernel)) (by decide +kernel)
theorem kz_183 : Cond.fieldLink "MulePostBishops$Script" 11 "MulePostBishops$Script" "commands" "[I" ∈ ev_gw := ev_gi (List.mem_of_getElem? (i := 183) (by decide +kernel)) (by decide +kernel)
theorem kz_184 : Cond.fieldLink "MulePostBishops$Script" 15 "MulePostBishops$Script" "arguments" "[I" ∈ ev_gw := ev_gi (List.mem_of_getElem? (i := 184) (by decide +kernel)) (by decide +kernel)
theorem kz_185 : Cond.fieldLink "MulePostBishops$Script" 18 "MulePostBishops$Script" "partners" "[I" ∈ ev_gw := ev_gi (List.mem_of_getElem? (i := 185) (by decide +kernel)) (by decide +kernel)
theorem kz_186 : Cond.fieldLink "MulePostBishops$Script" 21 "MulePostBishops$Script" "roundsLeft" "[I" ∈ ev_gw := ev_gi (List.mem_of_getElem? (i := 186) (by decide +kernel)) (by decide +kernel)
theorem kz_187 : Cond.fieldLink "MulePostBishops$Script" 24 "MulePostBishops$Script" "open" "[I" ∈ ev_gw := ev_gi (List.mem_of_getElem? (i := 187) (by decide +kernel)) (by decide +kernel)
theorem kz_208 : Cond.classLink "MulePostBishops" 23 "MulePostBishops$Output" ∈ ev_gw := ev_gi (List.mem_of_getElem? (i := 208) (by decide +kernel)) (by decide +kernel)
theorem kz_209 : Cond.instantiable "MulePostBishops$Output" 2 ∈ ev_gw := ev_gi (List.mem_of_getElem? (i := 209) (by decide +kernel)) (by decide +kernel)
theorem kz_211 : Cond.instanceMethod ({ cls := "MulePostBishops$Output", name := "<init>", desc := "()V" } : MethodName) ∈ ev_gw := ev_gi (List.mem_of_getElem? (i := 211) (by decide +kernel)) (by decide +kernel)
theorem kz_212 : Cond.code ({ cls := "MulePostBishops$Output", name := "<init>", desc := "()V" } : MethodName) prog_6_method_1_code 1 (Option.none : Option FieldType) ∈ ev_gw := ev_gi (List.mem_of_getElem? (i := 212) (by decide +kernel)) (by decide +kernel)
theorem kz_213 : Cond.methodLink "MulePostBishops$Output" 3 ({ cls := "java/lang/Object", name := "<init>", desc := "()V" } : MethodName) ∈ ev_gw := ev_gi (List.mem_of_getElem? (i := 213) (by decide +kernel)) (by decide +kernel)
theorem kz_214 : Cond.fieldLink "MulePostBishops$Output" 9 "MulePostBishops$Output" "bytes" "[I" ∈ ev_gw := ev_gi (List.mem_of_getElem? (i := 214) (by decide +kernel)) (by decide +kernel)
theorem kz_221 : Cond.classLink "MulePostBishops" 30 "MulePostBishops$Game" ∈ ev_gw := ev_gi (List.mem_of_getElem? (i := 221) (by decide +kernel)) (by decide +kernel)
theorem kz_222 : Cond.instantiable "MulePostBishops$Game" 6 ∈ ev_gw := ev_gi (List.mem_of_getElem? (i := 222) (by decide +kernel)) (by decide +kernel)
theorem kz_224 : Cond.instanceMethod ({ cls := "MulePostBishops$Game", name := "<init>", desc := "()V" } : MethodName) ∈ ev_gw := ev_gi (List.mem_of_getElem? (i := 224) (by decide +kernel)) (by decide +kernel)
theorem kz_225 : Cond.code ({ cls := "MulePostBishops$Game", name := "<init>", desc := "()V" } : MethodName) prog_4_method_1_code 1 (Option.none : Option FieldType) ∈ ev_gw := ev_gi (List.mem_of_getElem? (i := 225) (by decide +kernel)) (by decide +kernel)
theorem kz_226 : Cond.methodLink "MulePostBishops$Game" 3 ({ cls := "java/lang/Object", name := "<init>", desc := "()V" } : MethodName) ∈ ev_gw := ev_gi (List.mem_of_getElem? (i := 226) (by decide +kernel)) (by decide +kernel)
theorem kz_227 : Cond.classLink "MulePostBishops$Game" 9 "MulePostBishops$Desk" ∈ ev_gw := ev_gi (List.mem_of_getElem? (i := 227) (by decide +kernel)) (by decide +kernel)
theorem kz_228 : Cond.instantiable "MulePostBishops$Desk" 11 ∈ ev_gw := ev_gi (List.mem_of_getElem? (i := 228) (by decide +kernel)) (by decide +kernel)
theorem kz_229 : Cond.methodLink "MulePostBishops$Game" 11 ({ cls := "MulePostBishops$Desk", name := "<init>", desc := "(I)V" } : MethodName) ∈ ev_gw := ev_gi (List.mem_of_getElem? (i := 229) (by decide +kernel)) (by decide +kernel)
theorem kz_230 : Cond.instanceMethod ({ cls := "MulePostBishops$Desk", name := "<init>", desc := "(I)V" } : MethodName) ∈ ev_gw := ev_gi (List.mem_of_getElem? (i := 230) (by decide +kernel)) (by decide +kernel)
theorem kz_231 : Cond.code ({ cls := "MulePostBishops$Desk", name := "<init>", desc := "(I)V" } : MethodName) prog_3_method_1_code 2 (Option.none : Option FieldType) ∈ ev_gw := ev_gi (List.mem_of_getElem? (i := 231) (by decide +kernel)) (by decide +kernel)
theorem kz_232 : Cond.methodLink "MulePostBishops$Desk" 3 ({ cls := "java/lang/Object", name := "<init>", desc := "()V" } : MethodName) ∈ ev_gw := ev_gi (List.mem_of_getElem? (i := 232) (by decide +kernel)) (by decide +kernel)
theorem kz_233 : Cond.classLink "MulePostBishops$Desk" 9 "MulePostBishops$Board" ∈ ev_gw := ev_gi (List.mem_of_getElem? (i := 233) (by decide +kernel)) (by decide +kernel)
theorem kz_234 : Cond.instantiable "MulePostBishops$Board" 9 ∈ ev_gw := ev_gi (List.mem_of_getElem? (i := 234) (by decide +kernel)) (by decide +kernel)
theorem kz_236 : Cond.instanceMethod ({ cls := "MulePostBishops$Board", name := "<init>", desc := "()V" } : MethodName) ∈ ev_gw := ev_gi (List.mem_of_getElem? (i := 236) (by decide +kernel)) (by decide +kernel)
theorem kz_237 : Cond.code ({ cls := "MulePostBishops$Board", name := "<init>", desc := "()V" } : MethodName) prog_2_method_1_code 1 (Option.none : Option FieldType) ∈ ev_gw := ev_gi (List.mem_of_getElem? (i := 237) (by decide +kernel)) (by decide +kernel)
theorem kz_238 : Cond.methodLink "MulePostBishops$Board" 3 ({ cls := "java/lang/Object", name := "<init>", desc := "()V" } : MethodName) ∈ ev_gw := ev_gi (List.mem_of_getElem? (i := 238) (by decide +kernel)) (by decide +kernel)
theorem kz_239 : Cond.fieldLink "MulePostBishops$Board" 9 "MulePostBishops$Board" "owners" "[I" ∈ ev_gw := ev_gi (List.mem_of_getElem? (i := 239) (by decide +kernel)) (by decide +kernel)
theorem kz_240 : Cond.fieldLink "MulePostBishops$Board" 15 "MulePostBishops$Board" "bishops" "[I" ∈ ev_gw := ev_gi (List.mem_of_getElem? (i := 240) (by decide +kernel)) (by decide +kernel)
theorem kz_241 : Cond.fieldLink "MulePostBishops$Board" 18 "MulePostBishops$Board" "moves" "[I" ∈ ev_gw := ev_gi (List.mem_of_getElem? (i := 241) (by decide +kernel)) (by decide +kernel)
theorem kz_242 : Cond.fieldLink "MulePostBishops$Board" 21 "MulePostBishops$Board" "takes" "[I" ∈ ev_gw := ev_gi (List.mem_of_getElem? (i := 242) (by decide +kernel)) (by decide +kernel)
theorem kz_267 : Cond.fieldLink "MulePostBishops$Desk" 28 "MulePostBishops$Desk" "player" "I" ∈ ev_gw := ev_gi (List.mem_of_getElem? (i := 267) (by decide +kernel)) (by decide +kernel)
theorem kz_268 : Cond.fieldLink "MulePostBishops$Desk" 12 "MulePostBishops$Desk" "board" "LMulePostBishops$Board;" ∈ ev_gw := ev_gi (List.mem_of_getElem? (i := 268) (by decide +kernel)) (by decide +kernel)
theorem kz_269 : Cond.fieldLink "MulePostBishops$Desk" 18 "MulePostBishops$Desk" "stored" "[I" ∈ ev_gw := ev_gi (List.mem_of_getElem? (i := 269) (by decide +kernel)) (by decide +kernel)
theorem kz_270 : Cond.fieldLink "MulePostBishops$Desk" 22 "MulePostBishops$Desk" "expected" "[I" ∈ ev_gw := ev_gi (List.mem_of_getElem? (i := 270) (by decide +kernel)) (by decide +kernel)
theorem kz_271 : Cond.fieldLink "MulePostBishops$Desk" 25 "MulePostBishops$Desk" "replies" "[I" ∈ ev_gw := ev_gi (List.mem_of_getElem? (i := 271) (by decide +kernel)) (by decide +kernel)
theorem kz_301 : Cond.classLink "MulePostBishops$Game" 23 "MulePostBishops$Post" ∈ ev_gw := ev_gi (List.mem_of_getElem? (i := 301) (by decide +kernel)) (by decide +kernel)
theorem kz_302 : Cond.instantiable "MulePostBishops$Post" 18 ∈ ev_gw := ev_gi (List.mem_of_getElem? (i := 302) (by decide +kernel)) (by decide +kernel)
theorem kz_304 : Cond.instanceMethod ({ cls := "MulePostBishops$Post", name := "<init>", desc := "()V" } : MethodName) ∈ ev_gw := ev_gi (List.mem_of_getElem? (i := 304) (by decide +kernel)) (by decide +kernel)
theorem kz_305 : Cond.code ({ cls := "MulePostBishops$Post", name := "<init>", desc := "()V" } : MethodName) prog_8_method_1_code 1 (Option.none : Option FieldType) ∈ ev_gw := ev_gi (List.mem_of_getElem? (i := 305) (by decide +kernel)) (by decide +kernel)
theorem kz_306 : Cond.methodLink "MulePostBishops$Post" 3 ({ cls := "java/lang/Object", name := "<init>", desc := "()V" } : MethodName) ∈ ev_gw := ev_gi (List.mem_of_getElem? (i := 306) (by decide +kernel)) (by decide +kernel)
theorem kz_307 : Cond.classLink "MulePostBishops$Post" 9 "MulePostBishops$Passes" ∈ ev_gw := ev_gi (List.mem_of_getElem? (i := 307) (by decide +kernel)) (by decide +kernel)
theorem kz_308 : Cond.instantiable "MulePostBishops$Passes" 5 ∈ ev_gw := ev_gi (List.mem_of_getElem? (i := 308) (by decide +kernel)) (by decide +kernel)
theorem kz_310 : Cond.instanceMethod ({ cls := "MulePostBishops$Passes", name := "<init>", desc := "()V" } : MethodName) ∈ ev_gw := ev_gi (List.mem_of_getElem? (i := 310) (by decide +kernel)) (by decide +kernel)
theorem kz_311 : Cond.code ({ cls := "MulePostBishops$Passes", name := "<init>", desc := "()V" } : MethodName) prog_7_method_1_code 1 (Option.none : Option FieldType) ∈ ev_gw := ev_gi (List.mem_of_getElem? (i := 311) (by decide +kernel)) (by decide +kernel)
theorem kz_312 : Cond.methodLink "MulePostBishops$Passes" 3 ({ cls := "java/lang/Object", name := "<init>", desc := "()V" } : MethodName) ∈ ev_gw := ev_gi (List.mem_of_getElem? (i := 312) (by decide +kernel)) (by decide +kernel)
theorem kz_313 : Cond.fieldLink "MulePostBishops$Passes" 9 "MulePostBishops$Passes" "baseDays" "[I" ∈ ev_gw := ev_gi (List.mem_of_getElem? (i := 313) (by decide +kernel)) (by decide +kernel)
theorem kz_314 : Cond.fieldLink "MulePostBishops$Passes" 15 "MulePostBishops$Passes" "snow" "[I" ∈ ev_gw := ev_gi (List.mem_of_getElem? (i := 314) (by decide +kernel)) (by decide +kernel)
theorem kz_315 : Cond.fieldLink "MulePostBishops$Passes" 18 "MulePostBishops$Passes" "stables" "[I" ∈ ev_gw := ev_gi (List.mem_of_getElem? (i := 315) (by decide +kernel)) (by decide +kernel)
theorem kz_329 : Cond.fieldLink "MulePostBishops$Post" 12 "MulePostBishops$Post" "passes" "LMulePostBishops$Passes;" ∈ ev_gw := ev_gi (List.mem_of_getElem? (i := 329) (by decide +kernel)) (by decide +kernel)
theorem kz_330 : Cond.fieldLink "MulePostBishops$Post" 18 "MulePostBishops$Post" "writers" "[I" ∈ ev_gw := ev_gi (List.mem_of_getElem? (i := 330) (by decide +kernel)) (by decide +kernel)
theorem kz_331 : Cond.fieldLink "MulePostBishops$Post" 22 "MulePostBishops$Post" "numbers" "[I" ∈ ev_gw := ev_gi (List.mem_of_getElem? (i := 331) (by decide +kernel)) (by decide +kernel)
theorem kz_332 : Cond.fieldLink "MulePostBishops$Post" 25 "MulePostBishops$Post" "moves" "[I" ∈ ev_gw := ev_gi (List.mem_of_getElem? (i := 332) (by decide +kernel)) (by decide +kernel)
theorem kz_333 : Cond.fieldLink "MulePostBishops$Post" 28 "MulePostBishops$Post" "expectations" "[I" ∈ ev_gw := ev_gi (List.mem_of_getElem? (i := 333) (by decide +kernel)) (by decide +kernel)
theorem kz_334 : Cond.fieldLink "MulePostBishops$Post" 31 "MulePostBishops$Post" "routes" "[I" ∈ ev_gw := ev_gi (List.mem_of_getElem? (i := 334) (by decide +kernel)) (by decide +kernel)
theorem kz_335 : Cond.fieldLink "MulePostBishops$Post" 34 "MulePostBishops$Post" "states" "[I" ∈ ev_gw := ev_gi (List.mem_of_getElem? (i := 335) (by decide +kernel)) (by decide +kernel)
theorem kz_336 : Cond.fieldLink "MulePostBishops$Post" 37 "MulePostBishops$Post" "daysLeft" "[I" ∈ ev_gw := ev_gi (List.mem_of_getElem? (i := 336) (by decide +kernel)) (by decide +kernel)
theorem kz_337 : Cond.fieldLink "MulePostBishops$Post" 40 "MulePostBishops$Post" "postDays" "[I" ∈ ev_gw := ev_gi (List.mem_of_getElem? (i := 337) (by decide +kernel)) (by decide +kernel)
theorem kz_338 : Cond.fieldLink "MulePostBishops$Post" 43 "MulePostBishops$Post" "arrivalDays" "[I" ∈ ev_gw := ev_gi (List.mem_of_getElem? (i := 338) (by decide +kernel)) (by decide +kernel)
theorem kz_339 : Cond.fieldLink "MulePostBishops$Post" 46 "MulePostBishops$Post" "road" "[I" ∈ ev_gw := ev_gi (List.mem_of_getElem? (i := 339) (by decide +kernel)) (by decide +kernel)
theorem kz_340 : Cond.fieldLink "MulePostBishops$Post" 49 "MulePostBishops$Post" "arrivals" "[I" ∈ ev_gw := ev_gi (List.mem_of_getElem? (i := 340) (by decide +kernel)) (by decide +kernel)
theorem kz_341 : Cond.fieldLink "MulePostBishops$Post" 52 "MulePostBishops$Post" "waiting" "[I" ∈ ev_gw := ev_gi (List.mem_of_getElem? (i := 341) (by decide +kernel)) (by decide +kernel)
theorem kz_384 : Cond.classLink "MulePostBishops$Game" 30 "MulePostBishops$Board" ∈ ev_gw := ev_gi (List.mem_of_getElem? (i := 384) (by decide +kernel)) (by decide +kernel)
theorem kz_386 : Cond.fieldLink "MulePostBishops$Game" 14 "MulePostBishops$Game" "desk0" "LMulePostBishops$Desk;" ∈ ev_gw := ev_gi (List.mem_of_getElem? (i := 386) (by decide +kernel)) (by decide +kernel)
theorem kz_387 : Cond.fieldLink "MulePostBishops$Game" 20 "MulePostBishops$Game" "desk1" "LMulePostBishops$Desk;" ∈ ev_gw := ev_gi (List.mem_of_getElem? (i := 387) (by decide +kernel)) (by decide +kernel)
theorem kz_388 : Cond.fieldLink "MulePostBishops$Game" 26 "MulePostBishops$Game" "post" "LMulePostBishops$Post;" ∈ ev_gw := ev_gi (List.mem_of_getElem? (i := 388) (by decide +kernel)) (by decide +kernel)
theorem kz_389 : Cond.fieldLink "MulePostBishops$Game" 33 "MulePostBishops$Game" "trial" "LMulePostBishops$Board;" ∈ ev_gw := ev_gi (List.mem_of_getElem? (i := 389) (by decide +kernel)) (by decide +kernel)
theorem kz_405 : Cond.classLink "MulePostBishops" 40 "MulePostBishops$History" ∈ ev_gw := ev_gi (List.mem_of_getElem? (i := 405) (by decide +kernel)) (by decide +kernel)
theorem kz_406 : Cond.instantiable "MulePostBishops$History" 3 ∈ ev_gw := ev_gi (List.mem_of_getElem? (i := 406) (by decide +kernel)) (by decide +kernel)
theorem kz_407 : Cond.methodLink "MulePostBishops" 42 ({ cls := "MulePostBishops$History", name := "<init>", desc := "()V" } : MethodName) ∈ ev_gw := ev_gi (List.mem_of_getElem? (i := 407) (by decide +kernel)) (by decide +kernel)
theorem kz_408 : Cond.instanceMethod ({ cls := "MulePostBishops$History", name := "<init>", desc := "()V" } : MethodName) ∈ ev_gw := ev_gi (List.mem_of_getElem? (i := 408) (by decide +kernel)) (by decide +kernel)
theorem kz_409 : Cond.code ({ cls := "MulePostBishops$History", name := "<init>", desc := "()V" } : MethodName) prog_5_method_1_code 2 (Option.none : Option FieldType) ∈ ev_gw := ev_gi (List.mem_of_getElem? (i := 409) (by decide +kernel)) (by decide +kernel)
theorem kz_687 : Cond.fieldLink "MulePostBishops" 12 "MulePostBishops" "text" "LMulePostBishops$Text;" ∈ ev_gw := ev_gi (List.mem_of_getElem? (i := 687) (by decide +kernel)) (by decide +kernel)
theorem kz_688 : Cond.fieldLink "MulePostBishops" 19 "MulePostBishops" "script" "LMulePostBishops$Script;" ∈ ev_gw := ev_gi (List.mem_of_getElem? (i := 688) (by decide +kernel)) (by decide +kernel)
theorem kz_689 : Cond.fieldLink "MulePostBishops" 26 "MulePostBishops" "output" "LMulePostBishops$Output;" ∈ ev_gw := ev_gi (List.mem_of_getElem? (i := 689) (by decide +kernel)) (by decide +kernel)
theorem kz_690 : Cond.fieldLink "MulePostBishops" 33 "MulePostBishops" "game" "LMulePostBishops$Game;" ∈ ev_gw := ev_gi (List.mem_of_getElem? (i := 690) (by decide +kernel)) (by decide +kernel)
theorem kz_691 : Cond.fieldLink "MulePostBishops" 37 "MulePostBishops" "draft" "LMulePostBishops$Game;" ∈ ev_gw := ev_gi (List.mem_of_getElem? (i := 691) (by decide +kernel)) (by decide +kernel)
theorem kz_692 : Cond.fieldLink "MulePostBishops" 43 "MulePostBishops" "history" "LMulePostBishops$History;" ∈ ev_gw := ev_gi (List.mem_of_getElem? (i := 692) (by decide +kernel)) (by decide +kernel)
theorem kz_693 : Cond.fieldLink "MulePostBishops" 47 "MulePostBishops" "slot0" "LMulePostBishops$Game;" ∈ ev_gw := ev_gi (List.mem_of_getElem? (i := 693) (by decide +kernel)) (by decide +kernel)
theorem kz_694 : Cond.fieldLink "MulePostBishops" 50 "MulePostBishops" "slot1" "LMulePostBishops$Game;" ∈ ev_gw := ev_gi (List.mem_of_getElem? (i := 694) (by decide +kernel)) (by decide +kernel)
theorem kz_698 : Cond.fieldLink "MulePostBishops" 53 "MulePostBishops" "lastErrorAt" "I" ∈ ev_gw := ev_gi (List.mem_of_getElem? (i := 698) (by decide +kernel)) (by decide +kernel)
theorem kz_1751 : Cond.instanceMethod ({ cls := "MulePostBishopsModel", name := "<init>", desc := "()V" } : MethodName) ∈ ev_gw := ev_gi (List.mem_of_getElem? (i := 1751) (by decide +kernel)) (by decide +kernel)
theorem kz_1752 : Cond.code ({ cls := "MulePostBishopsModel", name := "<init>", desc := "()V" } : MethodName) prog_12_method_1_code 1 (Option.none : Option FieldType) ∈ ev_gw := ev_gi (List.mem_of_getElem? (i := 1752) (by decide +kernel)) (by decide +kernel)
theorem kz_1753 : Cond.methodLink "MulePostBishopsModel" 1 ({ cls := "java/lang/Object", name := "<init>", desc := "()V" } : MethodName) ∈ ev_gw := ev_gi (List.mem_of_getElem? (i := 1753) (by decide +kernel)) (by decide +kernel)
theorem kz_1853 : Cond.fieldLink "MulePostBishopsModel" 7 "MulePostBishopsModel" "now" "[I" ∈ ev_gw := ev_gi (List.mem_of_getElem? (i := 1853) (by decide +kernel)) (by decide +kernel)
theorem kz_1854 : Cond.fieldLink "MulePostBishopsModel" 13 "MulePostBishopsModel" "aside" "[I" ∈ ev_gw := ev_gi (List.mem_of_getElem? (i := 1854) (by decide +kernel)) (by decide +kernel)
theorem kz_1855 : Cond.fieldLink "MulePostBishopsModel" 16 "MulePostBishopsModel" "reading" "[I" ∈ ev_gw := ev_gi (List.mem_of_getElem? (i := 1855) (by decide +kernel)) (by decide +kernel)
theorem kz_1856 : Cond.fieldLink "MulePostBishopsModel" 19 "MulePostBishopsModel" "past" "[I" ∈ ev_gw := ev_gi (List.mem_of_getElem? (i := 1856) (by decide +kernel)) (by decide +kernel)
theorem kz_1857 : Cond.fieldLink "MulePostBishopsModel" 22 "MulePostBishopsModel" "saved" "[I" ∈ ev_gw := ev_gi (List.mem_of_getElem? (i := 1857) (by decide +kernel)) (by decide +kernel)
theorem kz_1858 : Cond.fieldLink "MulePostBishopsModel" 25 "MulePostBishopsModel" "isSaved" "[Z" ∈ ev_gw := ev_gi (List.mem_of_getElem? (i := 1858) (by decide +kernel)) (by decide +kernel)
theorem kz_1861 : Cond.fieldLink "MulePostBishopsModel" 29 "MulePostBishopsModel" "blank" "I" ∈ ev_gw := ev_gi (List.mem_of_getElem? (i := 1861) (by decide +kernel)) (by decide +kernel)
theorem kz_1862 : Cond.fieldLink "MulePostBishopsModel" 33 "MulePostBishopsModel" "buffer" "[I" ∈ ev_gw := ev_gi (List.mem_of_getElem? (i := 1862) (by decide +kernel)) (by decide +kernel)
theorem kz_1865 : Cond.fieldLink "MulePostBishopsModel" 36 "MulePostBishopsModel" "lastPlace" "I" ∈ ev_gw := ev_gi (List.mem_of_getElem? (i := 1865) (by decide +kernel)) (by decide +kernel)
theorem kz_1872 : Cond.fieldLink "MulePostBishopsModel" 39 "MulePostBishopsModel" "kinds" "[I" ∈ ev_gw := ev_gi (List.mem_of_getElem? (i := 1872) (by decide +kernel)) (by decide +kernel)
theorem kz_1873 : Cond.fieldLink "MulePostBishopsModel" 42 "MulePostBishopsModel" "numbers" "[I" ∈ ev_gw := ev_gi (List.mem_of_getElem? (i := 1873) (by decide +kernel)) (by decide +kernel)
theorem kz_1879 : Cond.fieldLink "MulePostBishopsModel" 45 "MulePostBishopsModel" "out" "[I" ∈ ev_gw := ev_gi (List.mem_of_getElem? (i := 1879) (by decide +kernel)) (by decide +kernel)
theorem kz_1938 : Cond.arrayClass FieldType.boolean ∈ ev_gw := ev_gi (List.mem_of_getElem? (i := 1938) (by decide +kernel)) (by decide +kernel)
def ct_t0 : ct_T := ((0, 0), []) :: ([((19, 64), [])] ++ [((19, 2), [])] ++ [((19, 61), [])] ++ [((19, 61), [])])
def ct_t1 (p : Int32) : ct_T := ((1, 0), [p]) :: (ct_t0 ++ [((19, 61), [])] ++ [((19, 61), [])] ++ [((19, 61), [])])
def ct_t5 : ct_T := ((5, 0), []) :: ([((19, 4), [])] ++ [((19, 48), [])] ++ [((19, 8), [])])
def ct_t6 : ct_T := ((6, 0), []) :: (ct_t5 ++ [((19, 84), [])] ++ [((19, 84), [])] ++ [((19, 84), [])] ++ [((19, 84), [])] ++ [((19, 84), [])] ++ [((19, 84), [])] ++ [((19, 84), [])] ++ [((19, 84), [])] ++ [((19, 84), [])] ++ [((19, 84), [])] ++ [((19, 84), [])] ++ [((19, 8), [])])
def ct_t2 : ct_T := ((2, 0), []) :: ((ct_t1 0) ++ (ct_t1 1) ++ ct_t6 ++ ct_t0)
def ct_t7 : ct_T := ((7, 0), []) :: ([((19, 60), [])] ++ [((19, 360), [])] ++ [((19, 60), [])] ++ [((19, 60), [])] ++ [((19, 2), [])])
def ct_t4 : ct_T := ((4, 0), []) :: ([((19, 400), [])])
def ct_t8 : ct_T := ((8, 0), [0, 0, 0, 0, 0, 0, 0, 0, -1]) :: ([((19, 800), [])])
def ct_t3 : ct_T := ((3, 0), []) :: ((24, 8), []) :: (ct_t2 ++ ct_t2 ++ ct_t2 ++ ct_t2 ++ ct_t2 ++ ct_t2 ++ ct_t2 ++ ct_t2)
theorem ct_l0 : (ct_t0).length = 5 := rfl
theorem ct_l1 (p : Int32) : (ct_t1 p).length = 9 := rfl
theorem ct_l5 : (ct_t5).length = 4 := rfl
theorem ct_l6 : (ct_t6).length = 17 := rfl
theorem ct_l2 : (ct_t2).length = 41 := rfl
theorem ct_l7 : (ct_t7).length = 6 := rfl
theorem ct_l4 : (ct_t4).length = 2 := rfl
theorem ct_l8 : (ct_t8).length = 2 := rfl
theorem ct_l3 : (ct_t3).length = 330 := by decide +kernel
def ct_f0 : List Value := [.null, .null, .null, .null, .int 0, .int 0, .int 0, .int 0, .int 0]
def ct_f1 : List Value := [.int 0, .null, .null, .null, .null, .int 0, .int 0, .int 0, .int 0, .int 0, .int 0]
def ct_f2 : List Value := [.null, .null, .null, .null, .int 0, .int 0]
def ct_f3 : List Value := [.null, .int 0, .int 0]
def ct_f4 : List Value := [.null, .int 0]
def ct_f5 : List Value := [.null, .null, .null, .int 0, .int 0]
def ct_f6 : List Value := [.null, .null, .null, .null, .null, .null, .null, .null, .null, .null, .null, .null, .null, .int 0, .int 0, .int 0, .int 0, .int 0]
def ct_f7 : List Value := [.null, .null, .null, .null, .null, .int 0, .int 0, .int 0]
def ct_f8 : List Value := [.null, .int 0, .int 0, .int 0, .int 0, .int 0, .int 0, .int 0, .int 0]
def ct_f9 : List Value := [.null, .null, .null, .null, .null, .null, .null, .null, .int 0, .int 0, .int 0, .int 0]
def ct_f10 : List Value := [.null, .null, .null, .null, .null, .null, .int 0, .int 0, .int 0, .null, .int 0, .int 0, .int 0, .int 0, .int 0, .int 0, .int 0, .int 0, .int 0, .null, .null, .int 0, .int 0, .int 0, .int 0, .int 0, .null, .int 0]
theorem ct_d0 : ∀ j, j < 9 → defaultValue (tyX0 j) = vp_V ct_f0 j := by decide +kernel
theorem ct_d1 : ∀ j, j < 11 → defaultValue (tyX1 j) = vp_V ct_f1 j := by decide +kernel
theorem ct_d2 : ∀ j, j < 6 → defaultValue (tyX2 j) = vp_V ct_f2 j := by decide +kernel
theorem ct_d3 : ∀ j, j < 3 → defaultValue (tyX3 j) = vp_V ct_f3 j := by decide +kernel
theorem ct_d4 : ∀ j, j < 2 → defaultValue (tyX4 j) = vp_V ct_f4 j := by decide +kernel
theorem ct_d5 : ∀ j, j < 5 → defaultValue (tyX5 j) = vp_V ct_f5 j := by decide +kernel
theorem ct_d6 : ∀ j, j < 18 → defaultValue (tyX6 j) = vp_V ct_f6 j := by decide +kernel
theorem ct_d7 : ∀ j, j < 8 → defaultValue (tyX7 j) = vp_V ct_f7 j := by decide +kernel
theorem ct_d8 : ∀ j, j < 9 → defaultValue (tyX8 j) = vp_V ct_f8 j := by decide +kernel
theorem ct_d9 : ∀ j, j < 12 → defaultValue (tyX9 j) = vp_V ct_f9 j := by decide +kernel
theorem ct_d10 : ∀ j, j < 28 → defaultValue (tyX10 j) = vp_V ct_f10 j := by decide +kernel
theorem ci_0 : ct_Mi m_X0_init 0 := ⟨rfl, rfl, rfl, kz_115, kz_236, kz_237, ⟨by decide, by decide, by decide +kernel⟩, by decide⟩
theorem ci_1 : ct_Mi m_X1_init 1 := ⟨rfl, rfl, rfl, kz_114, kz_230, kz_231, ⟨by decide, by decide, by decide +kernel⟩, by decide⟩
theorem ci_2 : ct_Mi m_X2_init 0 := ⟨rfl, rfl, rfl, kz_113, kz_224, kz_225, ⟨by decide, by decide, by decide +kernel⟩, by decide⟩
theorem ci_3 : ct_Mi m_X3_init 0 := ⟨rfl, rfl, rfl, kz_118, kz_408, kz_409, ⟨by decide, by decide, by decide +kernel⟩, by decide⟩
theorem ci_4 : ct_Mi m_X4_init 0 := ⟨rfl, rfl, rfl, kz_112, kz_211, kz_212, ⟨by decide, by decide, by decide +kernel⟩, by decide⟩
theorem ci_5 : ct_Mi m_X5_init 0 := ⟨rfl, rfl, rfl, kz_117, kz_310, kz_311, ⟨by decide, by decide, by decide +kernel⟩, by decide⟩
theorem ci_6 : ct_Mi m_X6_init 0 := ⟨rfl, rfl, rfl, kz_116, kz_304, kz_305, ⟨by decide, by decide, by decide +kernel⟩, by decide⟩
theorem ci_7 : ct_Mi m_X7_init 0 := ⟨rfl, rfl, rfl, kz_111, kz_180, kz_181, ⟨by decide, by decide, by decide +kernel⟩, by decide⟩
theorem ci_8 : ct_Mi m_X8_init 0 := ⟨rfl, rfl, rfl, kz_110, kz_145, kz_146, ⟨by decide, by decide, by decide +kernel⟩, by decide⟩
theorem ci_9 : ct_Mi m_X9_init 0 := ⟨rfl, rfl, rfl, kz_109, kz_137, kz_138, ⟨by decide, by decide, by decide +kernel⟩, by decide⟩
theorem ci_10 : ct_Mi m_X10_init 0 := ⟨rfl, rfl, rfl, kz_126, kz_1751, kz_1752, ⟨by decide, by decide, by decide +kernel⟩, by decide⟩
