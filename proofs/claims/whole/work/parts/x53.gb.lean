/-! ===== constructors: the trees of new things; what each constructor leaves ===== -/
theorem kz_109 : Cond.initialized "MulePostBishops" ∈ ev_gw := ev_gi (List.mem_of_getElem? (i := 109) (by decide +kernel)) (by decide +kernel)
theorem kz_110 : Cond.initialized "MulePostBishops$Text" ∈ ev_gw := ev_gi (List.mem_of_getElem? (i := 110) (by decide +kernel)) (by decide +kernel)
theorem kz_111 : Cond.initialized "MulePostBishops$Script" ∈ ev_gw := ev_gi (List.mem_of_getElem? (i := 111) (by decide +kernel)) (by decide +kernel)
theorem kz_112 : Cond.initialized "MulePostBishops$Output" ∈ ev_gw := ev_gi (List.mem_of_getElem? (i := 112) (by decide +kernel)) (by decide +kernel)
theorem kz_113 : Cond.initialized "MulePostBishops$Game" ∈ ev_gw := ev_gi (List.mem_of_getElem? (i := 113) (by decide +kernel)) (by decide +kernel)
theorem kz_114 : Cond.initialized "MulePostBishops$Desk" ∈ ev_gw := ev_gi (List.mem_of_getElem? (i := 114) (by decide +kernel)) (by decide +kernel)
theorem kz_115 : Cond.initialized "MulePostBishops$Board" ∈ ev_gw := ev_gi (List.mem_of_getElem? (i := 115) (by decide +kernel)) (by decide +kernel)
theorem kz_116 : Cond.initialized "MulePostBishops$Post" ∈ ev_gw := ev_gi (List.mem_of_getElem? (i := 116) (by decide +kernel)) (by decide +kernel)
theorem kz_117 : Cond.initialized "MulePostBishops$Passes" ∈ ev_gw := ev_gi (List.mem_of_getElem? (i := 117) (by decide +kernel)) (by decide +kernel)
theorem kz_118 : Cond.initialized "MulePostBishops$History" ∈ ev_gw := ev_gi (List.mem_of_getElem? (i := 118) (by decide +kernel)) (by decide +kernel)
theorem kz_126 : Cond.initialized "MulePostBishopsModel" ∈ ev_gw := ev_gi (List.mem_of_getElem? (i := 126) (by decide +kernel)) (by decide +kernel)
theorem kz_137 : Cond.instanceMethod ({ cls := "MulePostBishops", name := "<init>", desc := "()V" } : MethodName) ∈ ev_gw := ev_gi (List.mem_of_getElem? (i := 137) (by decide +kernel)) (by decide +kernel)
theorem kz_138 : Cond.code ({ cls := "MulePostBishops", name := "<init>", desc := "()V" } : MethodName) prog_1_method_1_code 2 (Option.none : Option FieldType) ∈ ev_gw := ev_gi (List.mem_of_getElem? (i := 138) (by decide +kernel)) (by decide +kernel)
theorem kz_139 : Cond.methodLink "MulePostBishops" 3 ({ cls := "java/lang/Object", name := "<init>", desc := "()V" } : MethodName) ∈ ev_gw := ev_gi (List.mem_of_getElem? (i := 139) (by decide +kernel)) (by decide +kernel)
theorem kz_140 : Cond.instanceMethod ({ cls := "java/lang/Object", name := "<init>", desc := "()V" } : MethodName) ∈ ev_gw := ev_gi (List.mem_of_getElem? (i := 140) (by decide +kernel)) (by decide +kernel)
theorem kz_141 : Cond.code ({ cls := "java/lang/Object", name := "<init>", desc := "()V" } : MethodName) object_method_1_code 1 (Option.none : Option FieldType) ∈ ev_gw := ev_gi (List.mem_of_getElem? (i := 141) (by decide +kernel)) (by decide +kernel)
theorem kz_142 : Cond.classLink "MulePostBishops" 9 "MulePostBishops$Text" ∈ ev_gw := ev_gi (List.mem_of_getElem? (i := 142) (by decide +kernel)) (by decide +kernel)
theorem kz_143 : Cond.instantiable "MulePostBishops$Text" 9 ∈ ev_gw := ev_gi (List.mem_of_getElem? (i := 143) (by decide +kernel)) (by decide +kernel)
theorem kz_145 : Cond.instanceMethod ({ cls := "MulePostBishops$Text", name := "<init>", desc := "()V" } : MethodName) ∈ ev_gw := ev_gi (List.mem_of_getElem? (i := 145) (by decide +kernel)) (by decide +kernel)
theorem kz_146 : Cond.code ({ cls := "MulePostBishops$Text", name := "<init>", desc := "()V" } : MethodName) prog_10_method_1_code 1 (Option.none : Option FieldType) ∈ ev_gw := ev_gi (List.mem_of_getElem? (i := 146) (by decide +kernel)) (by decide +kernel)
theorem kz_147 : Cond.methodLink "MulePostBishops$Text" 3 ({ cls := "java/lang/Object", name := "<init>", desc := "()V" } : MethodName) ∈ ev_gw := ev_gi (List.mem_of_getElem? (i := 147) (by decide +kernel)) (by decide +kernel)
theorem kz_148 : Cond.fieldLink "MulePostBishops$Text" 9 "MulePostBishops$Text" "bytes" "[I" ∈ ev_gw := ev_gi (List.mem_of_getElem? (i := 148) (by decide +kernel)) (by decide +kernel)
theorem kz_156 : Cond.fieldLink "MulePostBishops$Text" 15 "MulePostBishops$Text" "errorAt" "I" ∈ ev_gw := ev_gi (List.mem_of_getElem? (i := 156) (by decide +kernel)) (by decide +kernel)
theorem kz_176 : Cond.arrayClass FieldType.int ∈ ev_gw := ev_gi (List.mem_of_getElem? (i := 176) (by decide +kernel)) (by decide +kernel)
theorem kz_177 : Cond.classLink "MulePostBishops" 16 "MulePostBishops$Script" ∈ ev_gw := ev_gi (List.mem_of_getElem? (i := 177) (by decide +kernel)) (by decide +kernel)
theorem kz_178 : Cond.instantiable "MulePostBishops$Script" 8 ∈ ev_gw := ev_gi (List.mem_of_getElem? (i := 178) (by decide +kernel)) (by decide +kernel)
theorem kz_180 : Cond.instanceMethod ({ cls := "MulePostBishops$Script", name := "<init>", desc := "()V" } : MethodName) ∈ ev_gw := ev_gi (List.mem_of_getElem? (i := 180) (by decide +kernel)) (by decide +kernel)
theorem kz_181 : Cond.code ({ cls := "MulePostBishops$Script", name := "<init>", desc := "()V" } : MethodName) prog_9_method_1_code 1 (Option.none : Option FieldType) ∈ ev_gw := ev_gi (List.mem_of_getElem? (i := 181) (by decide +kernel)) (by decide +kernel)
theorem kz_182 : Cond.methodLink "MulePostBishops$Script" 5 ({ cls := "java/lang/Object", name := "<init>", desc := "()V" } : MethodName) ∈ ev_gw := ev_gi (List.mem_of_getElem? (i := 182) (by decide +kernel)) (by decide +kernel)
theorem kz_183 : Cond.fieldLink "MulePostBishops$Script" 11 "MulePostBishops$Script" "commands" "[I" ∈ ev_gw := ev_gi (List.mem_of_getElem? (i := 183) (by decide +kernel)) (by decide +kernel)
theorem kz_184 : Cond.fieldLink "MulePostBishops$Script" 15 "MulePostBishops$Script" "arguments" "[I" ∈ ev_gw := ev_gi (List.mem_of_getElem? (i := 184) (by decide +kernel)) (by decide +kernel)
theorem kz_185 : Cond.fieldLink "MulePostBishops$Script" 18 "MulePostBishops$Script" "partners" "[I" ∈ ev_gw := ev_gi (List.mem_of_getElem? (i := 185) (by decide +kernel)) (by decide +kernel)
theorem kz_186 : Cond.fieldLink "MulePostBishops$Script" 21 "MulePostBishops$Script" "roundsLeft" "[I" ∈ ev_gw := ev_gi (List.mem_of_getElem? (i := 186) (by decide +kernel)) (by decide +kernel)
theorem kz_187 : Cond.fieldLink "MulePostBishops$Script" 24 "MulePostBishops$Script" "open" "[I" ∈ ev_gw := ev_gi (List.mem_of_getElem? (i := 187) (by decide +kernel)) (by decide +kernel)
theorem kz_208 : Cond.classLink "MulePostBishops" 23 "MulePostBishops$Output" ∈ ev_gw := ev_gi (List.mem_of_getElem? (i := 208) (by decide +kernel)) (by decide +kernel)
theorem kz_209 : Cond.instantiable "MulePostBishops$Output" 2 ∈ ev_gw := ev_gi (List.mem_of_getElem? (i := 209) (by decide +kernel)) (by decide +kernel)
theorem kz_211 : Cond.instanceMethod ({ cls := "MulePostBishops$Output", name := "<init>", desc := "()V" } : MethodName) ∈ ev_gw := ev_gi (List.mem_of_getElem? (i := 211) (by decide +kernel)) (by decide +kernel)
theorem kz_212 : Cond.code ({ cls := "MulePostBishops$Output", name := "<init>", desc := "()V" } : MethodName) prog_6_method_1_code 1 (Option.none : Option FieldType) ∈ ev_gw := ev_gi (List.mem_of_getElem? (i := 212) (by decide +kernel)) (by decide +kernel)
theorem kz_213 : Cond.methodLink "MulePostBishops$Output" 3 ({ cls := "java/lang/Object", name := "<init>", desc := "()V" } : MethodName) ∈ ev_gw := ev_gi (List.mem_of_getElem? (i := 213) (by decide +kernel)) (by decide +kernel)
theorem kz_214 : Cond.fieldLink "MulePostBishops$Output" 9 "MulePostBishops$Output" "bytes" "[I" ∈ ev_gw := ev_gi (List.mem_of_getElem? (i := 214) (by decide +kernel)) (by decide +kernel)
theorem kz_221 : Cond.classLink "MulePostBishops" 30 "MulePostBishops$Game" ∈ ev_gw := ev_gi (List.mem_of_getElem? (i := 221) (by decide +kernel)) (by decide +kernel)
theorem kz_222 : Cond.instantiable "MulePostBishops$Game" 6 ∈ ev_gw := ev_gi (List.mem_of_getElem? (i := 222) (by decide +kernel)) (by decide +kernel)
theorem kz_224 : Cond.instanceMethod ({ cls := "MulePostBishops$Game", name := "<init>", desc := "()V" } : MethodName) ∈ ev_gw := ev_gi (List.mem_of_getElem? (i := 224) (by decide +kernel)) (by decide +kernel)
theorem kz_225 : Cond.code ({ cls := "MulePostBishops$Game", name := "<init>", desc := "()V" } : MethodName) prog_4_method_1_code 1 (Option.none : Option FieldType) ∈ ev_gw := ev_gi (List.mem_of_getElem? (i := 225) (by decide +kernel)) (by decide +kernel)
theorem kz_226 : Cond.methodLink "MulePostBishops$Game" 3 ({ cls := "java/lang/Object", name := "<init>", desc := "()V" } : MethodName) ∈ ev_gw := ev_gi (List.mem_of_getElem? (i := 226) (by decide +kernel)) (by decide +kernel)
theorem kz_227 : Cond.classLink "MulePostBishops$Game" 9 "MulePostBishops$Desk" ∈ ev_gw := ev_gi (List.mem_of_getElem? (i := 227) (by decide +kernel)) (by decide +kernel)
theorem kz_228 : Cond.instantiable "MulePostBishops$Desk" 11 ∈ ev_gw := ev_gi (List.mem_of_getElem? (i := 228) (by decide +kernel)) (by decide +kernel)
theorem kz_229 : Cond.methodLink "MulePostBishops$Game" 11 ({ cls := "MulePostBishops$Desk", name := "<init>", desc := "(I)V" } : MethodName) ∈ ev_gw := ev_gi (List.mem_of_getElem? (i := 229) (by decide +kernel)) (by decide +kernel)
theorem kz_230 : Cond.instanceMethod ({ cls := "MulePostBishops$Desk", name := "<init>", desc := "(I)V" } : MethodName) ∈ ev_gw := ev_gi (List.mem_of_getElem? (i := 230) (by decide +kernel)) (by decide +kernel)
theorem kz_231 : Cond.code ({ cls := "MulePostBishops$Desk", name := "<init>", desc := "(I)V" } : MethodName) prog_3_method_1_code 2 (Option.none : Option FieldType) ∈ ev_gw := ev_gi (List.mem_of_getElem? (i := 231) (by decide +kernel)) (by decide +kernel)
theorem kz_232 : Cond.methodLink "MulePostBishops$Desk" 3 ({ cls := "java/lang/Object", name := "<init>", desc := "()V" } : MethodName) ∈ ev_gw := ev_gi (List.mem_of_getElem? (i := 232) (by decide +kernel)) (by decide +kernel)
theorem kz_233 : Cond.classLink "MulePostBishops$Desk" 9 "MulePostBishops$Board" ∈ ev_gw := ev_gi (List.mem_of_getElem? (i := 233) (by decide +kernel)) (by decide +kernel)
theorem kz_234 : Cond.instantiable "MulePostBishops$Board" 9 ∈ ev_gw := ev_gi (List.mem_of_getElem? (i := 234) (by decide +kernel)) (by decide +kernel)
theorem kz_236 : Cond.instanceMethod ({ cls := "MulePostBishops$Board", name := "<init>", desc := "()V" } : MethodName) ∈ ev_gw := ev_gi (List.mem_of_getElem? (i := 236) (by decide +kernel)) (by decide +kernel)
theorem kz_237 : Cond.code ({ cls := "MulePostBishops$Board", name := "<init>", desc := "()V" } : MethodName) prog_2_method_1_code 1 (Option.none : Option FieldType) ∈ ev_gw := ev_gi (List.mem_of_getElem? (i := 237) (by decide +kernel)) (by decide +kernel)
theorem kz_238 : Cond.methodLink "MulePostBishops$Board" 3 ({ cls := "java/lang/Object", name := "<init>", desc := "()V" } : MethodName) ∈ ev_gw := ev_gi (List.mem_of_getElem? (i := 238) (by decide +kernel)) (by decide +kernel)
theorem kz_239 : Cond.fieldLink "MulePostBishops$Board" 9 "MulePostBishops$Board" "owners" "[I" ∈ ev_gw := ev_gi (List.mem_of_getElem? (i := 239) (by decide +kernel)) (by decide +kernel)
theorem kz_240 : Cond.fieldLink "MulePostBishops$Board" 15 "MulePostBishops$Board" "bishops" "[I" ∈ ev_gw := ev_gi (List.mem_of_getElem? (i := 240) (by decide +kernel)) (by decide +kernel)
theorem kz_241 : Cond.fieldLink "MulePostBishops$Board" 18 "MulePostBishops$Board" "moves" "[I" ∈ ev_gw := ev_gi (List.mem_of_getElem? (i := 241) (by decide +kernel)) (by decide +kernel)
theorem kz_242 : Cond.fieldLink "MulePostBishops$Board" 21 "MulePostBishops$Board" "takes" "[I" ∈ ev_gw := ev_gi (List.mem_of_getElem? (i := 242) (by decide +kernel)) (by decide +kernel)
theorem kz_267 : Cond.fieldLink "MulePostBishops$Desk" 28 "MulePostBishops$Desk" "player" "I" ∈ ev_gw := ev_gi (List.mem_of_getElem? (i := 267) (by decide +kernel)) (by decide +kernel)
theorem kz_268 : Cond.fieldLink "MulePostBishops$Desk" 12 "MulePostBishops$Desk" "board" "LMulePostBishops$Board;" ∈ ev_gw := ev_gi (List.mem_of_getElem? (i := 268) (by decide +kernel)) (by decide +kernel)
theorem kz_269 : Cond.fieldLink "MulePostBishops$Desk" 18 "MulePostBishops$Desk" "stored" "[I" ∈ ev_gw := ev_gi (List.mem_of_getElem? (i := 269) (by decide +kernel)) (by decide +kernel)
theorem kz_270 : Cond.fieldLink "MulePostBishops$Desk" 22 "MulePostBishops$Desk" "expected" "[I" ∈ ev_gw := ev_gi (List.mem_of_getElem? (i := 270) (by decide +kernel)) (by decide +kernel)
theorem kz_271 : Cond.fieldLink "MulePostBishops$Desk" 25 "MulePostBishops$Desk" "replies" "[I" ∈ ev_gw := ev_gi (List.mem_of_getElem? (i := 271) (by decide +kernel)) (by decide +kernel)
theorem kz_301 : Cond.classLink "MulePostBishops$Game" 23 "MulePostBishops$Post" ∈ ev_gw := ev_gi (List.mem_of_getElem? (i := 301) (by decide +kernel)) (by decide +kernel)
theorem kz_302 : Cond.instantiable "MulePostBishops$Post" 18 ∈ ev_gw := ev_gi (List.mem_of_getElem? (i := 302) (by decide +kernel)) (by decide +kernel)
theorem kz_304 : Cond.instanceMethod ({ cls := "MulePostBishops$Post", name := "<init>", desc := "()V" } : MethodName) ∈ ev_gw := ev_gi (List.mem_of_getElem? (i := 304) (by decide +kernel)) (by decide +kernel)
theorem kz_305 : Cond.code ({ cls := "MulePostBishops$Post", name := "<init>", desc := "()V" } : MethodName) prog_8_method_1_code 1 (Option.none : Option FieldType) ∈ ev_gw := ev_gi (List.mem_of_getElem? (i := 305) (by decide +kernel)) (by decide +kernel)
theorem kz_306 : Cond.methodLink "MulePostBishops$Post" 3 ({ cls := "java/lang/Object", name := "<init>", desc := "()V" } : MethodName) ∈ ev_gw := ev_gi (List.mem_of_getElem? (i := 306) (by decide +kernel)) (by decide +kernel)
theorem kz_307 : Cond.classLink "MulePostBishops$Post" 9 "MulePostBishops$Passes" ∈ ev_gw := ev_gi (List.mem_of_getElem? (i := 307) (by decide +kernel)) (by decide +kernel)
theorem kz_308 : Cond.instantiable "MulePostBishops$Passes" 5 ∈ ev_gw := ev_gi (List.mem_of_getElem? (i := 308) (by decide +kernel)) (by decide +kernel)
theorem kz_310 : Cond.instanceMethod ({ cls := "MulePostBishops$Passes", name := "<init>", desc := "()V" } : MethodName) ∈ ev_gw := ev_gi (List.mem_of_getElem? (i := 310) (by decide +kernel)) (by decide +kernel)
theorem kz_311 : Cond.code ({ cls := "MulePostBishops$Passes", name := "<init>", desc := "()V" } : MethodName) prog_7_method_1_code 1 (Option.none : Option FieldType) ∈ ev_gw := ev_gi (List.mem_of_getElem? (i := 311) (by decide +kernel)) (by decide +kernel)
theorem kz_312 : Cond.methodLink "MulePostBishops$Passes" 3 ({ cls := "java/lang/Object", name := "<init>", desc := "()V" } : MethodName) ∈ ev_gw := ev_gi (List.mem_of_getElem? (i := 312) (by decide +kernel)) (by decide +kernel)
theorem kz_313 : Cond.fieldLink "MulePostBishops$Passes" 9 "MulePostBishops$Passes" "baseDays" "[I" ∈ ev_gw := ev_gi (List.mem_of_getElem? (i := 313) (by decide +kernel)) (by decide +kernel)
theorem kz_314 : Cond.fieldLink "MulePostBishops$Passes" 15 "MulePostBishops$Passes" "snow" "[I" ∈ ev_gw := ev_gi (List.mem_of_getElem? (i := 314) (by decide +kernel)) (by decide +kernel)
theorem kz_315 : Cond.fieldLink "MulePostBishops$Passes" 18 "MulePostBishops$Passes" "stables" "[I" ∈ ev_gw := ev_gi (List.mem_of_getElem? (i := 315) (by decide +kernel)) (by decide +kernel)
theorem kz_329 : Cond.fieldLink "MulePostBishops$Post" 12 "MulePostBishops$Post" "passes" "LMulePostBishops$Passes;" ∈ ev_gw := ev_gi (List.mem_of_getElem? (i := 329) (by decide +kernel)) (by decide +kernel)
theorem kz_330 : Cond.fieldLink "MulePostBishops$Post" 18 "MulePostBishops$Post" "writers" "[I" ∈ ev_gw := ev_gi (List.mem_of_getElem? (i := 330) (by decide +kernel)) (by decide +kernel)
theorem kz_331 : Cond.fieldLink "MulePostBishops$Post" 22 "MulePostBishops$Post" "numbers" "[I" ∈ ev_gw := ev_gi (List.mem_of_getElem? (i := 331) (by decide +kernel)) (by decide +kernel)
theorem kz_332 : Cond.fieldLink "MulePostBishops$Post" 25 "MulePostBishops$Post" "moves" "[I" ∈ ev_gw := ev_gi (List.mem_of_getElem? (i := 332) (by decide +kernel)) (by decide +kernel)
theorem kz_333 : Cond.fieldLink "MulePostBishops$Post" 28 "MulePostBishops$Post" "expectations" "[I" ∈ ev_gw := ev_gi (List.mem_of_getElem? (i := 333) (by decide +kernel)) (by decide +kernel)
theorem kz_334 : Cond.fieldLink "MulePostBishops$Post" 31 "MulePostBishops$Post" "routes" "[I" ∈ ev_gw := ev_gi (List.mem_of_getElem? (i := 334) (by decide +kernel)) (by decide +kernel)
theorem kz_335 : Cond.fieldLink "MulePostBishops$Post" 34 "MulePostBishops$Post" "states" "[I" ∈ ev_gw := ev_gi (List.mem_of_getElem? (i := 335) (by decide +kernel)) (by decide +kernel)
theorem kz_336 : Cond.fieldLink "MulePostBishops$Post" 37 "MulePostBishops$Post" "daysLeft" "[I" ∈ ev_gw := ev_gi (List.mem_of_getElem? (i := 336) (by decide +kernel)) (by decide +kernel)
theorem kz_337 : Cond.fieldLink "MulePostBishops$Post" 40 "MulePostBishops$Post" "postDays" "[I" ∈ ev_gw := ev_gi (List.mem_of_getElem? (i := 337) (by decide +kernel)) (by decide +kernel)
theorem kz_338 : Cond.fieldLink "MulePostBishops$Post" 43 "MulePostBishops$Post" "arrivalDays" "[I" ∈ ev_gw := ev_gi (List.mem_of_getElem? (i := 338) (by decide +kernel)) (by decide +kernel)
theorem kz_339 : Cond.fieldLink "MulePostBishops$Post" 46 "MulePostBishops$Post" "road" "[I" ∈ ev_gw := ev_gi (List.mem_of_getElem? (i := 339) (by decide +kernel)) (by decide +kernel)
theorem kz_340 : Cond.fieldLink "MulePostBishops$Post" 49 "MulePostBishops$Post" "arrivals" "[I" ∈ ev_gw := ev_gi (List.mem_of_getElem? (i := 340) (by decide +kernel)) (by decide +kernel)
theorem kz_341 : Cond.fieldLink "MulePostBishops$Post" 52 "MulePostBishops$Post" "waiting" "[I" ∈ ev_gw := ev_gi (List.mem_of_getElem? (i := 341) (by decide +kernel)) (by decide +kernel)
theorem kz_384 : Cond.classLink "MulePostBishops$Game" 30 "MulePostBishops$Board" ∈ ev_gw := ev_gi (List.mem_of_getElem? (i := 384) (by decide +kernel)) (by decide +kernel)
theorem kz_386 : Cond.fieldLink "MulePostBishops$Game" 14 "MulePostBishops$Game" "desk0" "LMulePostBishops$Desk;" ∈ ev_gw := ev_gi (List.mem_of_getElem? (i := 386) (by decide +kernel)) (by decide +kernel)
theorem kz_387 : Cond.fieldLink "MulePostBishops$Game" 20 "MulePostBishops$Game" "desk1" "LMulePostBishops$Desk;" ∈ ev_gw := ev_gi (List.mem_of_getElem? (i := 387) (by decide +kernel)) (by decide +kernel)
theorem kz_388 : Cond.fieldLink "MulePostBishops$Game" 26 "MulePostBishops$Game" "post" "LMulePostBishops$Post;" ∈ ev_gw := ev_gi (List.mem_of_getElem? (i := 388) (by decide +kernel)) (by decide +kernel)
theorem kz_389 : Cond.fieldLink "MulePostBishops$Game" 33 "MulePostBishops$Game" "trial" "LMulePostBishops$Board;" ∈ ev_gw := ev_gi (List.mem_of_getElem? (i := 389) (by decide +kernel)) (by decide +kernel)
theorem kz_405 : Cond.classLink "MulePostBishops" 40 "MulePostBishops$History" ∈ ev_gw := ev_gi (List.mem_of_getElem? (i := 405) (by decide +kernel)) (by decide +kernel)
theorem kz_406 : Cond.instantiable "MulePostBishops$History" 3 ∈ ev_gw := ev_gi (List.mem_of_getElem? (i := 406) (by decide +kernel)) (by decide +kernel)
theorem kz_407 : Cond.methodLink "MulePostBishops" 42 ({ cls := "MulePostBishops$History", name := "<init>", desc := "()V" } : MethodName) ∈ ev_gw := ev_gi (List.mem_of_getElem? (i := 407) (by decide +kernel)) (by decide +kernel)
theorem kz_408 : Cond.instanceMethod ({ cls := "MulePostBishops$History", name := "<init>", desc := "()V" } : MethodName) ∈ ev_gw := ev_gi (List.mem_of_getElem? (i := 408) (by decide +kernel)) (by decide +kernel)
theorem kz_409 : Cond.code ({ cls := "MulePostBishops$History", name := "<init>", desc := "()V" } : MethodName) prog_5_method_1_code 2 (Option.none : Option FieldType) ∈ ev_gw := ev_gi (List.mem_of_getElem? (i := 409) (by decide +kernel)) (by decide +kernel)
theorem kz_687 : Cond.fieldLink "MulePostBishops" 12 "MulePostBishops" "text" "LMulePostBishops$Text;" ∈ ev_gw := ev_gi (List.mem_of_getElem? (i := 687) (by decide +kernel)) (by decide +kernel)
theorem kz_688 : Cond.fieldLink "MulePostBishops" 19 "MulePostBishops" "script" "LMulePostBishops$Script;" ∈ ev_gw := ev_gi (List.mem_of_getElem? (i := 688) (by decide +kernel)) (by decide +kernel)
theorem kz_689 : Cond.fieldLink "MulePostBishops" 26 "MulePostBishops" "output" "LMulePostBishops$Output;" ∈ ev_gw := ev_gi (List.mem_of_getElem? (i := 689) (by decide +kernel)) (by decide +kernel)
theorem kz_690 : Cond.fieldLink "MulePostBishops" 33 "MulePostBishops" "game" "LMulePostBishops$Game;" ∈ ev_gw := ev_gi (List.mem_of_getElem? (i := 690) (by decide +kernel)) (by decide +kernel)
theorem kz_691 : Cond.fieldLink "MulePostBishops" 37 "MulePostBishops" "draft" "LMulePostBishops$Game;" ∈ ev_gw := ev_gi (List.mem_of_getElem? (i := 691) (by decide +kernel)) (by decide +kernel)
theorem kz_692 : Cond.fieldLink "MulePostBishops" 43 "MulePostBishops" "history" "LMulePostBishops$History;" ∈ ev_gw := ev_gi (List.mem_of_getElem? (i := 692) (by decide +kernel)) (by decide +kernel)
theorem kz_693 : Cond.fieldLink "MulePostBishops" 47 "MulePostBishops" "slot0" "LMulePostBishops$Game;" ∈ ev_gw := ev_gi (List.mem_of_getElem? (i := 693) (by decide +kernel)) (by decide +kernel)
theorem kz_694 : Cond.fieldLink "MulePostBishops" 50 "MulePostBishops" "slot1" "LMulePostBishops$Game;" ∈ ev_gw := ev_gi (List.mem_of_getElem? (i := 694) (by decide +kernel)) (by decide +kernel)
theorem kz_698 : Cond.fieldLink "MulePostBishops" 53 "MulePostBishops" "lastErrorAt" "I" ∈ ev_gw := ev_gi (List.mem_of_getElem? (i := 698) (by decide +kernel)) (by decide +kernel)
theorem kz_1751 : Cond.instanceMethod ({ cls := "MulePostBishopsModel", name := "<init>", desc := "()V" } : MethodName) ∈ ev_gw := ev_gi (List.mem_of_getElem? (i := 1751) (by decide +kernel)) (by decide +kernel)
theorem kz_1752 : Cond.code ({ cls := "MulePostBishopsModel", name := "<init>", desc := "()V" } : MethodName) prog_12_method_1_code 1 (Option.none : Option FieldType) ∈ ev_gw := ev_gi (List.mem_of_getElem? (i := 1752) (by decide +kernel)) (by decide +kernel)
theorem kz_1753 : Cond.methodLink "MulePostBishopsModel" 1 ({ cls := "java/lang/Object", name := "<init>", desc := "()V" } : MethodName) ∈ ev_gw := ev_gi (List.mem_of_getElem? (i := 1753) (by decide +kernel)) (by decide +kernel)
theorem kz_1853 : Cond.fieldLink "MulePostBishopsModel" 7 "MulePostBishopsModel" "now" "[I" ∈ ev_gw := ev_gi (List.mem_of_getElem? (i := 1853) (by decide +kernel)) (by decide +kernel)
theorem kz_1854 : Cond.fieldLink "MulePostBishopsModel" 13 "MulePostBishopsModel" "aside" "[I" ∈ ev_gw := ev_gi (List.mem_of_getElem? (i := 1854) (by decide +kernel)) (by decide +kernel)
theorem kz_1855 : Cond.fieldLink "MulePostBishopsModel" 16 "MulePostBishopsModel" "reading" "[I" ∈ ev_gw := ev_gi (List.mem_of_getElem? (i := 1855) (by decide +kernel)) (by decide +kernel)
theorem kz_1856 : Cond.fieldLink "MulePostBishopsModel" 19 "MulePostBishopsModel" "past" "[I" ∈ ev_gw := ev_gi (List.mem_of_getElem? (i := 1856) (by decide +kernel)) (by decide +kernel)
theorem kz_1857 : Cond.fieldLink "MulePostBishopsModel" 22 "MulePostBishopsModel" "saved" "[I" ∈ ev_gw := ev_gi (List.mem_of_getElem? (i := 1857) (by decide +kernel)) (by decide +kernel)
theorem kz_1858 : Cond.fieldLink "MulePostBishopsModel" 25 "MulePostBishopsModel" "isSaved" "[Z" ∈ ev_gw := ev_gi (List.mem_of_getElem? (i := 1858) (by decide +kernel)) (by decide +kernel)
theorem kz_1861 : Cond.fieldLink "MulePostBishopsModel" 29 "MulePostBishopsModel" "blank" "I" ∈ ev_gw := ev_gi (List.mem_of_getElem? (i := 1861) (by decide +kernel)) (by decide +kernel)
theorem kz_1862 : Cond.fieldLink "MulePostBishopsModel" 33 "MulePostBishopsModel" "buffer" "[I" ∈ ev_gw := ev_gi (List.mem_of_getElem? (i := 1862) (by decide +kernel)) (by decide +kernel)
theorem kz_1865 : Cond.fieldLink "MulePostBishopsModel" 36 "MulePostBishopsModel" "lastPlace" "I" ∈ ev_gw := ev_gi (List.mem_of_getElem? (i := 1865) (by decide +kernel)) (by decide +kernel)
theorem kz_1872 : Cond.fieldLink "MulePostBishopsModel" 39 "MulePostBishopsModel" "kinds" "[I" ∈ ev_gw := ev_gi (List.mem_of_getElem? (i := 1872) (by decide +kernel)) (by decide +kernel)
theorem kz_1873 : Cond.fieldLink "MulePostBishopsModel" 42 "MulePostBishopsModel" "numbers" "[I" ∈ ev_gw := ev_gi (List.mem_of_getElem? (i := 1873) (by decide +kernel)) (by decide +kernel)
theorem kz_1879 : Cond.fieldLink "MulePostBishopsModel" 45 "MulePostBishopsModel" "out" "[I" ∈ ev_gw := ev_gi (List.mem_of_getElem? (i := 1879) (by decide +kernel)) (by decide +kernel)
theorem kz_1938 : Cond.arrayClass FieldType.boolean ∈ ev_gw := ev_gi (List.mem_of_getElem? (i := 1938) (by decide +kernel)) (by decide +kernel)
def ct_t0 : ct_T := ((0, 0), []) :: ([((19, 64), [])] ++ [((19, 2), [])] ++ [((19, 61), [])] ++ [((19, 61), [])])
def ct_t1 (p : Int32) : ct_T := ((1, 0), [p]) :: (ct_t0 ++ [((19, 61), [])] ++ [((19, 61), [])] ++ [((19, 61), [])])
def ct_t5 : ct_T := ((5, 0), []) :: ([((19, 4), [])] ++ [((19, 48), [])] ++ [((19, 8), [])])
def ct_t6 : ct_T := ((6, 0), []) :: (ct_t5 ++ [((19, 84), [])] ++ [((19, 84), [])] ++ [((19, 84), [])] ++ [((19, 84), [])] ++ [((19, 84), [])] ++ [((19, 84), [])] ++ [((19, 84), [])] ++ [((19, 84), [])] ++ [((19, 84), [])] ++ [((19, 84), [])] ++ [((19, 84), [])] ++ [((19, 8), [])])
def ct_t2 : ct_T := ((2, 0), []) :: ((ct_t1 0) ++ (ct_t1 1) ++ ct_t6 ++ ct_t0)
def ct_t7 : ct_T := ((7, 0), []) :: ([((19, 60), [])] ++ [((19, 360), [])] ++ [((19, 60), [])] ++ [((19, 60), [])] ++ [((19, 2), [])])
def ct_t4 : ct_T := ((4, 0), []) :: ([((19, 400), [])])
def ct_t8 : ct_T := ((8, 0), [0, 0, 0, 0, 0, 0, 0, 0, -1]) :: ([((19, 800), [])])
def ct_t3 : ct_T := ((3, 0), []) :: ((24, 8), []) :: (ct_t2 ++ ct_t2 ++ ct_t2 ++ ct_t2 ++ ct_t2 ++ ct_t2 ++ ct_t2 ++ ct_t2)
theorem ct_l0 : (ct_t0).length = 5 := rfl
theorem ct_l1 (p : Int32) : (ct_t1 p).length = 9 := rfl
theorem ct_l5 : (ct_t5).length = 4 := rfl
theorem ct_l6 : (ct_t6).length = 17 := rfl
theorem ct_l2 : (ct_t2).length = 41 := rfl
theorem ct_l7 : (ct_t7).length = 6 := rfl
theorem ct_l4 : (ct_t4).length = 2 := rfl
theorem ct_l8 : (ct_t8).length = 2 := rfl
theorem ct_l3 : (ct_t3).length = 330 := by decide +kernel
def ct_f0 : List Value := [.null, .null, .null, .null, .int 0, .int 0, .int 0, .int 0, .int 0]
def ct_f1 : List Value := [.int 0, .null, .null, .null, .null, .int 0, .int 0, .int 0, .int 0, .int 0, .int 0]
def ct_f2 : List Value := [.null, .null, .null, .null, .int 0, .int 0]
def ct_f3 : List Value := [.null, .int 0, .int 0]
def ct_f4 : List Value := [.null, .int 0]
def ct_f5 : List Value := [.null, .null, .null, .int 0, .int 0]
def ct_f6 : List Value := [.null, .null, .null, .null, .null, .null, .null, .null, .null, .null, .null, .null, .null, .int 0, .int 0, .int 0, .int 0, .int 0]
def ct_f7 : List Value := [.null, .null, .null, .null, .null, .int 0, .int 0, .int 0]
def ct_f8 : List Value := [.null, .int 0, .int 0, .int 0, .int 0, .int 0, .int 0, .int 0, .int 0]
def ct_f9 : List Value := [.null, .null, .null, .null, .null, .null, .null, .null, .int 0, .int 0, .int 0, .int 0]
def ct_f10 : List Value := [.null, .null, .null, .null, .null, .null, .int 0, .int 0, .int 0, .null, .int 0, .int 0, .int 0, .int 0, .int 0, .int 0, .int 0, .int 0, .int 0, .null, .null, .int 0, .int 0, .int 0, .int 0, .int 0, .null, .int 0]
theorem ct_d0 : ∀ j, j < 9 → defaultValue (tyX0 j) = vp_V ct_f0 j := by decide +kernel
theorem ct_d1 : ∀ j, j < 11 → defaultValue (tyX1 j) = vp_V ct_f1 j := by decide +kernel
theorem ct_d2 : ∀ j, j < 6 → defaultValue (tyX2 j) = vp_V ct_f2 j := by decide +kernel
theorem ct_d3 : ∀ j, j < 3 → defaultValue (tyX3 j) = vp_V ct_f3 j := by decide +kernel
theorem ct_d4 : ∀ j, j < 2 → defaultValue (tyX4 j) = vp_V ct_f4 j := by decide +kernel
theorem ct_d5 : ∀ j, j < 5 → defaultValue (tyX5 j) = vp_V ct_f5 j := by decide +kernel
theorem ct_d6 : ∀ j, j < 18 → defaultValue (tyX6 j) = vp_V ct_f6 j := by decide +kernel
theorem ct_d7 : ∀ j, j < 8 → defaultValue (tyX7 j) = vp_V ct_f7 j := by decide +kernel
theorem ct_d8 : ∀ j, j < 9 → defaultValue (tyX8 j) = vp_V ct_f8 j := by decide +kernel
theorem ct_d9 : ∀ j, j < 12 → defaultValue (tyX9 j) = vp_V ct_f9 j := by decide +kernel
theorem ct_d10 : ∀ j, j < 28 → defaultValue (tyX10 j) = vp_V ct_f10 j := by decide +kernel
theorem ci_0 : ct_Mi m_X0_init 0 := ⟨rfl, rfl, rfl, kz_115, kz_236, kz_237, ⟨by decide, by decide, by decide +kernel⟩, by decide⟩
theorem ci_1 : ct_Mi m_X1_init 1 := ⟨rfl, rfl, rfl, kz_114, kz_230, kz_231, ⟨by decide, by decide, by decide +kernel⟩, by decide⟩
theorem ci_2 : ct_Mi m_X2_init 0 := ⟨rfl, rfl, rfl, kz_113, kz_224, kz_225, ⟨by decide, by decide, by decide +kernel⟩, by decide⟩
theorem ci_3 : ct_Mi m_X3_init 0 := ⟨rfl, rfl, rfl, kz_118, kz_408, kz_409, ⟨by decide, by decide, by decide +kernel⟩, by decide⟩
theorem ci_4 : ct_Mi m_X4_init 0 := ⟨rfl, rfl, rfl, kz_112, kz_211, kz_212, ⟨by decide, by decide, by decide +kernel⟩, by decide⟩
theorem ci_5 : ct_Mi m_X5_init 0 := ⟨rfl, rfl, rfl, kz_117, kz_310, kz_311, ⟨by decide, by decide, by decide +kernel⟩, by decide⟩
theorem ci_6 : ct_Mi m_X6_init 0 := ⟨rfl, rfl, rfl, kz_116, kz_304, kz_305, ⟨by decide, by decide, by decide +kernel⟩, by decide⟩
theorem ci_7 : ct_Mi m_X7_init 0 := ⟨rfl, rfl, rfl, kz_111, kz_180, kz_181, ⟨by decide, by decide, by decide +kernel⟩, by decide⟩
theorem ci_8 : ct_Mi m_X8_init 0 := ⟨rfl, rfl, rfl, kz_110, kz_145, kz_146, ⟨by decide, by decide, by decide +kernel⟩, by decide⟩
theorem ci_9 : ct_Mi m_X9_init 0 := ⟨rfl, rfl, rfl, kz_109, kz_137, kz_138, ⟨by decide, by decide, by decide +kernel⟩, by decide⟩
theorem ci_10 : ct_Mi m_X10_init 0 := ⟨rfl, rfl, rfl, kz_126, kz_1751, kz_1752, ⟨by decide, by decide, by decide +kernel⟩, by decide⟩
theorem c_ct0 {g : ev_G} (a : Nat) : ct_Met g m_X0_init 0 a 0 4 188 (fun _ => True) ct_f0 [] (ct_Qc g (ct_t0) a) (fun q => a ≤ q) := by
  refine ct_enter (L := [(0, .ref a)]) (by decide) rfl rfl rfl rfl rfl (Nat.le_of_ble_eq_true rfl) (fun q h => h) ?_
  refine ct_aload0 dX0_init_0 ?_
  refine ct_super dX0_init_1 kz_238 kz_140 kz_141 ?_
  refine ct_aload0 dX0_init_4 ?_
  refine ct_bipush (64) dX0_init_5 (by decide) ?_
  refine ct_newarr 64 1 dX0_init_7 kz_176 (by decide) (by decide) (by decide) (by simp only [List.length_append, List.length_cons, List.length_nil, ct_l0, ct_l1, ct_l5, ct_l6, ct_l2, ct_l7, ct_l4, ct_l8, ct_l3]) (Nat.le_of_ble_eq_true rfl) (Nat.le_of_ble_eq_true rfl) ?_
  refine ct_putF 0 tyX0 [.ref (a + 1), .null, .null, .null, .int 0, .int 0, .int 0, .int 0, .int 0] dX0_init_9 rfl in_0 tyX0_ok nmX0 (by decide) kz_239 rfl rfl rfl rfl (Nat.le_of_ble_eq_true rfl) rfl ?_
  refine ct_aload0 dX0_init_12 ?_
  refine ct_iconst (2) dX0_init_13 (by decide) ?_
  refine ct_newarr 2 2 dX0_init_14 kz_176 (by decide) (by decide) (by decide) (by simp only [List.length_append, List.length_cons, List.length_nil, ct_l0, ct_l1, ct_l5, ct_l6, ct_l2, ct_l7, ct_l4, ct_l8, ct_l3]) (Nat.le_of_ble_eq_true rfl) (Nat.le_of_ble_eq_true rfl) ?_
  refine ct_putF 1 tyX0 [.ref (a + 1), .ref (a + 2), .null, .null, .int 0, .int 0, .int 0, .int 0, .int 0] dX0_init_16 rfl in_0 tyX0_ok nmX0 (by decide) kz_240 rfl rfl rfl rfl (Nat.le_of_ble_eq_true rfl) rfl ?_
  refine ct_aload0 dX0_init_19 ?_
  refine ct_bipush (61) dX0_init_20 (by decide) ?_
  refine ct_newarr 61 3 dX0_init_22 kz_176 (by decide) (by decide) (by decide) (by simp only [List.length_append, List.length_cons, List.length_nil, ct_l0, ct_l1, ct_l5, ct_l6, ct_l2, ct_l7, ct_l4, ct_l8, ct_l3]) (Nat.le_of_ble_eq_true rfl) (Nat.le_of_ble_eq_true rfl) ?_
  refine ct_putF 2 tyX0 [.ref (a + 1), .ref (a + 2), .ref (a + 3), .null, .int 0, .int 0, .int 0, .int 0, .int 0] dX0_init_24 rfl in_0 tyX0_ok nmX0 (by decide) kz_241 rfl rfl rfl rfl (Nat.le_of_ble_eq_true rfl) rfl ?_
  refine ct_aload0 dX0_init_27 ?_
  refine ct_bipush (61) dX0_init_28 (by decide) ?_
  refine ct_newarr 61 4 dX0_init_30 kz_176 (by decide) (by decide) (by decide) (by simp only [List.length_append, List.length_cons, List.length_nil, ct_l0, ct_l1, ct_l5, ct_l6, ct_l2, ct_l7, ct_l4, ct_l8, ct_l3]) (Nat.le_of_ble_eq_true rfl) (Nat.le_of_ble_eq_true rfl) ?_
  refine ct_putF 3 tyX0 [.ref (a + 1), .ref (a + 2), .ref (a + 3), .ref (a + 4), .int 0, .int 0, .int 0, .int 0, .int 0] dX0_init_32 rfl in_0 tyX0_ok nmX0 (by decide) kz_242 rfl rfl rfl rfl (Nat.le_of_ble_eq_true rfl) rfl ?_
  exact ct_ret [] _ dX0_init_35 rfl (by decide) (Nat.le_of_ble_eq_true rfl) (Nat.le_of_ble_eq_true rfl) rfl
theorem c_ct5 {g : ev_G} (a : Nat) : ct_Met g m_X5_init 5 a 0 3 60 (fun _ => True) ct_f5 [] (ct_Qc g (ct_t5) a) (fun q => a ≤ q) := by
  refine ct_enter (L := [(0, .ref a)]) (by decide) rfl rfl rfl rfl rfl (Nat.le_of_ble_eq_true rfl) (fun q h => h) ?_
  refine ct_aload0 dX5_init_0 ?_
  refine ct_super dX5_init_1 kz_312 kz_140 kz_141 ?_
  refine ct_aload0 dX5_init_4 ?_
  refine ct_iconst (4) dX5_init_5 (by decide) ?_
  refine ct_newarr 4 1 dX5_init_6 kz_176 (by decide) (by decide) (by decide) (by simp only [List.length_append, List.length_cons, List.length_nil, ct_l0, ct_l1, ct_l5, ct_l6, ct_l2, ct_l7, ct_l4, ct_l8, ct_l3]) (Nat.le_of_ble_eq_true rfl) (Nat.le_of_ble_eq_true rfl) ?_
  refine ct_putF 0 tyX5 [.ref (a + 1), .null, .null, .int 0, .int 0] dX5_init_8 rfl in_5 tyX5_ok nmX5 (by decide) kz_313 rfl rfl rfl rfl (Nat.le_of_ble_eq_true rfl) rfl ?_
  refine ct_aload0 dX5_init_11 ?_
  refine ct_bipush (48) dX5_init_12 (by decide) ?_
  refine ct_newarr 48 2 dX5_init_14 kz_176 (by decide) (by decide) (by decide) (by simp only [List.length_append, List.length_cons, List.length_nil, ct_l0, ct_l1, ct_l5, ct_l6, ct_l2, ct_l7, ct_l4, ct_l8, ct_l3]) (Nat.le_of_ble_eq_true rfl) (Nat.le_of_ble_eq_true rfl) ?_
  refine ct_putF 1 tyX5 [.ref (a + 1), .ref (a + 2), .null, .int 0, .int 0] dX5_init_16 rfl in_5 tyX5_ok nmX5 (by decide) kz_314 rfl rfl rfl rfl (Nat.le_of_ble_eq_true rfl) rfl ?_
  refine ct_aload0 dX5_init_19 ?_
  refine ct_bipush (8) dX5_init_20 (by decide) ?_
  refine ct_newarr 8 3 dX5_init_22 kz_176 (by decide) (by decide) (by decide) (by simp only [List.length_append, List.length_cons, List.length_nil, ct_l0, ct_l1, ct_l5, ct_l6, ct_l2, ct_l7, ct_l4, ct_l8, ct_l3]) (Nat.le_of_ble_eq_true rfl) (Nat.le_of_ble_eq_true rfl) ?_
  refine ct_putF 2 tyX5 [.ref (a + 1), .ref (a + 2), .ref (a + 3), .int 0, .int 0] dX5_init_24 rfl in_5 tyX5_ok nmX5 (by decide) kz_315 rfl rfl rfl rfl (Nat.le_of_ble_eq_true rfl) rfl ?_
  exact ct_ret [] _ dX5_init_27 rfl (by decide) (Nat.le_of_ble_eq_true rfl) (Nat.le_of_ble_eq_true rfl) rfl
theorem c_ct7 {g : ev_G} (a : Nat) : ct_Met g m_X7_init 7 a 0 5 542 (fun _ => True) ct_f7 [] (ct_Qc g (ct_t7) a) (fun q => a ≤ q) := by
  refine ct_enter (L := [(0, .ref a)]) (by decide) rfl rfl rfl rfl rfl (Nat.le_of_ble_eq_true rfl) (fun q h => h) ?_
  refine ct_aload0 dX7_init_0 ?_
  refine ct_super dX7_init_1 kz_182 kz_140 kz_141 ?_
  refine ct_aload0 dX7_init_4 ?_
  refine ct_bipush (60) dX7_init_5 (by decide) ?_
  refine ct_newarr 60 1 dX7_init_7 kz_176 (by decide) (by decide) (by decide) (by simp only [List.length_append, List.length_cons, List.length_nil, ct_l0, ct_l1, ct_l5, ct_l6, ct_l2, ct_l7, ct_l4, ct_l8, ct_l3]) (Nat.le_of_ble_eq_true rfl) (Nat.le_of_ble_eq_true rfl) ?_
  refine ct_putF 0 tyX7 [.ref (a + 1), .null, .null, .null, .null, .int 0, .int 0, .int 0] dX7_init_9 rfl in_7 tyX7_ok nmX7 (by decide) kz_183 rfl rfl rfl rfl (Nat.le_of_ble_eq_true rfl) rfl ?_
  refine ct_aload0 dX7_init_12 ?_
  refine ct_sipush (360) dX7_init_13 (by decide) ?_
  refine ct_newarr 360 2 dX7_init_16 kz_176 (by decide) (by decide) (by decide) (by simp only [List.length_append, List.length_cons, List.length_nil, ct_l0, ct_l1, ct_l5, ct_l6, ct_l2, ct_l7, ct_l4, ct_l8, ct_l3]) (Nat.le_of_ble_eq_true rfl) (Nat.le_of_ble_eq_true rfl) ?_
  refine ct_putF 1 tyX7 [.ref (a + 1), .ref (a + 2), .null, .null, .null, .int 0, .int 0, .int 0] dX7_init_18 rfl in_7 tyX7_ok nmX7 (by decide) kz_184 rfl rfl rfl rfl (Nat.le_of_ble_eq_true rfl) rfl ?_
  refine ct_aload0 dX7_init_21 ?_
  refine ct_bipush (60) dX7_init_22 (by decide) ?_
  refine ct_newarr 60 3 dX7_init_24 kz_176 (by decide) (by decide) (by decide) (by simp only [List.length_append, List.length_cons, List.length_nil, ct_l0, ct_l1, ct_l5, ct_l6, ct_l2, ct_l7, ct_l4, ct_l8, ct_l3]) (Nat.le_of_ble_eq_true rfl) (Nat.le_of_ble_eq_true rfl) ?_
  refine ct_putF 2 tyX7 [.ref (a + 1), .ref (a + 2), .ref (a + 3), .null, .null, .int 0, .int 0, .int 0] dX7_init_26 rfl in_7 tyX7_ok nmX7 (by decide) kz_185 rfl rfl rfl rfl (Nat.le_of_ble_eq_true rfl) rfl ?_
  refine ct_aload0 dX7_init_29 ?_
  refine ct_bipush (60) dX7_init_30 (by decide) ?_
  refine ct_newarr 60 4 dX7_init_32 kz_176 (by decide) (by decide) (by decide) (by simp only [List.length_append, List.length_cons, List.length_nil, ct_l0, ct_l1, ct_l5, ct_l6, ct_l2, ct_l7, ct_l4, ct_l8, ct_l3]) (Nat.le_of_ble_eq_true rfl) (Nat.le_of_ble_eq_true rfl) ?_
  refine ct_putF 3 tyX7 [.ref (a + 1), .ref (a + 2), .ref (a + 3), .ref (a + 4), .null, .int 0, .int 0, .int 0] dX7_init_34 rfl in_7 tyX7_ok nmX7 (by decide) kz_186 rfl rfl rfl rfl (Nat.le_of_ble_eq_true rfl) rfl ?_
  refine ct_aload0 dX7_init_37 ?_
  refine ct_iconst (2) dX7_init_38 (by decide) ?_
  refine ct_newarr 2 5 dX7_init_39 kz_176 (by decide) (by decide) (by decide) (by simp only [List.length_append, List.length_cons, List.length_nil, ct_l0, ct_l1, ct_l5, ct_l6, ct_l2, ct_l7, ct_l4, ct_l8, ct_l3]) (Nat.le_of_ble_eq_true rfl) (Nat.le_of_ble_eq_true rfl) ?_
  refine ct_putF 4 tyX7 [.ref (a + 1), .ref (a + 2), .ref (a + 3), .ref (a + 4), .ref (a + 5), .int 0, .int 0, .int 0] dX7_init_41 rfl in_7 tyX7_ok nmX7 (by decide) kz_187 rfl rfl rfl rfl (Nat.le_of_ble_eq_true rfl) rfl ?_
  exact ct_ret [] _ dX7_init_44 rfl (by decide) (Nat.le_of_ble_eq_true rfl) (Nat.le_of_ble_eq_true rfl) rfl
theorem c_ct4 {g : ev_G} (a : Nat) : ct_Met g m_X4_init 4 a 0 1 400 (fun _ => True) ct_f4 [] (ct_Qc g (ct_t4) a) (fun q => a ≤ q) := by
  refine ct_enter (L := [(0, .ref a)]) (by decide) rfl rfl rfl rfl rfl (Nat.le_of_ble_eq_true rfl) (fun q h => h) ?_
  refine ct_aload0 dX4_init_0 ?_
  refine ct_super dX4_init_1 kz_213 kz_140 kz_141 ?_
  refine ct_aload0 dX4_init_4 ?_
  refine ct_sipush (400) dX4_init_5 (by decide) ?_
  refine ct_newarr 400 1 dX4_init_8 kz_176 (by decide) (by decide) (by decide) (by simp only [List.length_append, List.length_cons, List.length_nil, ct_l0, ct_l1, ct_l5, ct_l6, ct_l2, ct_l7, ct_l4, ct_l8, ct_l3]) (Nat.le_of_ble_eq_true rfl) (Nat.le_of_ble_eq_true rfl) ?_
  refine ct_putF 0 tyX4 [.ref (a + 1), .int 0] dX4_init_10 rfl in_4 tyX4_ok nmX4 (by decide) kz_214 rfl rfl rfl rfl (Nat.le_of_ble_eq_true rfl) rfl ?_
  exact ct_ret [] _ dX4_init_13 rfl (by decide) (Nat.le_of_ble_eq_true rfl) (Nat.le_of_ble_eq_true rfl) rfl
theorem c_ct8 {g : ev_G} (a : Nat) : ct_Met g m_X8_init 8 a 0 1 800 (fun _ => True) ct_f8 [] (ct_Qc g (ct_t8) a) (fun q => a ≤ q) := by
  refine ct_enter (L := [(0, .ref a)]) (by decide) rfl rfl rfl rfl rfl (Nat.le_of_ble_eq_true rfl) (fun q h => h) ?_
  refine ct_aload0 dX8_init_0 ?_
  refine ct_super dX8_init_1 kz_147 kz_140 kz_141 ?_
  refine ct_aload0 dX8_init_4 ?_
  refine ct_sipush (800) dX8_init_5 (by decide) ?_
  refine ct_newarr 800 1 dX8_init_8 kz_176 (by decide) (by decide) (by decide) (by simp only [List.length_append, List.length_cons, List.length_nil, ct_l0, ct_l1, ct_l5, ct_l6, ct_l2, ct_l7, ct_l4, ct_l8, ct_l3]) (Nat.le_of_ble_eq_true rfl) (Nat.le_of_ble_eq_true rfl) ?_
  refine ct_putF 0 tyX8 [.ref (a + 1), .int 0, .int 0, .int 0, .int 0, .int 0, .int 0, .int 0, .int 0] dX8_init_10 rfl in_8 tyX8_ok nmX8 (by decide) kz_148 rfl rfl rfl rfl (Nat.le_of_ble_eq_true rfl) rfl ?_
  refine ct_aload0 dX8_init_13 ?_
  refine ct_iconst (-1) dX8_init_14 (by decide) ?_
  refine ct_putI 8 tyX8 [.ref (a + 1), .int 0, .int 0, .int 0, .int 0, .int 0, .int 0, .int 0, .int (-1)] dX8_init_15 rfl in_8 tyX8_ok nmX8 (by decide) kz_156 rfl rfl rfl (Nat.le_of_ble_eq_true rfl) rfl ?_
  exact ct_ret [0, 0, 0, 0, 0, 0, 0, 0, -1] _ dX8_init_18 rfl (by decide) (Nat.le_of_ble_eq_true rfl) (Nat.le_of_ble_eq_true rfl) rfl
theorem c_ct1 {g : ev_G} (a : Nat) (p : Int32) : ct_Met g m_X1_init 1 a 1 8 380 (fun _ => True) ct_f1 [.int p] (ct_Qc g (ct_t1 p) a) (fun q => a ≤ q) := by
  refine ct_enter (L := [(0, .ref a), (1, .int p)]) (by decide) rfl rfl rfl rfl rfl (Nat.le_of_ble_eq_true rfl) (fun q h => h) ?_
  refine ct_aload0 dX1_init_0 ?_
  refine ct_super dX1_init_1 kz_232 kz_140 kz_141 ?_
  refine ct_aload0 dX1_init_4 ?_
  refine ct_child0 ci_0 0 0 4 188 1 ct_f0 ct_t0 tyX0 dX1_init_5 dX1_init_8 dX1_init_9 rfl in_0 tyX0_ok ct_d0 kz_233 kz_234 kz_115 (Or.inl ⟨"MulePostBishops", List.mem_of_getElem? (i := 4) (by decide +kernel)⟩) c_ct0 (by simp only [List.length_append, List.length_cons, List.length_nil, ct_l0, ct_l1, ct_l5, ct_l6, ct_l2, ct_l7, ct_l4, ct_l8, ct_l3]) (Nat.le_of_ble_eq_true rfl) (Nat.le_of_ble_eq_true rfl) ct_l0 (Nat.le_of_ble_eq_true rfl) (Nat.le_of_ble_eq_true rfl) ?_
  refine ct_putF 1 tyX1 [.int 0, .ref (a + 1), .null, .null, .null, .int 0, .int 0, .int 0, .int 0, .int 0, .int 0] dX1_init_12 rfl in_1 tyX1_ok nmX1 (by decide) kz_268 rfl rfl rfl rfl (Nat.le_of_ble_eq_true rfl) rfl ?_
  refine ct_aload0 dX1_init_15 ?_
  refine ct_bipush (61) dX1_init_16 (by decide) ?_
  refine ct_newarr 61 6 dX1_init_18 kz_176 (by decide) (by decide) (by decide) (by simp only [List.length_append, List.length_cons, List.length_nil, ct_l0, ct_l1, ct_l5, ct_l6, ct_l2, ct_l7, ct_l4, ct_l8, ct_l3]) (Nat.le_of_ble_eq_true rfl) (Nat.le_of_ble_eq_true rfl) ?_
  refine ct_putF 2 tyX1 [.int 0, .ref (a + 1), .ref (a + 6), .null, .null, .int 0, .int 0, .int 0, .int 0, .int 0, .int 0] dX1_init_20 rfl in_1 tyX1_ok nmX1 (by decide) kz_269 rfl rfl rfl rfl (Nat.le_of_ble_eq_true rfl) rfl ?_
  refine ct_aload0 dX1_init_23 ?_
  refine ct_bipush (61) dX1_init_24 (by decide) ?_
  refine ct_newarr 61 7 dX1_init_26 kz_176 (by decide) (by decide) (by decide) (by simp only [List.length_append, List.length_cons, List.length_nil, ct_l0, ct_l1, ct_l5, ct_l6, ct_l2, ct_l7, ct_l4, ct_l8, ct_l3]) (Nat.le_of_ble_eq_true rfl) (Nat.le_of_ble_eq_true rfl) ?_
  refine ct_putF 3 tyX1 [.int 0, .ref (a + 1), .ref (a + 6), .ref (a + 7), .null, .int 0, .int 0, .int 0, .int 0, .int 0, .int 0] dX1_init_28 rfl in_1 tyX1_ok nmX1 (by decide) kz_270 rfl rfl rfl rfl (Nat.le_of_ble_eq_true rfl) rfl ?_
  refine ct_aload0 dX1_init_31 ?_
  refine ct_bipush (61) dX1_init_32 (by decide) ?_
  refine ct_newarr 61 8 dX1_init_34 kz_176 (by decide) (by decide) (by decide) (by simp only [List.length_append, List.length_cons, List.length_nil, ct_l0, ct_l1, ct_l5, ct_l6, ct_l2, ct_l7, ct_l4, ct_l8, ct_l3]) (Nat.le_of_ble_eq_true rfl) (Nat.le_of_ble_eq_true rfl) ?_
  refine ct_putF 4 tyX1 [.int 0, .ref (a + 1), .ref (a + 6), .ref (a + 7), .ref (a + 8), .int 0, .int 0, .int 0, .int 0, .int 0, .int 0] dX1_init_36 rfl in_1 tyX1_ok nmX1 (by decide) kz_271 rfl rfl rfl rfl (Nat.le_of_ble_eq_true rfl) rfl ?_
  refine ct_aload0 dX1_init_39 ?_
  refine ct_iload1 dX1_init_40 ?_
  refine ct_putF 0 tyX1 [.int p, .ref (a + 1), .ref (a + 6), .ref (a + 7), .ref (a + 8), .int 0, .int 0, .int 0, .int 0, .int 0, .int 0] dX1_init_41 rfl in_1 tyX1_ok nmX1 (by decide) kz_267 rfl rfl rfl rfl (Nat.le_of_ble_eq_true rfl) rfl ?_
  exact ct_ret [p] _ dX1_init_44 rfl (by decide) (Nat.le_of_ble_eq_true rfl) (Nat.le_of_ble_eq_true rfl) rfl
theorem c_ct6 {g : ev_G} (a : Nat) : ct_Met g m_X6_init 6 a 1 16 997 (fun _ => True) ct_f6 [] (ct_Qc g (ct_t6) a) (fun q => a ≤ q) := by
  refine ct_enter (L := [(0, .ref a)]) (by decide) rfl rfl rfl rfl rfl (Nat.le_of_ble_eq_true rfl) (fun q h => h) ?_
  refine ct_aload0 dX6_init_0 ?_
  refine ct_super dX6_init_1 kz_306 kz_140 kz_141 ?_
  refine ct_aload0 dX6_init_4 ?_
  refine ct_child0 ci_5 5 0 3 60 1 ct_f5 ct_t5 tyX5 dX6_init_5 dX6_init_8 dX6_init_9 rfl in_5 tyX5_ok ct_d5 kz_307 kz_308 kz_117 (Or.inl ⟨"MulePostBishops", List.mem_of_getElem? (i := 6) (by decide +kernel)⟩) c_ct5 (by simp only [List.length_append, List.length_cons, List.length_nil, ct_l0, ct_l1, ct_l5, ct_l6, ct_l2, ct_l7, ct_l4, ct_l8, ct_l3]) (Nat.le_of_ble_eq_true rfl) (Nat.le_of_ble_eq_true rfl) ct_l5 (Nat.le_of_ble_eq_true rfl) (Nat.le_of_ble_eq_true rfl) ?_
  refine ct_putF 0 tyX6 [.ref (a + 1), .null, .null, .null, .null, .null, .null, .null, .null, .null, .null, .null, .null, .int 0, .int 0, .int 0, .int 0, .int 0] dX6_init_12 rfl in_6 tyX6_ok nmX6 (by decide) kz_329 rfl rfl rfl rfl (Nat.le_of_ble_eq_true rfl) rfl ?_
  refine ct_aload0 dX6_init_15 ?_
  refine ct_bipush (84) dX6_init_16 (by decide) ?_
  refine ct_newarr 84 5 dX6_init_18 kz_176 (by decide) (by decide) (by decide) (by simp only [List.length_append, List.length_cons, List.length_nil, ct_l0, ct_l1, ct_l5, ct_l6, ct_l2, ct_l7, ct_l4, ct_l8, ct_l3]) (Nat.le_of_ble_eq_true rfl) (Nat.le_of_ble_eq_true rfl) ?_
  refine ct_putF 1 tyX6 [.ref (a + 1), .ref (a + 5), .null, .null, .null, .null, .null, .null, .null, .null, .null, .null, .null, .int 0, .int 0, .int 0, .int 0, .int 0] dX6_init_20 rfl in_6 tyX6_ok nmX6 (by decide) kz_330 rfl rfl rfl rfl (Nat.le_of_ble_eq_true rfl) rfl ?_
  refine ct_aload0 dX6_init_23 ?_
  refine ct_bipush (84) dX6_init_24 (by decide) ?_
  refine ct_newarr 84 6 dX6_init_26 kz_176 (by decide) (by decide) (by decide) (by simp only [List.length_append, List.length_cons, List.length_nil, ct_l0, ct_l1, ct_l5, ct_l6, ct_l2, ct_l7, ct_l4, ct_l8, ct_l3]) (Nat.le_of_ble_eq_true rfl) (Nat.le_of_ble_eq_true rfl) ?_
  refine ct_putF 2 tyX6 [.ref (a + 1), .ref (a + 5), .ref (a + 6), .null, .null, .null, .null, .null, .null, .null, .null, .null, .null, .int 0, .int 0, .int 0, .int 0, .int 0] dX6_init_28 rfl in_6 tyX6_ok nmX6 (by decide) kz_331 rfl rfl rfl rfl (Nat.le_of_ble_eq_true rfl) rfl ?_
  refine ct_aload0 dX6_init_31 ?_
  refine ct_bipush (84) dX6_init_32 (by decide) ?_
  refine ct_newarr 84 7 dX6_init_34 kz_176 (by decide) (by decide) (by decide) (by simp only [List.length_append, List.length_cons, List.length_nil, ct_l0, ct_l1, ct_l5, ct_l6, ct_l2, ct_l7, ct_l4, ct_l8, ct_l3]) (Nat.le_of_ble_eq_true rfl) (Nat.le_of_ble_eq_true rfl) ?_
  refine ct_putF 3 tyX6 [.ref (a + 1), .ref (a + 5), .ref (a + 6), .ref (a + 7), .null, .null, .null, .null, .null, .null, .null, .null, .null, .int 0, .int 0, .int 0, .int 0, .int 0] dX6_init_36 rfl in_6 tyX6_ok nmX6 (by decide) kz_332 rfl rfl rfl rfl (Nat.le_of_ble_eq_true rfl) rfl ?_
  refine ct_aload0 dX6_init_39 ?_
  refine ct_bipush (84) dX6_init_40 (by decide) ?_
  refine ct_newarr 84 8 dX6_init_42 kz_176 (by decide) (by decide) (by decide) (by simp only [List.length_append, List.length_cons, List.length_nil, ct_l0, ct_l1, ct_l5, ct_l6, ct_l2, ct_l7, ct_l4, ct_l8, ct_l3]) (Nat.le_of_ble_eq_true rfl) (Nat.le_of_ble_eq_true rfl) ?_
  refine ct_putF 4 tyX6 [.ref (a + 1), .ref (a + 5), .ref (a + 6), .ref (a + 7), .ref (a + 8), .null, .null, .null, .null, .null, .null, .null, .null, .int 0, .int 0, .int 0, .int 0, .int 0] dX6_init_44 rfl in_6 tyX6_ok nmX6 (by decide) kz_333 rfl rfl rfl rfl (Nat.le_of_ble_eq_true rfl) rfl ?_
  refine ct_aload0 dX6_init_47 ?_
  refine ct_bipush (84) dX6_init_48 (by decide) ?_
  refine ct_newarr 84 9 dX6_init_50 kz_176 (by decide) (by decide) (by decide) (by simp only [List.length_append, List.length_cons, List.length_nil, ct_l0, ct_l1, ct_l5, ct_l6, ct_l2, ct_l7, ct_l4, ct_l8, ct_l3]) (Nat.le_of_ble_eq_true rfl) (Nat.le_of_ble_eq_true rfl) ?_
  refine ct_putF 5 tyX6 [.ref (a + 1), .ref (a + 5), .ref (a + 6), .ref (a + 7), .ref (a + 8), .ref (a + 9), .null, .null, .null, .null, .null, .null, .null, .int 0, .int 0, .int 0, .int 0, .int 0] dX6_init_52 rfl in_6 tyX6_ok nmX6 (by decide) kz_334 rfl rfl rfl rfl (Nat.le_of_ble_eq_true rfl) rfl ?_
  refine ct_aload0 dX6_init_55 ?_
  refine ct_bipush (84) dX6_init_56 (by decide) ?_
  refine ct_newarr 84 10 dX6_init_58 kz_176 (by decide) (by decide) (by decide) (by simp only [List.length_append, List.length_cons, List.length_nil, ct_l0, ct_l1, ct_l5, ct_l6, ct_l2, ct_l7, ct_l4, ct_l8, ct_l3]) (Nat.le_of_ble_eq_true rfl) (Nat.le_of_ble_eq_true rfl) ?_
  refine ct_putF 6 tyX6 [.ref (a + 1), .ref (a + 5), .ref (a + 6), .ref (a + 7), .ref (a + 8), .ref (a + 9), .ref (a + 10), .null, .null, .null, .null, .null, .null, .int 0, .int 0, .int 0, .int 0, .int 0] dX6_init_60 rfl in_6 tyX6_ok nmX6 (by decide) kz_335 rfl rfl rfl rfl (Nat.le_of_ble_eq_true rfl) rfl ?_
  refine ct_aload0 dX6_init_63 ?_
  refine ct_bipush (84) dX6_init_64 (by decide) ?_
  refine ct_newarr 84 11 dX6_init_66 kz_176 (by decide) (by decide) (by decide) (by simp only [List.length_append, List.length_cons, List.length_nil, ct_l0, ct_l1, ct_l5, ct_l6, ct_l2, ct_l7, ct_l4, ct_l8, ct_l3]) (Nat.le_of_ble_eq_true rfl) (Nat.le_of_ble_eq_true rfl) ?_
  refine ct_putF 7 tyX6 [.ref (a + 1), .ref (a + 5), .ref (a + 6), .ref (a + 7), .ref (a + 8), .ref (a + 9), .ref (a + 10), .ref (a + 11), .null, .null, .null, .null, .null, .int 0, .int 0, .int 0, .int 0, .int 0] dX6_init_68 rfl in_6 tyX6_ok nmX6 (by decide) kz_336 rfl rfl rfl rfl (Nat.le_of_ble_eq_true rfl) rfl ?_
  refine ct_aload0 dX6_init_71 ?_
  refine ct_bipush (84) dX6_init_72 (by decide) ?_
  refine ct_newarr 84 12 dX6_init_74 kz_176 (by decide) (by decide) (by decide) (by simp only [List.length_append, List.length_cons, List.length_nil, ct_l0, ct_l1, ct_l5, ct_l6, ct_l2, ct_l7, ct_l4, ct_l8, ct_l3]) (Nat.le_of_ble_eq_true rfl) (Nat.le_of_ble_eq_true rfl) ?_
  refine ct_putF 8 tyX6 [.ref (a + 1), .ref (a + 5), .ref (a + 6), .ref (a + 7), .ref (a + 8), .ref (a + 9), .ref (a + 10), .ref (a + 11), .ref (a + 12), .null, .null, .null, .null, .int 0, .int 0, .int 0, .int 0, .int 0] dX6_init_76 rfl in_6 tyX6_ok nmX6 (by decide) kz_337 rfl rfl rfl rfl (Nat.le_of_ble_eq_true rfl) rfl ?_
  refine ct_aload0 dX6_init_79 ?_
  refine ct_bipush (84) dX6_init_80 (by decide) ?_
  refine ct_newarr 84 13 dX6_init_82 kz_176 (by decide) (by decide) (by decide) (by simp only [List.length_append, List.length_cons, List.length_nil, ct_l0, ct_l1, ct_l5, ct_l6, ct_l2, ct_l7, ct_l4, ct_l8, ct_l3]) (Nat.le_of_ble_eq_true rfl) (Nat.le_of_ble_eq_true rfl) ?_
  refine ct_putF 9 tyX6 [.ref (a + 1), .ref (a + 5), .ref (a + 6), .ref (a + 7), .ref (a + 8), .ref (a + 9), .ref (a + 10), .ref (a + 11), .ref (a + 12), .ref (a + 13), .null, .null, .null, .int 0, .int 0, .int 0, .int 0, .int 0] dX6_init_84 rfl in_6 tyX6_ok nmX6 (by decide) kz_338 rfl rfl rfl rfl (Nat.le_of_ble_eq_true rfl) rfl ?_
  refine ct_aload0 dX6_init_87 ?_
  refine ct_bipush (84) dX6_init_88 (by decide) ?_
  refine ct_newarr 84 14 dX6_init_90 kz_176 (by decide) (by decide) (by decide) (by simp only [List.length_append, List.length_cons, List.length_nil, ct_l0, ct_l1, ct_l5, ct_l6, ct_l2, ct_l7, ct_l4, ct_l8, ct_l3]) (Nat.le_of_ble_eq_true rfl) (Nat.le_of_ble_eq_true rfl) ?_
  refine ct_putF 10 tyX6 [.ref (a + 1), .ref (a + 5), .ref (a + 6), .ref (a + 7), .ref (a + 8), .ref (a + 9), .ref (a + 10), .ref (a + 11), .ref (a + 12), .ref (a + 13), .ref (a + 14), .null, .null, .int 0, .int 0, .int 0, .int 0, .int 0] dX6_init_92 rfl in_6 tyX6_ok nmX6 (by decide) kz_339 rfl rfl rfl rfl (Nat.le_of_ble_eq_true rfl) rfl ?_
  refine ct_aload0 dX6_init_95 ?_
  refine ct_bipush (84) dX6_init_96 (by decide) ?_
  refine ct_newarr 84 15 dX6_init_98 kz_176 (by decide) (by decide) (by decide) (by simp only [List.length_append, List.length_cons, List.length_nil, ct_l0, ct_l1, ct_l5, ct_l6, ct_l2, ct_l7, ct_l4, ct_l8, ct_l3]) (Nat.le_of_ble_eq_true rfl) (Nat.le_of_ble_eq_true rfl) ?_
  refine ct_putF 11 tyX6 [.ref (a + 1), .ref (a + 5), .ref (a + 6), .ref (a + 7), .ref (a + 8), .ref (a + 9), .ref (a + 10), .ref (a + 11), .ref (a + 12), .ref (a + 13), .ref (a + 14), .ref (a + 15), .null, .int 0, .int 0, .int 0, .int 0, .int 0] dX6_init_100 rfl in_6 tyX6_ok nmX6 (by decide) kz_340 rfl rfl rfl rfl (Nat.le_of_ble_eq_true rfl) rfl ?_
  refine ct_aload0 dX6_init_103 ?_
  refine ct_bipush (8) dX6_init_104 (by decide) ?_
  refine ct_newarr 8 16 dX6_init_106 kz_176 (by decide) (by decide) (by decide) (by simp only [List.length_append, List.length_cons, List.length_nil, ct_l0, ct_l1, ct_l5, ct_l6, ct_l2, ct_l7, ct_l4, ct_l8, ct_l3]) (Nat.le_of_ble_eq_true rfl) (Nat.le_of_ble_eq_true rfl) ?_
  refine ct_putF 12 tyX6 [.ref (a + 1), .ref (a + 5), .ref (a + 6), .ref (a + 7), .ref (a + 8), .ref (a + 9), .ref (a + 10), .ref (a + 11), .ref (a + 12), .ref (a + 13), .ref (a + 14), .ref (a + 15), .ref (a + 16), .int 0, .int 0, .int 0, .int 0, .int 0] dX6_init_108 rfl in_6 tyX6_ok nmX6 (by decide) kz_341 rfl rfl rfl rfl (Nat.le_of_ble_eq_true rfl) rfl ?_
  exact ct_ret [] _ dX6_init_111 rfl (by decide) (Nat.le_of_ble_eq_true rfl) (Nat.le_of_ble_eq_true rfl) rfl
theorem c_ct2 {g : ev_G} (a : Nat) : ct_Met g m_X2_init 2 a 2 40 1994 (fun _ => True) ct_f2 [] (ct_Qc g (ct_t2) a) (fun q => a ≤ q) := by
  refine ct_enter (L := [(0, .ref a)]) (by decide) rfl rfl rfl rfl rfl (Nat.le_of_ble_eq_true rfl) (fun q h => h) ?_
  refine ct_aload0 dX2_init_0 ?_
  refine ct_super dX2_init_1 kz_226 kz_140 kz_141 ?_
  refine ct_aload0 dX2_init_4 ?_
  refine ct_child1 ci_1 (0) 1 1 8 380 1 ct_f1 (ct_t1 0) tyX1 dX2_init_5 dX2_init_8 dX2_init_9 dX2_init_10 (by decide) rfl in_1 tyX1_ok ct_d1 kz_227 kz_228 kz_114 (Or.inr kz_229) (fun q => c_ct1 q (0)) (by simp only [List.length_append, List.length_cons, List.length_nil, ct_l0, ct_l1, ct_l5, ct_l6, ct_l2, ct_l7, ct_l4, ct_l8, ct_l3]) (Nat.le_of_ble_eq_true rfl) (Nat.le_of_ble_eq_true rfl) ct_l1 _ (Nat.le_of_ble_eq_true rfl) (Nat.le_of_ble_eq_true rfl) ?_
  refine ct_putF 0 tyX2 [.ref (a + 1), .null, .null, .null, .int 0, .int 0] dX2_init_13 rfl in_2 tyX2_ok nmX2 (by decide) kz_386 rfl rfl rfl rfl (Nat.le_of_ble_eq_true rfl) rfl ?_
  refine ct_aload0 dX2_init_16 ?_
  refine ct_child1 ci_1 (1) 1 1 8 380 10 ct_f1 (ct_t1 1) tyX1 dX2_init_17 dX2_init_20 dX2_init_21 dX2_init_22 (by decide) rfl in_1 tyX1_ok ct_d1 kz_227 kz_228 kz_114 (Or.inr kz_229) (fun q => c_ct1 q (1)) (by simp only [List.length_append, List.length_cons, List.length_nil, ct_l0, ct_l1, ct_l5, ct_l6, ct_l2, ct_l7, ct_l4, ct_l8, ct_l3]) (Nat.le_of_ble_eq_true rfl) (Nat.le_of_ble_eq_true rfl) ct_l1 _ (Nat.le_of_ble_eq_true rfl) (Nat.le_of_ble_eq_true rfl) ?_
  refine ct_putF 1 tyX2 [.ref (a + 1), .ref (a + 10), .null, .null, .int 0, .int 0] dX2_init_25 rfl in_2 tyX2_ok nmX2 (by decide) kz_387 rfl rfl rfl rfl (Nat.le_of_ble_eq_true rfl) rfl ?_
  refine ct_aload0 dX2_init_28 ?_
  refine ct_child0 ci_6 6 1 16 997 19 ct_f6 ct_t6 tyX6 dX2_init_29 dX2_init_32 dX2_init_33 rfl in_6 tyX6_ok ct_d6 kz_301 kz_302 kz_116 (Or.inl ⟨"MulePostBishops", List.mem_of_getElem? (i := 5) (by decide +kernel)⟩) c_ct6 (by simp only [List.length_append, List.length_cons, List.length_nil, ct_l0, ct_l1, ct_l5, ct_l6, ct_l2, ct_l7, ct_l4, ct_l8, ct_l3]) (Nat.le_of_ble_eq_true rfl) (Nat.le_of_ble_eq_true rfl) ct_l6 (Nat.le_of_ble_eq_true rfl) (Nat.le_of_ble_eq_true rfl) ?_
  refine ct_putF 2 tyX2 [.ref (a + 1), .ref (a + 10), .ref (a + 19), .null, .int 0, .int 0] dX2_init_36 rfl in_2 tyX2_ok nmX2 (by decide) kz_388 rfl rfl rfl rfl (Nat.le_of_ble_eq_true rfl) rfl ?_
  refine ct_aload0 dX2_init_39 ?_
  refine ct_child0 ci_0 0 0 4 188 36 ct_f0 ct_t0 tyX0 dX2_init_40 dX2_init_43 dX2_init_44 rfl in_0 tyX0_ok ct_d0 kz_384 kz_234 kz_115 (Or.inl ⟨"MulePostBishops", List.mem_of_getElem? (i := 7) (by decide +kernel)⟩) c_ct0 (by simp only [List.length_append, List.length_cons, List.length_nil, ct_l0, ct_l1, ct_l5, ct_l6, ct_l2, ct_l7, ct_l4, ct_l8, ct_l3]) (Nat.le_of_ble_eq_true rfl) (Nat.le_of_ble_eq_true rfl) ct_l0 (Nat.le_of_ble_eq_true rfl) (Nat.le_of_ble_eq_true rfl) ?_
  refine ct_putF 3 tyX2 [.ref (a + 1), .ref (a + 10), .ref (a + 19), .ref (a + 36), .int 0, .int 0] dX2_init_47 rfl in_2 tyX2_ok nmX2 (by decide) kz_389 rfl rfl rfl rfl (Nat.le_of_ble_eq_true rfl) rfl ?_
  exact ct_ret [] _ dX2_init_50 rfl (by decide) (Nat.le_of_ble_eq_true rfl) (Nat.le_of_ble_eq_true rfl) rfl
