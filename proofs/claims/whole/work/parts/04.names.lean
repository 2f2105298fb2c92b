/-! ===== names, words of the tables by their places, and what of the code tables is to be checked (printed by wip/whole/gen_facts.py) ===== -/
def lp_tb : List (List Jvm.Cond) := [tables_1_1, tables_1_2, tables_1_3, tables_1_4, tables_1_5, tables_1_6, tables_1_7]
def lp_wd (p : Nat) : Option Jvm.Cond := (lp_tb.getD (p / 1000) [])[p % 1000]?
theorem lp_wd_in {p : Nat} {w : Jvm.Cond} (h : lp_wd p = some w) : w ∈ tables_1 := by
  have h1 : w ∈ lp_tb.getD (p / 1000) [] := List.mem_of_getElem? h
  have h2 : ∀ i, lp_tb.getD i [] = [] ∨ lp_tb.getD i [] ∈ lp_tb := by
    intro i
    rw [List.getD_eq_getElem?_getD]
    cases hq : lp_tb[i]? with
    | none => exact Or.inl rfl
    | some x => exact Or.inr (List.mem_of_getElem? hq)
  rcases h2 (p / 1000) with e | e
  · rw [e] at h1; cases h1
  · generalize lp_tb.getD (p / 1000) [] = q at h1 e
    simp only [lp_tb, List.mem_cons, List.not_mem_nil, or_false] at e
    simp only [tables_1, List.mem_append]
    rcases e with e | e | e | e | e | e | e <;> rw [e] at h1 <;> simp [h1]
theorem lp_wd_tbl {p : Nat} {w : Jvm.Cond} (h : lp_wd p = some w) : w ∈ lw_tbl := List.mem_append_right _ (lp_wd_in h)
def lp_cn (c : Nat) : String := (bif Nat.ble 10 c then (bif Nat.ble 15 c then (bif Nat.ble 17 c then (bif Nat.ble 18 c then (bif Nat.ble 19 c then "LampPressesLaw" else "jdk/internal/util/Preconditions") else "java/util/Arrays") else (bif Nat.ble 16 c then "java/lang/System" else "java/lang/StringUTF16")) else (bif Nat.ble 12 c then (bif Nat.ble 13 c then (bif Nat.ble 14 c then "java/lang/StringLatin1" else "java/lang/String") else "java/lang/Math") else (bif Nat.ble 11 c then "java/lang/Integer" else "LampPressesModel"))) else (bif Nat.ble 5 c then (bif Nat.ble 7 c then (bif Nat.ble 8 c then (bif Nat.ble 9 c then "LampPresses" else "LampPresses$Tape") else "LampPresses$Solver") else (bif Nat.ble 6 c then "LampPresses$Search" else "LampPresses$Reader")) else (bif Nat.ble 2 c then (bif Nat.ble 3 c then (bif Nat.ble 4 c then "LampPresses$Past" else "LampPresses$Net") else "LampPresses$Line") else (bif Nat.ble 1 c then "LampPresses$Levels" else "LampPresses$Book"))))
def lp_T0 : u_T := fun k => match k with
  | 0 => ("LampPresses$Book", "size", "I", false)
  | 1 => ("LampPresses$Book", "lampOf", "[I", true)
  | _ => ("LampPresses$Book", "timesOf", "[I", true)
def lp_T1 : u_T := fun k => match k with
  | 0 => ("LampPresses$Levels", "known", "Z", false)
  | 1 => ("LampPresses$Levels", "farKnown", "Z", false)
  | 2 => ("LampPresses$Levels", "deepest", "I", false)
  | 3 => ("LampPresses$Levels", "counts", "[I", true)
  | 4 => ("LampPresses$Levels", "far", "[I", true)
  | 5 => ("LampPresses$Levels", "turning", "[I", true)
  | 6 => ("LampPresses$Levels", "turningSize", "I", false)
  | 7 => ("LampPresses$Levels", "steadySize", "I", false)
  | 8 => ("LampPresses$Levels", "first", "[I", true)
  | 9 => ("LampPresses$Levels", "way", "[I", true)
  | _ => ("LampPresses$Levels", "search", "LLampPresses$Search;", true)
def lp_T2 : u_T := fun k => match k with
  | 0 => ("LampPresses$Line", "known", "Z", false)
  | 1 => ("LampPresses$Line", "length", "I", false)
  | _ => ("LampPresses$Line", "bytes", "[B", true)
def lp_T3 : u_T := fun k => match k with
  | 0 => ("LampPresses$Net", "states", "I", false)
  | 1 => ("LampPresses$Net", "lamps", "I", false)
  | 2 => ("LampPresses$Net", "pressed", "I", false)
  | 3 => ("LampPresses$Net", "shows", "[I", true)
  | 4 => ("LampPresses$Net", "goals", "[I", true)
  | 5 => ("LampPresses$Net", "steps", "[[I", true)
  | _ => ("LampPresses$Net", "entries", "LLampPresses$Book;", true)
def lp_T4 : u_T := fun k => match k with
  | 0 => ("LampPresses$Past", "size", "I", false)
  | 1 => ("LampPresses$Past", "next", "I", false)
  | _ => ("LampPresses$Past", "kept", "[LLampPresses$Net;", true)
def lp_T5 : u_T := fun k => match k with
  | 0 => ("LampPresses$Reader", "draft", "LLampPresses$Net;", true)
  | 1 => ("LampPresses$Reader", "tape", "LLampPresses$Tape;", true)
  | 2 => ("LampPresses$Reader", "kind", "I", false)
  | 3 => ("LampPresses$Reader", "start", "I", false)
  | _ => ("LampPresses$Reader", "end", "I", false)
def lp_T6 : u_T := fun k => match k with
  | 0 => ("LampPresses$Search", "known", "Z", false)
  | 1 => ("LampPresses$Search", "best", "I", false)
  | 2 => ("LampPresses$Search", "found", "[I", true)
  | 3 => ("LampPresses$Search", "tried", "[I", true)
  | _ => ("LampPresses$Search", "byLamps", "Z", true)
def lp_T7 : u_T := fun k => match k with
  | 0 => ("LampPresses$Solver", "known", "Z", false)
  | 1 => ("LampPresses$Solver", "rank", "I", false)
  | 2 => ("LampPresses$Solver", "free", "I", false)
  | 3 => ("LampPresses$Solver", "states", "I", false)
  | 4 => ("LampPresses$Solver", "size", "I", false)
  | 5 => ("LampPresses$Solver", "left", "[[I", true)
  | 6 => ("LampPresses$Solver", "made", "[[I", true)
  | 7 => ("LampPresses$Solver", "rowOf", "[I", true)
  | 8 => ("LampPresses$Solver", "turned", "[I", true)
  | 9 => ("LampPresses$Solver", "chosen", "[I", true)
  | _ => ("LampPresses$Solver", "bases", "[[I", true)
def lp_T8 : u_T := fun k => match k with
  | 0 => ("LampPresses$Tape", "length", "I", false)
  | _ => ("LampPresses$Tape", "bytes", "[B", true)
def lp_T9 : u_T := fun k => match k with
  | 0 => ("LampPresses", "net", "LLampPresses$Net;", true)
  | 1 => ("LampPresses", "past", "LLampPresses$Past;", true)
  | 2 => ("LampPresses", "reader", "LLampPresses$Reader;", true)
  | 3 => ("LampPresses", "tape", "LLampPresses$Tape;", true)
  | 4 => ("LampPresses", "solver", "LLampPresses$Solver;", true)
  | 5 => ("LampPresses", "trial", "LLampPresses$Solver;", true)
  | 6 => ("LampPresses", "fewestRow", "LLampPresses$Search;", true)
  | 7 => ("LampPresses", "sparestRow", "LLampPresses$Search;", true)
  | 8 => ("LampPresses", "levelRow", "LLampPresses$Search;", true)
  | 9 => ("LampPresses", "levels", "LLampPresses$Levels;", true)
  | 10 => ("LampPresses", "spelled", "LLampPresses$Line;", true)
  | 11 => ("LampPresses", "reported", "LLampPresses$Line;", true)
  | 12 => ("LampPresses", "change", "[I", true)
  | 13 => ("LampPresses", "row", "[I", true)
  | 14 => ("LampPresses", "firstPlan", "[I", true)
  | 15 => ("LampPresses", "hasPlan", "Z", false)
  | _ => ("LampPresses", "planKnown", "Z", false)
def lp_T10 : u_T := fun k => match k with
  | 0 => ("LampPressesModel", "thrown", "I", false)
  | 1 => ("LampPressesModel", "now", "[I", true)
  | 2 => ("LampPressesModel", "read", "[I", true)
  | 3 => ("LampPressesModel", "then", "[I", true)
  | 4 => ("LampPressesModel", "before", "[I", true)
  | 5 => ("LampPressesModel", "acts", "I", false)
  | 6 => ("LampPressesModel", "who", "[I", true)
  | 7 => ("LampPressesModel", "span", "[I", true)
  | 8 => ("LampPressesModel", "isBegun", "[Z", true)
  | 9 => ("LampPressesModel", "spanRank", "[I", true)
  | 10 => ("LampPressesModel", "vector", "[I", true)
  | 11 => ("LampPressesModel", "wanted", "[I", true)
  | 12 => ("LampPressesModel", "rowNow", "[I", true)
  | 13 => ("LampPressesModel", "bases", "[I", true)
  | 14 => ("LampPressesModel", "chosen", "[I", true)
  | 15 => ("LampPressesModel", "baseRow", "[I", true)
  | 16 => ("LampPressesModel", "baseMany", "I", false)
  | 17 => ("LampPressesModel", "bestRow", "[I", true)
  | 18 => ("LampPressesModel", "tryRow", "[I", true)
  | 19 => ("LampPressesModel", "timesOf", "[I", true)
  | 20 => ("LampPressesModel", "bestCost", "I", false)
  | 21 => ("LampPressesModel", "farOf", "[I", true)
  | 22 => ("LampPressesModel", "shownRow", "[I", true)
  | 23 => ("LampPressesModel", "levels", "[I", true)
  | 24 => ("LampPressesModel", "queue", "[I", true)
  | 25 => ("LampPressesModel", "queued", "I", false)
  | 26 => ("LampPressesModel", "laidBy", "[I", true)
  | 27 => ("LampPressesModel", "text", "[I", true)
  | 28 => ("LampPressesModel", "textMany", "I", false)
  | 29 => ("LampPressesModel", "tape", "[I", true)
  | 30 => ("LampPressesModel", "taped", "I", false)
  | 31 => ("LampPressesModel", "words", "[B", true)
  | 32 => ("LampPressesModel", "spot", "I", false)
  | 33 => ("LampPressesModel", "token", "I", false)
  | 34 => ("LampPressesModel", "begun", "I", false)
  | 35 => ("LampPressesModel", "number", "I", false)
  | _ => ("LampPressesModel", "wrong", "Z", false)
def lp_T (c : Nat) : u_T := (bif Nat.ble 5 c then (bif Nat.ble 8 c then (bif Nat.ble 9 c then (bif Nat.ble 10 c then lp_T10 else lp_T9) else lp_T8) else (bif Nat.ble 6 c then (bif Nat.ble 7 c then lp_T7 else lp_T6) else lp_T5)) else (bif Nat.ble 2 c then (bif Nat.ble 3 c then (bif Nat.ble 4 c then lp_T4 else lp_T3) else lp_T2) else (bif Nat.ble 1 c then lp_T1 else lp_T0)))
def lp_nf (c : Nat) : Nat := (bif Nat.ble 5 c then (bif Nat.ble 8 c then (bif Nat.ble 9 c then (bif Nat.ble 10 c then 37 else 17) else 2) else (bif Nat.ble 6 c then (bif Nat.ble 7 c then 11 else 5) else 5)) else (bif Nat.ble 2 c then (bif Nat.ble 3 c then (bif Nat.ble 4 c then 3 else 7) else 3) else (bif Nat.ble 1 c then 11 else 3)))
/-- whether a place of an object holds a reference -/
def lp_isR (c j : Nat) : Bool := ((bif Nat.ble 5 c then (bif Nat.ble 8 c then (bif Nat.ble 9 c then (bif Nat.ble 10 c then [false, true, true, true, true, false, true, true, true, true, true, true, true, true, true, true, false, true, true, true, false, true, true, true, true, false, true, true, false, true, false, true, false, false, false, false, false] else [true, true, true, true, true, true, true, true, true, true, true, true, true, true, true, false, false]) else [false, true]) else (bif Nat.ble 6 c then (bif Nat.ble 7 c then [false, false, false, false, false, true, true, true, true, true, true] else [false, false, true, true, false]) else [true, true, false, false, false])) else (bif Nat.ble 2 c then (bif Nat.ble 3 c then (bif Nat.ble 4 c then [false, false, true] else [false, false, false, true, true, true, true]) else [false, false, true]) else (bif Nat.ble 1 c then [false, false, false, true, true, true, false, false, true, true, true] else [false, true, true]))) : List Bool).getD j false
def lp_cl : List vw_C := [(lp_cn 0, lp_T 0, lp_nf 0), (lp_cn 1, lp_T 1, lp_nf 1), (lp_cn 2, lp_T 2, lp_nf 2), (lp_cn 3, lp_T 3, lp_nf 3), (lp_cn 4, lp_T 4, lp_nf 4), (lp_cn 5, lp_T 5, lp_nf 5), (lp_cn 6, lp_T 6, lp_nf 6), (lp_cn 7, lp_T 7, lp_nf 7), (lp_cn 8, lp_T 8, lp_nf 8), (lp_cn 9, lp_T 9, lp_nf 9), (lp_cn 10, lp_T 10, lp_nf 10)]
def lp_lp (c j : Nat) : Nat := ((bif Nat.ble 5 c then (bif Nat.ble 8 c then (bif Nat.ble 9 c then (bif Nat.ble 10 c then [4141, 4143, 4145, 4147, 4149, 4151, 4153, 4155, 4157, 4159, 4161, 4163, 4165, 4167, 4169, 4171, 4173, 4175, 4177, 4179, 4181, 4183, 4185, 4187, 4189, 4191, 4193, 4195, 4197, 4199, 4201, 4203, 4205, 4207, 4209, 4211, 4213] else [1072, 1074, 1076, 1078, 1080, 1082, 1084, 1086, 1088, 1090, 1092, 1094, 1096, 1098, 1100, 1102, 1104]) else [132, 134]) else (bif Nat.ble 6 c then (bif Nat.ble 7 c then [182, 184, 186, 188, 190, 192, 194, 196, 198, 200, 202] else [219, 221, 223, 225, 227]) else [145, 147, 149, 151, 153])) else (bif Nat.ble 2 c then (bif Nat.ble 3 c then (bif Nat.ble 4 c then [106, 108, 110] else [78, 80, 82, 84, 86, 88, 90]) else [1048, 1050, 1052]) else (bif Nat.ble 1 c then [1012, 1014, 1016, 1018, 1020, 1022, 1024, 1026, 1028, 1030, 1032] else [47, 49, 51]))) : List Nat).getD j 0
theorem lp_lay_ok : ∀ c, c < 11 → ∀ k, k < lp_nf c → lp_wd (lp_lp c k) = some (u_lay (lp_cn c) (lp_T c) k) := by decide +kernel
theorem lp_hin : ∀ c, c < 11 → ∀ w ∈ u_ws (lp_cn c) (lp_T c) (lp_nf c), w ∈ lw_tbl := fun c hc w hw => by
  obtain ⟨k, hk, rfl⟩ := List.mem_map.mp hw
  exact lp_wd_tbl (lp_lay_ok c hc k (List.mem_range.mp hk))
def lp_ty (c k : Nat) : FieldType := (parseFieldDescriptor (lp_T c k).2.2.1).getD .int
theorem lp_hty : ∀ c, c < 11 → ∀ k, k < lp_nf c → parseFieldDescriptor (lp_T c k).2.2.1 = some (lp_ty c k) := by decide +kernel
theorem lp_hnm : ∀ c, c < 11 → ∀ a, a < lp_nf c → ∀ b, b < lp_nf c → a ≠ b → (lp_T c a).2.1 ≠ (lp_T c b).2.1 := by decide +kernel
theorem lp_hdc : ∀ c, c < 11 → ∀ k, k < lp_nf c → (lp_T c k).1 = lp_cn c := by decide +kernel
theorem lp_hcl : ∀ c, c < 11 → lp_cl[c]? = some (lp_cn c, lp_T c, lp_nf c) := by
  intro c hc
  have h : c = 0 ∨ c = 1 ∨ c = 2 ∨ c = 3 ∨ c = 4 ∨ c = 5 ∨ c = 6 ∨ c = 7 ∨ c = 8 ∨ c = 9 ∨ c = 10 := by omega
  rcases h with rfl | rfl | rfl | rfl | rfl | rfl | rfl | rfl | rfl | rfl | rfl <;> rfl
def lp_ip (c : Nat) : Nat := ([3, 9, 10, 2, 4, 5, 8, 7, 6, 1, 12, 19, 11, 13, 14, 16, 17, 18, 15, 0] : List Nat).getD c 0
theorem lp_ini_ok : ∀ c, c < 20 → lp_wd (lp_ip c) = some (.initialized (lp_cn c)) := by decide +kernel
def lp_np (c : Nat) : Nat := ([37, 231, 1036, 29, 94, 114, 206, 157, 122, 21, 4096] : List Nat).getD c 0
theorem lp_new_ok : ∀ c, c < 11 → lp_wd (lp_np c) = some (.instantiable (lp_cn c) (lp_nf c)) := by decide +kernel
def lp_ow (m : Nat) : Nat := (bif Nat.ble 77 m then (bif Nat.ble 290 m then (bif Nat.ble 292 m then (bif Nat.ble 293 m then (bif Nat.ble 294 m then 0 else 19) else 18) else (bif Nat.ble 291 m then 17 else 14)) else (bif Nat.ble 282 m then (bif Nat.ble 283 m then (bif Nat.ble 285 m then 13 else 12) else 11) else (bif Nat.ble 162 m then 10 else 9))) else (bif Nat.ble 36 m then (bif Nat.ble 54 m then (bif Nat.ble 58 m then (bif Nat.ble 75 m then 8 else 7) else 6) else (bif Nat.ble 39 m then 5 else 4)) else (bif Nat.ble 11 m then (bif Nat.ble 17 m then 3 else 2) else (bif Nat.ble 4 m then 1 else 0))))
def lp_nd (m : Nat) : String × String := (bif Nat.ble 147 m then (bif Nat.ble 220 m then (bif Nat.ble 257 m then (bif Nat.ble 275 m then (bif Nat.ble 284 m then (bif Nat.ble 289 m then (bif Nat.ble 291 m then (bif Nat.ble 292 m then (bif Nat.ble 293 m then ("law", "([I)Z") else ("checkIndex", "(IILjava/util/function/BiFunction;)I")) else ("fill", "([II)V")) else (bif Nat.ble 290 m then ("charAt", "([BI)C") else ("checkIndex", "(II)V"))) else (bif Nat.ble 286 m then (bif Nat.ble 287 m then (bif Nat.ble 288 m then ("isLatin1", "()Z") else ("coder", "()B")) else ("charAt", "(I)C")) else (bif Nat.ble 285 m then ("length", "()I") else ("min", "(II)I")))) else (bif Nat.ble 279 m then (bif Nat.ble 281 m then (bif Nat.ble 282 m then (bif Nat.ble 283 m then ("max", "(II)I") else ("bitCount", "(I)I")) else ("text", "()I")) else (bif Nat.ble 280 m then ("readsOne", "(Z)V") else ("readsWire", "()V"))) else (bif Nat.ble 277 m then (bif Nat.ble 278 m then ("readsLamp", "(I)V") else ("readsStates", "()V")) else (bif Nat.ble 276 m then ("needsNumber", "(II)I") else ("takesWord", "(I)Z"))))) else (bif Nat.ble 266 m then (bif Nat.ble 270 m then (bif Nat.ble 272 m then (bif Nat.ble 273 m then (bif Nat.ble 274 m then ("goesOn", "()V") else ("here", "()I")) else ("wordFrom", "(I)I")) else (bif Nat.ble 271 m then ("back", "(I)I") else ("feed", "(IIIII)I"))) else (bif Nat.ble 268 m then (bif Nat.ble 269 m then ("count", "(I)I") else ("litMany", "()I")) else (bif Nat.ble 267 m then ("report", "(I)I") else ("spell", "(I)I")))) else (bif Nat.ble 261 m then (bif Nat.ble 263 m then (bif Nat.ble 264 m then (bif Nat.ble 265 m then ("writesWire", "(II)V") else ("writesLamp", "(I)V")) else ("toldText", "(I)I")) else (bif Nat.ble 262 m then ("writesNumber", "(I)V") else ("writesWord", "(I)V"))) else (bif Nat.ble 259 m then (bif Nat.ble 260 m then ("writes", "(I)V") else ("even", "()I")) else (bif Nat.ble 258 m then ("mend", "()I") else ("without", "(I)I")))))) else (bif Nat.ble 238 m then (bif Nat.ble 247 m then (bif Nat.ble 252 m then (bif Nat.ble 254 m then (bif Nat.ble 255 m then (bif Nat.ble 256 m then ("byWire", "(III)I") else ("byOwn", "(II)I")) else ("far", "(I)I")) else (bif Nat.ble 253 m then ("levelOf", "(I)I") else ("level", "(I)I"))) else (bif Nat.ble 249 m then (bif Nat.ble 250 m then (bif Nat.ble 251 m then ("deepest", "()I") else ("laysLevels", "()V")) else ("behind", "(II)I")) else (bif Nat.ble 248 m then ("digitOf", "(II)I") else ("wayNow", "()I")))) else (bif Nat.ble 242 m then (bif Nat.ble 244 m then (bif Nat.ble 245 m then (bif Nat.ble 246 m then ("isLeveled", "()Z") else ("book", "(II)I")) else ("hub", "()I")) else (bif Nat.ble 243 m then ("ways", "()I") else ("cycle", "(I)I"))) else (bif Nat.ble 240 m then (bif Nat.ble 241 m then ("after", "(II)I") else ("greedy", "(I)I")) else (bif Nat.ble 239 m then ("offBehind", "(I)I") else ("only", "(I)I"))))) else (bif Nat.ble 229 m then (bif Nat.ble 233 m then (bif Nat.ble 235 m then (bif Nat.ble 236 m then (bif Nat.ble 237 m then ("part", "(I)I") else ("areLamps", "(I)Z")) else ("same", "(II)I")) else (bif Nat.ble 234 m then ("distance", "(II)I") else ("parts", "()I"))) else (bif Nat.ble 231 m then (bif Nat.ble 232 m then ("laysFar", "(I)V") else ("off", "()I")) else (bif Nat.ble 230 m then ("offNow", "()I") else ("hardest", "()I")))) else (bif Nat.ble 224 m then (bif Nat.ble 226 m then (bif Nat.ble 227 m then (bif Nat.ble 228 m then ("alones", "()I") else ("alone", "(I)I")) else ("aloneOf", "(I)I")) else (bif Nat.ble 225 m then ("fixed", "(I)I") else ("sparest", "(I)I"))) else (bif Nat.ble 222 m then (bif Nat.ble 223 m then ("fewest", "(I)I") else ("bestOf", "(IZ)I")) else (bif Nat.ble 221 m then ("looksBest", "(Z)I") else ("isAhead", "([I[I)Z"))))))) else (bif Nat.ble 183 m then (bif Nat.ble 201 m then (bif Nat.ble 210 m then (bif Nat.ble 215 m then (bif Nat.ble 217 m then (bif Nat.ble 218 m then (bif Nat.ble 219 m then ("pressedLamps", "([I)I") else ("plan", "(I)I")) else ("plans", "()I")) else (bif Nat.ble 216 m then ("planMany", "()I") else ("base", "(II)I"))) else (bif Nat.ble 212 m then (bif Nat.ble 213 m then (bif Nat.ble 214 m then ("quiet", "()I") else ("rank", "()I")) else ("rankNow", "()I")) else (bif Nat.ble 211 m then ("weight", "(II)I") else ("of", "(II)I")))) else (bif Nat.ble 205 m then (bif Nat.ble 207 m then (bif Nat.ble 208 m then (bif Nat.ble 209 m then ("laysBases", "()V") else ("sumOf", "([I)I")) else ("findsPlan", "([I)Z")) else (bif Nat.ble 206 m then ("rowFrom", "(I[I)V") else ("wantsLess", "(II)V"))) else (bif Nat.ble 203 m then (bif Nat.ble 204 m then ("isReached", "(I)Z") else ("wantsGoals", "()V")) else (bif Nat.ble 202 m then ("power", "(I)I") else ("allLamps", "()I"))))) else (bif Nat.ble 192 m then (bif Nat.ble 196 m then (bif Nat.ble 198 m then (bif Nat.ble 199 m then (bif Nat.ble 200 m then ("joins", "(I)V") else ("spans", "(II)V")) else ("inverse", "(I)I")) else (bif Nat.ble 197 m then ("fallsIn", "(I)Z") else ("spanAt", "(II)I"))) else (bif Nat.ble 194 m then (bif Nat.ble 195 m then ("undo", "()I") else ("scale", "(I)I")) else (bif Nat.ble 193 m then ("wireMany", "()I") else ("lift", "(I)I")))) else (bif Nat.ble 187 m then (bif Nat.ble 189 m then (bif Nat.ble 190 m then (bif Nat.ble 191 m then ("isWired", "(IIIII)Z") else ("lay", "(III)I")) else ("solve", "()I")) else (bif Nat.ble 188 m then ("aim", "()I") else ("press", "(II)I"))) else (bif Nat.ble 185 m then (bif Nat.ble 186 m then ("presses", "(II)V") else ("stepOf", "(II)I")) else (bif Nat.ble 184 m then ("show", "(II)I") else ("goal", "(II)I")))))) else (bif Nat.ble 165 m then (bif Nat.ble 174 m then (bif Nat.ble 178 m then (bif Nat.ble 180 m then (bif Nat.ble 181 m then (bif Nat.ble 182 m then ("own", "(II)I") else ("sets", "(III)I")) else ("wire", "(III)I")) else (bif Nat.ble 179 m then ("wires", "([IIII)V") else ("mirror", "()I"))) else (bif Nat.ble 176 m then (bif Nat.ble 177 m then ("swap", "(II)Z") else ("drop", "(I)Z")) else (bif Nat.ble 175 m then ("stands", "([II)V") else ("lamp", "(I)I")))) else (bif Nat.ble 169 m then (bif Nat.ble 171 m then (bif Nat.ble 172 m then (bif Nat.ble 173 m then ("adds", "([II)V") else ("wireAt", "(II)I")) else ("isState", "(I)Z")) else (bif Nat.ble 170 m then ("isLamp", "(I)Z") else ("many", "()I"))) else (bif Nat.ble 167 m then (bif Nat.ble 168 m then ("m", "()I") else ("keeps", "()V")) else (bif Nat.ble 166 m then ("copies", "([I[I)V") else ("starts", "([I)V"))))) else (bif Nat.ble 156 m then (bif Nat.ble 160 m then (bif Nat.ble 162 m then (bif Nat.ble 163 m then (bif Nat.ble 164 m then ("has", "(II)Z") else ("in", "(III)Z")) else ("<init>", "()V")) else (bif Nat.ble 161 m then ("sum", "([II)I") else ("power", "(II)I"))) else (bif Nat.ble 158 m then (bif Nat.ble 159 m then ("mod", "(II)I") else ("areJoined", "(IIIII)Z")) else (bif Nat.ble 157 m then ("isLayout", "(III)Z") else ("writeFewest", "()V")))) else (bif Nat.ble 151 m then (bif Nat.ble 153 m then (bif Nat.ble 154 m then (bif Nat.ble 155 m then ("writeWire", "(II)V") else ("writeLamp", "(I)V")) else ("writeNet", "()V")) else (bif Nat.ble 152 m then ("plansWith", "(III)I") else ("greediest", "(I)I"))) else (bif Nat.ble 149 m then (bif Nat.ble 150 m then ("reachedFrom", "(I)I") else ("pressesForOne", "(I)I")) else (bif Nat.ble 148 m then ("bestPlan", "(LLampPresses$Search;I)I") else ("setChangeToGoals", "()V")))))))) else (bif Nat.ble 73 m then (bif Nat.ble 110 m then (bif Nat.ble 128 m then (bif Nat.ble 137 m then (bif Nat.ble 142 m then (bif Nat.ble 144 m then (bif Nat.ble 145 m then (bif Nat.ble 146 m then ("quietRows", "()I") else ("arePlansTold", "()Z")) else ("areLevelsTold", "()Z")) else (bif Nat.ble 143 m then ("allWays", "()I") else ("isSet", "(I)Z"))) else (bif Nat.ble 139 m then (bif Nat.ble 140 m then (bif Nat.ble 141 m then ("isPair", "(II)Z") else ("measureLevels", "()V")) else ("findBest", "(LLampPresses$Search;)V")) else (bif Nat.ble 138 m then ("findPlan", "()V") else ("settle", "()V")))) else (bif Nat.ble 132 m then (bif Nat.ble 134 m then (bif Nat.ble 135 m then (bif Nat.ble 136 m then ("stepsChange", "()V") else ("statesChange", "()V")) else ("keepForSteps", "()V")) else (bif Nat.ble 133 m then ("keepForStates", "()V") else ("count", "(I)I"))) else (bif Nat.ble 130 m then (bif Nat.ble 131 m then ("report", "(I)I") else ("spell", "(I)I")) else (bif Nat.ble 129 m then ("even", "()I") else ("mend", "()I"))))) else (bif Nat.ble 119 m then (bif Nat.ble 123 m then (bif Nat.ble 125 m then (bif Nat.ble 126 m then (bif Nat.ble 127 m then ("without", "(I)I") else ("byWire", "(III)I")) else ("byOwn", "(II)I")) else (bif Nat.ble 124 m then ("far", "(I)I") else ("levelOf", "(I)I"))) else (bif Nat.ble 121 m then (bif Nat.ble 122 m then ("level", "(I)I") else ("deepest", "()I")) else (bif Nat.ble 120 m then ("book", "(II)I") else ("hub", "()I")))) else (bif Nat.ble 114 m then (bif Nat.ble 116 m then (bif Nat.ble 117 m then (bif Nat.ble 118 m then ("ways", "()I") else ("cycle", "(I)I")) else ("after", "(II)I")) else (bif Nat.ble 115 m then ("hardest", "()I") else ("greedy", "(I)I"))) else (bif Nat.ble 112 m then (bif Nat.ble 113 m then ("sparest", "(I)I") else ("only", "(I)I")) else (bif Nat.ble 111 m then ("part", "(I)I") else ("same", "(II)I")))))) else (bif Nat.ble 91 m then (bif Nat.ble 100 m then (bif Nat.ble 105 m then (bif Nat.ble 107 m then (bif Nat.ble 108 m then (bif Nat.ble 109 m then ("distance", "(II)I") else ("parts", "()I")) else ("off", "()I")) else (bif Nat.ble 106 m then ("alones", "()I") else ("alone", "(I)I"))) else (bif Nat.ble 102 m then (bif Nat.ble 103 m then (bif Nat.ble 104 m then ("fixed", "(I)I") else ("fewest", "(I)I")) else ("plan", "(I)I")) else (bif Nat.ble 101 m then ("plans", "()I") else ("base", "(II)I")))) else (bif Nat.ble 95 m then (bif Nat.ble 97 m then (bif Nat.ble 98 m then (bif Nat.ble 99 m then ("quiet", "()I") else ("rank", "()I")) else ("weight", "(II)I")) else (bif Nat.ble 96 m then ("of", "(II)I") else ("undo", "()I"))) else (bif Nat.ble 93 m then (bif Nat.ble 94 m then ("mirror", "()I") else ("scale", "(I)I")) else (bif Nat.ble 92 m then ("lift", "(I)I") else ("swap", "(II)Z"))))) else (bif Nat.ble 82 m then (bif Nat.ble 86 m then (bif Nat.ble 88 m then (bif Nat.ble 89 m then (bif Nat.ble 90 m then ("lay", "(III)I") else ("solve", "()I")) else ("aim", "()I")) else (bif Nat.ble 87 m then ("press", "(II)I") else ("show", "(II)I"))) else (bif Nat.ble 84 m then (bif Nat.ble 85 m then ("goal", "(II)I") else ("own", "(II)I")) else (bif Nat.ble 83 m then ("wire", "(III)I") else ("drop", "(I)Z")))) else (bif Nat.ble 77 m then (bif Nat.ble 79 m then (bif Nat.ble 80 m then (bif Nat.ble 81 m then ("lamp", "(I)I") else ("text", "()I")) else ("back", "(I)I")) else (bif Nat.ble 78 m then ("feed", "(IIIII)I") else ("<init>", "()V"))) else (bif Nat.ble 75 m then (bif Nat.ble 76 m then ("put", "(I)V") else ("<init>", "()V")) else (bif Nat.ble 74 m then ("addBase", "(I[I)V") else ("isMoved", "(I)Z"))))))) else (bif Nat.ble 36 m then (bif Nat.ble 54 m then (bif Nat.ble 63 m then (bif Nat.ble 68 m then (bif Nat.ble 70 m then (bif Nat.ble 71 m then (bif Nat.ble 72 m then ("isChosen", "(I)Z") else ("firstRow", "([I)V")) else ("fits", "([I)Z")) else (bif Nat.ble 69 m then ("fillBase", "([II)V") else ("findBases", "()V"))) else (bif Nat.ble 65 m then (bif Nat.ble 66 m then (bif Nat.ble 67 m then ("addTimes", "([I[II)V") else ("clearOthers", "(I)V")) else ("inverse", "(I)I")) else (bif Nat.ble 64 m then ("bringUp", "(II)V") else ("rowWith", "(I)I")))) else (bif Nat.ble 58 m then (bif Nat.ble 60 m then (bif Nat.ble 61 m then (bif Nat.ble 62 m then ("reduce", "()V") else ("clearColumn", "(I)V")) else ("clearRow", "(I)V")) else (bif Nat.ble 59 m then ("load", "(LLampPresses$Net;)V") else ("<init>", "()V"))) else (bif Nat.ble 56 m then (bif Nat.ble 57 m then ("price", "(II)I") else ("descend", "(LLampPresses$Search;LLampPresses$Solver;II)V")) else (bif Nat.ble 55 m then ("seek", "(LLampPresses$Solver;[I)V") else ("<init>", "(Z)V"))))) else (bif Nat.ble 45 m then (bif Nat.ble 49 m then (bif Nat.ble 51 m then (bif Nat.ble 52 m then (bif Nat.ble 53 m then ("isGap", "(I)Z") else ("isSpelled", "(I)Z")) else ("byteAt", "(I)I")) else (bif Nat.ble 50 m then ("kindAt", "(I)I") else ("advance", "()V"))) else (bif Nat.ble 47 m then (bif Nat.ble 48 m then ("isWord", "(Ljava/lang/String;)Z") else ("digit", "()I")) else (bif Nat.ble 46 m then ("takeStop", "()Z") else ("takeNumber", "(II)I")))) else (bif Nat.ble 40 m then (bif Nat.ble 42 m then (bif Nat.ble 43 m then (bif Nat.ble 44 m then ("takeOption", "(Ljava/lang/String;III)I") else ("readWire", "()Z")) else ("readLamp", "()Z")) else (bif Nat.ble 41 m then ("readStates", "()Z") else ("read", "()I"))) else (bif Nat.ble 38 m then (bif Nat.ble 39 m then ("<init>", "()V") else ("bringBack", "(LLampPresses$Net;)V")) else (bif Nat.ble 37 m then ("keep", "(LLampPresses$Net;)V") else ("<init>", "()V")))))) else (bif Nat.ble 18 m then (bif Nat.ble 27 m then (bif Nat.ble 31 m then (bif Nat.ble 33 m then (bif Nat.ble 34 m then (bif Nat.ble 35 m then ("spread", "(I)I") else ("neighbours", "(I)I")) else ("stepsAndWires", "()I")) else (bif Nat.ble 32 m then ("wires", "()I") else ("lit", "()I"))) else (bif Nat.ble 29 m then (bif Nat.ble 30 m then ("missedBehind", "([II)I") else ("missed", "()I")) else (bif Nat.ble 28 m then ("stepOnce", "([II)V") else ("pressLamp", "(II)V")))) else (bif Nat.ble 22 m then (bif Nat.ble 24 m then (bif Nat.ble 25 m then (bif Nat.ble 26 m then ("exchangeIn", "([III)V") else ("exchange", "(II)V")) else ("join", "(III)V")) else (bif Nat.ble 23 m then ("remove", "(I)V") else ("add", "(III)V"))) else (bif Nat.ble 20 m then (bif Nat.ble 21 m then ("copyFrom", "(LLampPresses$Net;)V") else ("empty", "()V")) else (bif Nat.ble 19 m then ("isState", "(I)Z") else ("has", "(I)Z"))))) else (bif Nat.ble 9 m then (bif Nat.ble 13 m then (bif Nat.ble 15 m then (bif Nat.ble 16 m then (bif Nat.ble 17 m then ("<init>", "()V") else ("answer", "(I)I")) else ("putByte", "(I)V")) else (bif Nat.ble 14 m then ("put", "(Ljava/lang/String;I)V") else ("put", "(Ljava/lang/String;)V"))) else (bif Nat.ble 11 m then (bif Nat.ble 12 m then ("start", "()V") else ("<init>", "(I)V")) else (bif Nat.ble 10 m then ("spreadCounts", "(I)V") else ("turn", "(LLampPresses$Net;)V")))) else (bif Nat.ble 4 m then (bif Nat.ble 6 m then (bif Nat.ble 7 m then (bif Nat.ble 8 m then ("isAhead", "(I)Z") else ("note", "(II)V")) else ("begin", "(LLampPresses$Net;LLampPresses$Solver;)V")) else (bif Nat.ble 5 m then ("measure", "(LLampPresses$Net;LLampPresses$Solver;)V") else ("<init>", "()V"))) else (bif Nat.ble 2 m then (bif Nat.ble 3 m then ("copyFrom", "(LLampPresses$Book;)V") else ("entry", "(II)I")) else (bif Nat.ble 1 m then ("enter", "(II)V") else ("<init>", "()V")))))))))
def lp_y (m : Nat) : MethodName := ⟨lp_cn (lp_ow m), (lp_nd m).1, (lp_nd m).2⟩
def lp_b (m : Nat) : ByteArray := (bif Nat.ble 147 m then (bif Nat.ble 220 m then (bif Nat.ble 257 m then (bif Nat.ble 275 m then (bif Nat.ble 284 m then (bif Nat.ble 289 m then (bif Nat.ble 291 m then (bif Nat.ble 292 m then (bif Nat.ble 293 m then code else prog_20_method_11_code) else prog_19_method_103_code) else (bif Nat.ble 290 m then prog_16_method_2_code else prog_15_method_155_code)) else (bif Nat.ble 286 m then (bif Nat.ble 287 m then (bif Nat.ble 288 m then prog_15_method_154_code else prog_15_method_152_code) else prog_15_method_56_code) else (bif Nat.ble 285 m then prog_15_method_54_code else prog_14_method_69_code))) else (bif Nat.ble 279 m then (bif Nat.ble 281 m then (bif Nat.ble 282 m then (bif Nat.ble 283 m then prog_14_method_65_code else prog_13_method_49_code) else prog_12_method_121_code) else (bif Nat.ble 280 m then prog_12_method_120_code else prog_12_method_119_code)) else (bif Nat.ble 277 m then (bif Nat.ble 278 m then prog_12_method_118_code else prog_12_method_117_code) else (bif Nat.ble 276 m then prog_12_method_116_code else prog_12_method_115_code)))) else (bif Nat.ble 266 m then (bif Nat.ble 270 m then (bif Nat.ble 272 m then (bif Nat.ble 273 m then (bif Nat.ble 274 m then prog_12_method_114_code else prog_12_method_113_code) else prog_12_method_112_code) else (bif Nat.ble 271 m then prog_12_method_111_code else prog_12_method_110_code)) else (bif Nat.ble 268 m then (bif Nat.ble 269 m then prog_12_method_109_code else prog_12_method_108_code) else (bif Nat.ble 267 m then prog_12_method_107_code else prog_12_method_106_code))) else (bif Nat.ble 261 m then (bif Nat.ble 263 m then (bif Nat.ble 264 m then (bif Nat.ble 265 m then prog_12_method_105_code else prog_12_method_104_code) else prog_12_method_103_code) else (bif Nat.ble 262 m then prog_12_method_102_code else prog_12_method_101_code)) else (bif Nat.ble 259 m then (bif Nat.ble 260 m then prog_12_method_100_code else prog_12_method_99_code) else (bif Nat.ble 258 m then prog_12_method_98_code else prog_12_method_97_code))))) else (bif Nat.ble 238 m then (bif Nat.ble 247 m then (bif Nat.ble 252 m then (bif Nat.ble 254 m then (bif Nat.ble 255 m then (bif Nat.ble 256 m then prog_12_method_96_code else prog_12_method_95_code) else prog_12_method_94_code) else (bif Nat.ble 253 m then prog_12_method_93_code else prog_12_method_92_code)) else (bif Nat.ble 249 m then (bif Nat.ble 250 m then (bif Nat.ble 251 m then prog_12_method_91_code else prog_12_method_90_code) else prog_12_method_89_code) else (bif Nat.ble 248 m then prog_12_method_88_code else prog_12_method_87_code))) else (bif Nat.ble 242 m then (bif Nat.ble 244 m then (bif Nat.ble 245 m then (bif Nat.ble 246 m then prog_12_method_86_code else prog_12_method_85_code) else prog_12_method_84_code) else (bif Nat.ble 243 m then prog_12_method_83_code else prog_12_method_82_code)) else (bif Nat.ble 240 m then (bif Nat.ble 241 m then prog_12_method_81_code else prog_12_method_80_code) else (bif Nat.ble 239 m then prog_12_method_79_code else prog_12_method_78_code)))) else (bif Nat.ble 229 m then (bif Nat.ble 233 m then (bif Nat.ble 235 m then (bif Nat.ble 236 m then (bif Nat.ble 237 m then prog_12_method_77_code else prog_12_method_76_code) else prog_12_method_75_code) else (bif Nat.ble 234 m then prog_12_method_74_code else prog_12_method_73_code)) else (bif Nat.ble 231 m then (bif Nat.ble 232 m then prog_12_method_72_code else prog_12_method_71_code) else (bif Nat.ble 230 m then prog_12_method_70_code else prog_12_method_69_code))) else (bif Nat.ble 224 m then (bif Nat.ble 226 m then (bif Nat.ble 227 m then (bif Nat.ble 228 m then prog_12_method_68_code else prog_12_method_67_code) else prog_12_method_66_code) else (bif Nat.ble 225 m then prog_12_method_65_code else prog_12_method_64_code)) else (bif Nat.ble 222 m then (bif Nat.ble 223 m then prog_12_method_63_code else prog_12_method_62_code) else (bif Nat.ble 221 m then prog_12_method_61_code else prog_12_method_60_code)))))) else (bif Nat.ble 183 m then (bif Nat.ble 201 m then (bif Nat.ble 210 m then (bif Nat.ble 215 m then (bif Nat.ble 217 m then (bif Nat.ble 218 m then (bif Nat.ble 219 m then prog_12_method_59_code else prog_12_method_58_code) else prog_12_method_57_code) else (bif Nat.ble 216 m then prog_12_method_56_code else prog_12_method_55_code)) else (bif Nat.ble 212 m then (bif Nat.ble 213 m then (bif Nat.ble 214 m then prog_12_method_54_code else prog_12_method_53_code) else prog_12_method_52_code) else (bif Nat.ble 211 m then prog_12_method_51_code else prog_12_method_50_code))) else (bif Nat.ble 205 m then (bif Nat.ble 207 m then (bif Nat.ble 208 m then (bif Nat.ble 209 m then prog_12_method_49_code else prog_12_method_48_code) else prog_12_method_47_code) else (bif Nat.ble 206 m then prog_12_method_46_code else prog_12_method_45_code)) else (bif Nat.ble 203 m then (bif Nat.ble 204 m then prog_12_method_44_code else prog_12_method_43_code) else (bif Nat.ble 202 m then prog_12_method_42_code else prog_12_method_41_code)))) else (bif Nat.ble 192 m then (bif Nat.ble 196 m then (bif Nat.ble 198 m then (bif Nat.ble 199 m then (bif Nat.ble 200 m then prog_12_method_40_code else prog_12_method_39_code) else prog_12_method_38_code) else (bif Nat.ble 197 m then prog_12_method_37_code else prog_12_method_36_code)) else (bif Nat.ble 194 m then (bif Nat.ble 195 m then prog_12_method_35_code else prog_12_method_34_code) else (bif Nat.ble 193 m then prog_12_method_33_code else prog_12_method_32_code))) else (bif Nat.ble 187 m then (bif Nat.ble 189 m then (bif Nat.ble 190 m then (bif Nat.ble 191 m then prog_12_method_31_code else prog_12_method_30_code) else prog_12_method_29_code) else (bif Nat.ble 188 m then prog_12_method_28_code else prog_12_method_27_code)) else (bif Nat.ble 185 m then (bif Nat.ble 186 m then prog_12_method_26_code else prog_12_method_25_code) else (bif Nat.ble 184 m then prog_12_method_24_code else prog_12_method_23_code))))) else (bif Nat.ble 165 m then (bif Nat.ble 174 m then (bif Nat.ble 178 m then (bif Nat.ble 180 m then (bif Nat.ble 181 m then (bif Nat.ble 182 m then prog_12_method_22_code else prog_12_method_21_code) else prog_12_method_20_code) else (bif Nat.ble 179 m then prog_12_method_19_code else prog_12_method_18_code)) else (bif Nat.ble 176 m then (bif Nat.ble 177 m then prog_12_method_17_code else prog_12_method_16_code) else (bif Nat.ble 175 m then prog_12_method_15_code else prog_12_method_14_code))) else (bif Nat.ble 169 m then (bif Nat.ble 171 m then (bif Nat.ble 172 m then (bif Nat.ble 173 m then prog_12_method_13_code else prog_12_method_12_code) else prog_12_method_11_code) else (bif Nat.ble 170 m then prog_12_method_10_code else prog_12_method_9_code)) else (bif Nat.ble 167 m then (bif Nat.ble 168 m then prog_12_method_8_code else prog_12_method_7_code) else (bif Nat.ble 166 m then prog_12_method_6_code else prog_12_method_5_code)))) else (bif Nat.ble 156 m then (bif Nat.ble 160 m then (bif Nat.ble 162 m then (bif Nat.ble 163 m then (bif Nat.ble 164 m then prog_12_method_4_code else prog_12_method_3_code) else prog_12_method_2_code) else (bif Nat.ble 161 m then prog_1_method_85_code else prog_1_method_84_code)) else (bif Nat.ble 158 m then (bif Nat.ble 159 m then prog_1_method_83_code else prog_1_method_82_code) else (bif Nat.ble 157 m then prog_1_method_81_code else prog_1_method_80_code))) else (bif Nat.ble 151 m then (bif Nat.ble 153 m then (bif Nat.ble 154 m then (bif Nat.ble 155 m then prog_1_method_79_code else prog_1_method_78_code) else prog_1_method_77_code) else (bif Nat.ble 152 m then prog_1_method_76_code else prog_1_method_75_code)) else (bif Nat.ble 149 m then (bif Nat.ble 150 m then prog_1_method_74_code else prog_1_method_73_code) else (bif Nat.ble 148 m then prog_1_method_72_code else prog_1_method_71_code))))))) else (bif Nat.ble 73 m then (bif Nat.ble 110 m then (bif Nat.ble 128 m then (bif Nat.ble 137 m then (bif Nat.ble 142 m then (bif Nat.ble 144 m then (bif Nat.ble 145 m then (bif Nat.ble 146 m then prog_1_method_70_code else prog_1_method_69_code) else prog_1_method_68_code) else (bif Nat.ble 143 m then prog_1_method_67_code else prog_1_method_66_code)) else (bif Nat.ble 139 m then (bif Nat.ble 140 m then (bif Nat.ble 141 m then prog_1_method_65_code else prog_1_method_64_code) else prog_1_method_63_code) else (bif Nat.ble 138 m then prog_1_method_62_code else prog_1_method_61_code))) else (bif Nat.ble 132 m then (bif Nat.ble 134 m then (bif Nat.ble 135 m then (bif Nat.ble 136 m then prog_1_method_60_code else prog_1_method_59_code) else prog_1_method_58_code) else (bif Nat.ble 133 m then prog_1_method_57_code else prog_1_method_56_code)) else (bif Nat.ble 130 m then (bif Nat.ble 131 m then prog_1_method_55_code else prog_1_method_54_code) else (bif Nat.ble 129 m then prog_1_method_53_code else prog_1_method_52_code)))) else (bif Nat.ble 119 m then (bif Nat.ble 123 m then (bif Nat.ble 125 m then (bif Nat.ble 126 m then (bif Nat.ble 127 m then prog_1_method_51_code else prog_1_method_50_code) else prog_1_method_49_code) else (bif Nat.ble 124 m then prog_1_method_48_code else prog_1_method_47_code)) else (bif Nat.ble 121 m then (bif Nat.ble 122 m then prog_1_method_46_code else prog_1_method_45_code) else (bif Nat.ble 120 m then prog_1_method_44_code else prog_1_method_43_code))) else (bif Nat.ble 114 m then (bif Nat.ble 116 m then (bif Nat.ble 117 m then (bif Nat.ble 118 m then prog_1_method_42_code else prog_1_method_41_code) else prog_1_method_40_code) else (bif Nat.ble 115 m then prog_1_method_39_code else prog_1_method_38_code)) else (bif Nat.ble 112 m then (bif Nat.ble 113 m then prog_1_method_37_code else prog_1_method_36_code) else (bif Nat.ble 111 m then prog_1_method_35_code else prog_1_method_34_code))))) else (bif Nat.ble 91 m then (bif Nat.ble 100 m then (bif Nat.ble 105 m then (bif Nat.ble 107 m then (bif Nat.ble 108 m then (bif Nat.ble 109 m then prog_1_method_33_code else prog_1_method_32_code) else prog_1_method_31_code) else (bif Nat.ble 106 m then prog_1_method_30_code else prog_1_method_29_code)) else (bif Nat.ble 102 m then (bif Nat.ble 103 m then (bif Nat.ble 104 m then prog_1_method_28_code else prog_1_method_27_code) else prog_1_method_26_code) else (bif Nat.ble 101 m then prog_1_method_25_code else prog_1_method_24_code))) else (bif Nat.ble 95 m then (bif Nat.ble 97 m then (bif Nat.ble 98 m then (bif Nat.ble 99 m then prog_1_method_23_code else prog_1_method_22_code) else prog_1_method_21_code) else (bif Nat.ble 96 m then prog_1_method_20_code else prog_1_method_19_code)) else (bif Nat.ble 93 m then (bif Nat.ble 94 m then prog_1_method_18_code else prog_1_method_17_code) else (bif Nat.ble 92 m then prog_1_method_16_code else prog_1_method_15_code)))) else (bif Nat.ble 82 m then (bif Nat.ble 86 m then (bif Nat.ble 88 m then (bif Nat.ble 89 m then (bif Nat.ble 90 m then prog_1_method_14_code else prog_1_method_13_code) else prog_1_method_12_code) else (bif Nat.ble 87 m then prog_1_method_11_code else prog_1_method_10_code)) else (bif Nat.ble 84 m then (bif Nat.ble 85 m then prog_1_method_9_code else prog_1_method_8_code) else (bif Nat.ble 83 m then prog_1_method_7_code else prog_1_method_6_code))) else (bif Nat.ble 77 m then (bif Nat.ble 79 m then (bif Nat.ble 80 m then (bif Nat.ble 81 m then prog_1_method_5_code else prog_1_method_4_code) else prog_1_method_3_code) else (bif Nat.ble 78 m then prog_1_method_2_code else prog_1_method_1_code)) else (bif Nat.ble 75 m then (bif Nat.ble 76 m then prog_10_method_2_code else prog_10_method_1_code) else (bif Nat.ble 74 m then prog_9_method_17_code else prog_9_method_16_code)))))) else (bif Nat.ble 36 m then (bif Nat.ble 54 m then (bif Nat.ble 63 m then (bif Nat.ble 68 m then (bif Nat.ble 70 m then (bif Nat.ble 71 m then (bif Nat.ble 72 m then prog_9_method_15_code else prog_9_method_14_code) else prog_9_method_13_code) else (bif Nat.ble 69 m then prog_9_method_12_code else prog_9_method_11_code)) else (bif Nat.ble 65 m then (bif Nat.ble 66 m then (bif Nat.ble 67 m then prog_9_method_10_code else prog_9_method_9_code) else prog_9_method_8_code) else (bif Nat.ble 64 m then prog_9_method_7_code else prog_9_method_6_code))) else (bif Nat.ble 58 m then (bif Nat.ble 60 m then (bif Nat.ble 61 m then (bif Nat.ble 62 m then prog_9_method_5_code else prog_9_method_4_code) else prog_9_method_3_code) else (bif Nat.ble 59 m then prog_9_method_2_code else prog_9_method_1_code)) else (bif Nat.ble 56 m then (bif Nat.ble 57 m then prog_8_method_4_code else prog_8_method_3_code) else (bif Nat.ble 55 m then prog_8_method_2_code else prog_8_method_1_code)))) else (bif Nat.ble 45 m then (bif Nat.ble 49 m then (bif Nat.ble 51 m then (bif Nat.ble 52 m then (bif Nat.ble 53 m then prog_7_method_15_code else prog_7_method_14_code) else prog_7_method_13_code) else (bif Nat.ble 50 m then prog_7_method_12_code else prog_7_method_11_code)) else (bif Nat.ble 47 m then (bif Nat.ble 48 m then prog_7_method_10_code else prog_7_method_9_code) else (bif Nat.ble 46 m then prog_7_method_8_code else prog_7_method_7_code))) else (bif Nat.ble 40 m then (bif Nat.ble 42 m then (bif Nat.ble 43 m then (bif Nat.ble 44 m then prog_7_method_6_code else prog_7_method_5_code) else prog_7_method_4_code) else (bif Nat.ble 41 m then prog_7_method_3_code else prog_7_method_2_code)) else (bif Nat.ble 38 m then (bif Nat.ble 39 m then prog_7_method_1_code else prog_6_method_3_code) else (bif Nat.ble 37 m then prog_6_method_2_code else prog_6_method_1_code))))) else (bif Nat.ble 18 m then (bif Nat.ble 27 m then (bif Nat.ble 31 m then (bif Nat.ble 33 m then (bif Nat.ble 34 m then (bif Nat.ble 35 m then prog_5_method_19_code else prog_5_method_18_code) else prog_5_method_17_code) else (bif Nat.ble 32 m then prog_5_method_16_code else prog_5_method_15_code)) else (bif Nat.ble 29 m then (bif Nat.ble 30 m then prog_5_method_14_code else prog_5_method_13_code) else (bif Nat.ble 28 m then prog_5_method_12_code else prog_5_method_11_code))) else (bif Nat.ble 22 m then (bif Nat.ble 24 m then (bif Nat.ble 25 m then (bif Nat.ble 26 m then prog_5_method_10_code else prog_5_method_9_code) else prog_5_method_8_code) else (bif Nat.ble 23 m then prog_5_method_7_code else prog_5_method_6_code)) else (bif Nat.ble 20 m then (bif Nat.ble 21 m then prog_5_method_5_code else prog_5_method_4_code) else (bif Nat.ble 19 m then prog_5_method_3_code else prog_5_method_2_code)))) else (bif Nat.ble 9 m then (bif Nat.ble 13 m then (bif Nat.ble 15 m then (bif Nat.ble 16 m then (bif Nat.ble 17 m then prog_5_method_1_code else prog_4_method_6_code) else prog_4_method_5_code) else (bif Nat.ble 14 m then prog_4_method_4_code else prog_4_method_3_code)) else (bif Nat.ble 11 m then (bif Nat.ble 12 m then prog_4_method_2_code else prog_4_method_1_code) else (bif Nat.ble 10 m then prog_3_method_7_code else prog_3_method_6_code))) else (bif Nat.ble 4 m then (bif Nat.ble 6 m then (bif Nat.ble 7 m then (bif Nat.ble 8 m then prog_3_method_5_code else prog_3_method_4_code) else prog_3_method_3_code) else (bif Nat.ble 5 m then prog_3_method_2_code else prog_3_method_1_code)) else (bif Nat.ble 2 m then (bif Nat.ble 3 m then prog_2_method_4_code else prog_2_method_3_code) else (bif Nat.ble 1 m then prog_2_method_2_code else prog_2_method_1_code))))))))
def lp_rt (m : Nat) : Option FieldType := (bif Nat.ble 172 m then (bif Nat.ble 232 m then (bif Nat.ble 275 m then (bif Nat.ble 288 m then (bif Nat.ble 291 m then (bif Nat.ble 293 m then (bif Nat.ble 294 m then none else some .boolean) else (bif Nat.ble 292 m then some .int else none)) else (bif Nat.ble 289 m then (bif Nat.ble 290 m then some .char else none) else some .boolean)) else (bif Nat.ble 281 m then (bif Nat.ble 286 m then (bif Nat.ble 287 m then some .byte else some .char) else some .int) else (bif Nat.ble 276 m then (bif Nat.ble 277 m then none else some .int) else some .boolean))) else (bif Nat.ble 250 m then (bif Nat.ble 263 m then (bif Nat.ble 266 m then (bif Nat.ble 274 m then none else some .int) else (bif Nat.ble 264 m then none else some .int)) else (bif Nat.ble 251 m then (bif Nat.ble 260 m then none else some .int) else none)) else (bif Nat.ble 237 m then (bif Nat.ble 246 m then (bif Nat.ble 247 m then some .int else some .boolean) else some .int) else (bif Nat.ble 233 m then (bif Nat.ble 236 m then some .boolean else some .int) else none)))) else (bif Nat.ble 197 m then (bif Nat.ble 205 m then (bif Nat.ble 209 m then (bif Nat.ble 220 m then (bif Nat.ble 221 m then some .int else some .boolean) else (bif Nat.ble 210 m then some .int else none)) else (bif Nat.ble 207 m then (bif Nat.ble 208 m then some .int else some .boolean) else none)) else (bif Nat.ble 201 m then (bif Nat.ble 203 m then (bif Nat.ble 204 m then some .boolean else none) else some .int) else (bif Nat.ble 198 m then (bif Nat.ble 199 m then none else some .int) else some .boolean))) else (bif Nat.ble 179 m then (bif Nat.ble 187 m then (bif Nat.ble 191 m then (bif Nat.ble 192 m then some .int else some .boolean) else some .int) else (bif Nat.ble 180 m then (bif Nat.ble 186 m then none else some .int) else none)) else (bif Nat.ble 175 m then (bif Nat.ble 176 m then (bif Nat.ble 178 m then some .int else some .boolean) else none) else (bif Nat.ble 173 m then (bif Nat.ble 174 m then some .int else none) else some .int))))) else (bif Nat.ble 65 m then (bif Nat.ble 143 m then (bif Nat.ble 157 m then (bif Nat.ble 163 m then (bif Nat.ble 168 m then (bif Nat.ble 170 m then some .boolean else some .int) else (bif Nat.ble 165 m then none else some .boolean)) else (bif Nat.ble 159 m then (bif Nat.ble 162 m then none else some .int) else some .boolean)) else (bif Nat.ble 147 m then (bif Nat.ble 148 m then (bif Nat.ble 153 m then none else some .int) else none) else (bif Nat.ble 144 m then (bif Nat.ble 146 m then some .int else some .boolean) else some .int))) else (bif Nat.ble 78 m then (bif Nat.ble 91 m then (bif Nat.ble 133 m then (bif Nat.ble 141 m then some .boolean else none) else (bif Nat.ble 92 m then some .int else some .boolean)) else (bif Nat.ble 82 m then (bif Nat.ble 83 m then some .int else some .boolean) else some .int)) else (bif Nat.ble 71 m then (bif Nat.ble 72 m then (bif Nat.ble 74 m then none else some .boolean) else none) else (bif Nat.ble 66 m then (bif Nat.ble 70 m then some .boolean else none) else some .int)))) else (bif Nat.ble 41 m then (bif Nat.ble 50 m then (bif Nat.ble 57 m then (bif Nat.ble 63 m then (bif Nat.ble 64 m then none else some .int) else (bif Nat.ble 58 m then none else some .int)) else (bif Nat.ble 52 m then (bif Nat.ble 54 m then none else some .boolean) else some .int)) else (bif Nat.ble 47 m then (bif Nat.ble 48 m then (bif Nat.ble 49 m then none else some .boolean) else some .int) else (bif Nat.ble 44 m then (bif Nat.ble 46 m then some .boolean else some .int) else some .boolean))) else (bif Nat.ble 17 m then (bif Nat.ble 29 m then (bif Nat.ble 36 m then (bif Nat.ble 40 m then some .int else none) else some .int) else (bif Nat.ble 18 m then (bif Nat.ble 20 m then none else some .boolean) else none)) else (bif Nat.ble 8 m then (bif Nat.ble 9 m then (bif Nat.ble 16 m then some .int else none) else some .boolean) else (bif Nat.ble 2 m then (bif Nat.ble 3 m then none else some .int) else none))))))
def lp_cp (m : Nat) : Nat := (bif Nat.ble 147 m then (bif Nat.ble 220 m then (bif Nat.ble 257 m then (bif Nat.ble 275 m then (bif Nat.ble 284 m then (bif Nat.ble 289 m then (bif Nat.ble 291 m then (bif Nat.ble 292 m then (bif Nat.ble 293 m then 0 else 1182) else 2138) else (bif Nat.ble 290 m then 1174 else 1177)) else (bif Nat.ble 286 m then (bif Nat.ble 287 m then (bif Nat.ble 288 m then 1171 else 1161) else 1167) else (bif Nat.ble 285 m then 1157 else 2047))) else (bif Nat.ble 279 m then (bif Nat.ble 281 m then (bif Nat.ble 282 m then (bif Nat.ble 283 m then 1043 else 2221) else 6169) else (bif Nat.ble 280 m then 6181 else 6201)) else (bif Nat.ble 277 m then (bif Nat.ble 278 m then 6193 else 6189) else (bif Nat.ble 276 m then 6197 else 6185)))) else (bif Nat.ble 266 m then (bif Nat.ble 270 m then (bif Nat.ble 272 m then (bif Nat.ble 273 m then (bif Nat.ble 274 m then 6173 else 6177) else 6125) else (bif Nat.ble 271 m then 6165 else 6161)) else (bif Nat.ble 268 m then (bif Nat.ble 269 m then 6153 else 6157) else (bif Nat.ble 267 m then 6149 else 6117))) else (bif Nat.ble 261 m then (bif Nat.ble 263 m then (bif Nat.ble 264 m then (bif Nat.ble 265 m then 6141 else 6137) else 6145) else (bif Nat.ble 262 m then 6133 else 6121)) else (bif Nat.ble 259 m then (bif Nat.ble 260 m then 6129 else 6113) else (bif Nat.ble 258 m then 6109 else 6105))))) else (bif Nat.ble 238 m then (bif Nat.ble 247 m then (bif Nat.ble 252 m then (bif Nat.ble 254 m then (bif Nat.ble 255 m then (bif Nat.ble 256 m then 6101 else 6097) else 6089) else (bif Nat.ble 253 m then 6085 else 6081)) else (bif Nat.ble 249 m then (bif Nat.ble 250 m then (bif Nat.ble 251 m then 6061 else 6069) else 6077) else (bif Nat.ble 248 m then 6093 else 6073))) else (bif Nat.ble 242 m then (bif Nat.ble 244 m then (bif Nat.ble 245 m then (bif Nat.ble 246 m then 6065 else 6057) else 6052) else (bif Nat.ble 243 m then 6048 else 6044)) else (bif Nat.ble 240 m then (bif Nat.ble 241 m then 6040 else 6032) else (bif Nat.ble 239 m then 6036 else 6028)))) else (bif Nat.ble 229 m then (bif Nat.ble 233 m then (bif Nat.ble 235 m then (bif Nat.ble 236 m then (bif Nat.ble 237 m then 6020 else 6024) else 6016) else (bif Nat.ble 234 m then 6012 else 6004)) else (bif Nat.ble 231 m then (bif Nat.ble 232 m then 6008 else 6000) else (bif Nat.ble 230 m then 5071 else 5236))) else (bif Nat.ble 224 m then (bif Nat.ble 226 m then (bif Nat.ble 227 m then (bif Nat.ble 228 m then 5232 else 5224) else 5228) else (bif Nat.ble 225 m then 5220 else 5216)) else (bif Nat.ble 222 m then (bif Nat.ble 223 m then 5196 else 5200) else (bif Nat.ble 221 m then 5204 else 5212)))))) else (bif Nat.ble 183 m then (bif Nat.ble 201 m then (bif Nat.ble 210 m then (bif Nat.ble 215 m then (bif Nat.ble 217 m then (bif Nat.ble 218 m then (bif Nat.ble 219 m then 5208 else 5192) else 5184) else (bif Nat.ble 216 m then 5188 else 5176)) else (bif Nat.ble 212 m then (bif Nat.ble 213 m then (bif Nat.ble 214 m then 5168 else 5160) else 5164) else (bif Nat.ble 211 m then 5156 else 5152))) else (bif Nat.ble 205 m then (bif Nat.ble 207 m then (bif Nat.ble 208 m then (bif Nat.ble 209 m then 5180 else 5125) else 5079) else (bif Nat.ble 206 m then 5117 else 5121)) else (bif Nat.ble 203 m then (bif Nat.ble 204 m then 5113 else 5109) else (bif Nat.ble 202 m then 5172 else 5083)))) else (bif Nat.ble 192 m then (bif Nat.ble 196 m then (bif Nat.ble 198 m then (bif Nat.ble 199 m then (bif Nat.ble 200 m then 5101 else 5087) else 5105) else (bif Nat.ble 197 m then 5097 else 5090)) else (bif Nat.ble 194 m then (bif Nat.ble 195 m then 5148 else 5140) else (bif Nat.ble 193 m then 5144 else 5136))) else (bif Nat.ble 187 m then (bif Nat.ble 189 m then (bif Nat.ble 190 m then (bif Nat.ble 191 m then 5132 else 5129) else 5075) else (bif Nat.ble 188 m then 5067 else 5055)) else (bif Nat.ble 185 m then (bif Nat.ble 186 m then 5059 else 5063) else (bif Nat.ble 184 m then 5051 else 5047))))) else (bif Nat.ble 165 m then (bif Nat.ble 174 m then (bif Nat.ble 178 m then (bif Nat.ble 180 m then (bif Nat.ble 181 m then (bif Nat.ble 182 m then 5039 else 5043) else 5032) else (bif Nat.ble 179 m then 5035 else 5028)) else (bif Nat.ble 176 m then (bif Nat.ble 177 m then 5024 else 5009) else (bif Nat.ble 175 m then 5017 else 4220))) else (bif Nat.ble 169 m then (bif Nat.ble 171 m then (bif Nat.ble 172 m then (bif Nat.ble 173 m then 5002 else 5005) else 4224) else (bif Nat.ble 170 m then 5013 else 4235)) else (bif Nat.ble 167 m then (bif Nat.ble 168 m then 4228 else 4239) else (bif Nat.ble 166 m then 5020 else 4104)))) else (bif Nat.ble 156 m then (bif Nat.ble 160 m then (bif Nat.ble 162 m then (bif Nat.ble 163 m then (bif Nat.ble 164 m then 5093 else 4231) else 4099) else (bif Nat.ble 161 m then 2183 else 3021)) else (bif Nat.ble 158 m then (bif Nat.ble 159 m then 2100 else 2193) else (bif Nat.ble 157 m then 2190 else 4081))) else (bif Nat.ble 151 m then (bif Nat.ble 153 m then (bif Nat.ble 154 m then (bif Nat.ble 155 m then 4066 else 4059) else 4034) else (bif Nat.ble 152 m then 4010 else 3144)) else (bif Nat.ble 149 m then (bif Nat.ble 150 m then 3100 else 3083) else (bif Nat.ble 148 m then 3041 else 2171))))))) else (bif Nat.ble 73 m then (bif Nat.ble 110 m then (bif Nat.ble 128 m then (bif Nat.ble 137 m then (bif Nat.ble 142 m then (bif Nat.ble 144 m then (bif Nat.ble 145 m then (bif Nat.ble 146 m then 3018 else 3045) else 3188) else (bif Nat.ble 143 m then 3192 else 3120)) else (bif Nat.ble 139 m then (bif Nat.ble 140 m then (bif Nat.ble 141 m then 2072 else 3196) else 3050) else (bif Nat.ble 138 m then 2122 else 2126))) else (bif Nat.ble 132 m then (bif Nat.ble 134 m then (bif Nat.ble 135 m then (bif Nat.ble 136 m then 2023 else 2027) else 2039) else (bif Nat.ble 133 m then 2085 else 4089)) else (bif Nat.ble 130 m then (bif Nat.ble 131 m then 4077 else 4030) else (bif Nat.ble 129 m then 4026 else 4022)))) else (bif Nat.ble 119 m then (bif Nat.ble 123 m then (bif Nat.ble 125 m then (bif Nat.ble 126 m then (bif Nat.ble 127 m then 4018 else 4014) else 4006) else (bif Nat.ble 124 m then 4002 else 3238)) else (bif Nat.ble 121 m then (bif Nat.ble 122 m then 3234 else 3184) else (bif Nat.ble 120 m then 3176 else 3172))) else (bif Nat.ble 114 m then (bif Nat.ble 116 m then (bif Nat.ble 117 m then (bif Nat.ble 118 m then 3168 else 3164) else 3160) else (bif Nat.ble 115 m then 3156 else 3140)) else (bif Nat.ble 112 m then (bif Nat.ble 113 m then 3136 else 3128) else (bif Nat.ble 111 m then 3116 else 3112))))) else (bif Nat.ble 91 m then (bif Nat.ble 100 m then (bif Nat.ble 105 m then (bif Nat.ble 107 m then (bif Nat.ble 108 m then (bif Nat.ble 109 m then 3108 else 3096) else 3092) else (bif Nat.ble 106 m then 3088 else 3079)) else (bif Nat.ble 102 m then (bif Nat.ble 103 m then (bif Nat.ble 104 m then 3071 else 3037) else 3033) else (bif Nat.ble 101 m then 3029 else 3025))) else (bif Nat.ble 95 m then (bif Nat.ble 97 m then (bif Nat.ble 98 m then (bif Nat.ble 99 m then 3014 else 3010) else 3006) else (bif Nat.ble 96 m then 3000 else 2232)) else (bif Nat.ble 93 m then (bif Nat.ble 94 m then 2228 else 2206) else (bif Nat.ble 92 m then 2202 else 2197)))) else (bif Nat.ble 82 m then (bif Nat.ble 86 m then (bif Nat.ble 88 m then (bif Nat.ble 89 m then (bif Nat.ble 90 m then 2187 else 2118) else 2109) else (bif Nat.ble 87 m then 2093 else 2089)) else (bif Nat.ble 84 m then (bif Nat.ble 85 m then 2081 else 2077) else (bif Nat.ble 83 m then 2068 else 2052))) else (bif Nat.ble 77 m then (bif Nat.ble 79 m then (bif Nat.ble 80 m then (bif Nat.ble 81 m then 2031 else 1122) else 1118) else (bif Nat.ble 78 m then 1110 else 24)) else (bif Nat.ble 75 m then (bif Nat.ble 76 m then 1114 else 125) else (bif Nat.ble 74 m then 3067 else 3075)))))) else (bif Nat.ble 36 m then (bif Nat.ble 54 m then (bif Nat.ble 63 m then (bif Nat.ble 68 m then (bif Nat.ble 70 m then (bif Nat.ble 71 m then (bif Nat.ble 72 m then 3210 else 2180) else 2176) else (bif Nat.ble 69 m then 2167 else 2163)) else (bif Nat.ble 65 m then (bif Nat.ble 66 m then (bif Nat.ble 67 m then 2159 else 2155) else 2150) else (bif Nat.ble 64 m then 2146 else 2142))) else (bif Nat.ble 58 m then (bif Nat.ble 60 m then (bif Nat.ble 61 m then (bif Nat.ble 62 m then 2135 else 3132) else 3124) else (bif Nat.ble 59 m then 2130 else 160)) else (bif Nat.ble 56 m then (bif Nat.ble 57 m then 3062 else 3058) else (bif Nat.ble 55 m then 3054 else 209)))) else (bif Nat.ble 45 m then (bif Nat.ble 49 m then (bif Nat.ble 51 m then (bif Nat.ble 52 m then (bif Nat.ble 53 m then 1144 else 1137) else 1141) else (bif Nat.ble 50 m then 1148 else 1134)) else (bif Nat.ble 47 m then (bif Nat.ble 48 m then 1153 else 1209) else (bif Nat.ble 46 m then 1217 else 1213))) else (bif Nat.ble 40 m then (bif Nat.ble 42 m then (bif Nat.ble 43 m then (bif Nat.ble 44 m then 1227 else 2001) else 1222) else (bif Nat.ble 41 m then 1205 else 1126)) else (bif Nat.ble 38 m then (bif Nat.ble 39 m then 117 else 2236) else (bif Nat.ble 37 m then 2043 else 97))))) else (bif Nat.ble 18 m then (bif Nat.ble 27 m then (bif Nat.ble 31 m then (bif Nat.ble 33 m then (bif Nat.ble 34 m then (bif Nat.ble 35 m then 3104 else 2218) else 2210) else (bif Nat.ble 32 m then 2214 else 4094)) else (bif Nat.ble 29 m then (bif Nat.ble 30 m then 3148 else 2113) else (bif Nat.ble 28 m then 3152 else 2097))) else (bif Nat.ble 22 m then (bif Nat.ble 24 m then (bif Nat.ble 25 m then (bif Nat.ble 26 m then 2064 else 2061) else 1236) else (bif Nat.ble 23 m then 2057 else 1232)) else (bif Nat.ble 20 m then (bif Nat.ble 21 m then 2011 else 1130) else (bif Nat.ble 19 m then 2035 else 2005)))) else (bif Nat.ble 9 m then (bif Nat.ble 13 m then (bif Nat.ble 15 m then (bif Nat.ble 16 m then (bif Nat.ble 17 m then 32 else 4073) else 4053) else (bif Nat.ble 14 m then 4043 else 4047)) else (bif Nat.ble 11 m then (bif Nat.ble 12 m then 4038 else 1039) else (bif Nat.ble 10 m then 3230 else 3226))) else (bif Nat.ble 4 m then (bif Nat.ble 6 m then (bif Nat.ble 7 m then (bif Nat.ble 8 m then 3222 else 3218) else 3204) else (bif Nat.ble 5 m then 3200 else 234)) else (bif Nat.ble 2 m then (bif Nat.ble 3 m then 2018 else 3180) else (bif Nat.ble 1 m then 2104 else 40))))))))
theorem lp_code0 : lp_wd (lp_cp 0) = some (.code (lp_y 0) (lp_b 0) (lp_mx 0) (lp_rt 0)) := rfl
theorem lp_code1 : lp_wd (lp_cp 1) = some (.code (lp_y 1) (lp_b 1) (lp_mx 1) (lp_rt 1)) := rfl
theorem lp_code2 : lp_wd (lp_cp 2) = some (.code (lp_y 2) (lp_b 2) (lp_mx 2) (lp_rt 2)) := rfl
theorem lp_code3 : lp_wd (lp_cp 3) = some (.code (lp_y 3) (lp_b 3) (lp_mx 3) (lp_rt 3)) := rfl
theorem lp_code4 : lp_wd (lp_cp 4) = some (.code (lp_y 4) (lp_b 4) (lp_mx 4) (lp_rt 4)) := rfl
theorem lp_code5 : lp_wd (lp_cp 5) = some (.code (lp_y 5) (lp_b 5) (lp_mx 5) (lp_rt 5)) := rfl
theorem lp_code6 : lp_wd (lp_cp 6) = some (.code (lp_y 6) (lp_b 6) (lp_mx 6) (lp_rt 6)) := rfl
theorem lp_code7 : lp_wd (lp_cp 7) = some (.code (lp_y 7) (lp_b 7) (lp_mx 7) (lp_rt 7)) := rfl
theorem lp_code8 : lp_wd (lp_cp 8) = some (.code (lp_y 8) (lp_b 8) (lp_mx 8) (lp_rt 8)) := rfl
theorem lp_code9 : lp_wd (lp_cp 9) = some (.code (lp_y 9) (lp_b 9) (lp_mx 9) (lp_rt 9)) := rfl
theorem lp_code10 : lp_wd (lp_cp 10) = some (.code (lp_y 10) (lp_b 10) (lp_mx 10) (lp_rt 10)) := rfl
theorem lp_code11 : lp_wd (lp_cp 11) = some (.code (lp_y 11) (lp_b 11) (lp_mx 11) (lp_rt 11)) := rfl
theorem lp_code12 : lp_wd (lp_cp 12) = some (.code (lp_y 12) (lp_b 12) (lp_mx 12) (lp_rt 12)) := rfl
theorem lp_code13 : lp_wd (lp_cp 13) = some (.code (lp_y 13) (lp_b 13) (lp_mx 13) (lp_rt 13)) := rfl
theorem lp_code14 : lp_wd (lp_cp 14) = some (.code (lp_y 14) (lp_b 14) (lp_mx 14) (lp_rt 14)) := rfl
theorem lp_code15 : lp_wd (lp_cp 15) = some (.code (lp_y 15) (lp_b 15) (lp_mx 15) (lp_rt 15)) := rfl
theorem lp_code16 : lp_wd (lp_cp 16) = some (.code (lp_y 16) (lp_b 16) (lp_mx 16) (lp_rt 16)) := rfl
theorem lp_code17 : lp_wd (lp_cp 17) = some (.code (lp_y 17) (lp_b 17) (lp_mx 17) (lp_rt 17)) := rfl
theorem lp_code18 : lp_wd (lp_cp 18) = some (.code (lp_y 18) (lp_b 18) (lp_mx 18) (lp_rt 18)) := rfl
theorem lp_code19 : lp_wd (lp_cp 19) = some (.code (lp_y 19) (lp_b 19) (lp_mx 19) (lp_rt 19)) := rfl
theorem lp_code20 : lp_wd (lp_cp 20) = some (.code (lp_y 20) (lp_b 20) (lp_mx 20) (lp_rt 20)) := rfl
theorem lp_code21 : lp_wd (lp_cp 21) = some (.code (lp_y 21) (lp_b 21) (lp_mx 21) (lp_rt 21)) := rfl
theorem lp_code22 : lp_wd (lp_cp 22) = some (.code (lp_y 22) (lp_b 22) (lp_mx 22) (lp_rt 22)) := rfl
theorem lp_code23 : lp_wd (lp_cp 23) = some (.code (lp_y 23) (lp_b 23) (lp_mx 23) (lp_rt 23)) := rfl
theorem lp_code24 : lp_wd (lp_cp 24) = some (.code (lp_y 24) (lp_b 24) (lp_mx 24) (lp_rt 24)) := rfl
theorem lp_code25 : lp_wd (lp_cp 25) = some (.code (lp_y 25) (lp_b 25) (lp_mx 25) (lp_rt 25)) := rfl
theorem lp_code26 : lp_wd (lp_cp 26) = some (.code (lp_y 26) (lp_b 26) (lp_mx 26) (lp_rt 26)) := rfl
theorem lp_code27 : lp_wd (lp_cp 27) = some (.code (lp_y 27) (lp_b 27) (lp_mx 27) (lp_rt 27)) := rfl
theorem lp_code28 : lp_wd (lp_cp 28) = some (.code (lp_y 28) (lp_b 28) (lp_mx 28) (lp_rt 28)) := rfl
theorem lp_code29 : lp_wd (lp_cp 29) = some (.code (lp_y 29) (lp_b 29) (lp_mx 29) (lp_rt 29)) := rfl
theorem lp_code30 : lp_wd (lp_cp 30) = some (.code (lp_y 30) (lp_b 30) (lp_mx 30) (lp_rt 30)) := rfl
theorem lp_code31 : lp_wd (lp_cp 31) = some (.code (lp_y 31) (lp_b 31) (lp_mx 31) (lp_rt 31)) := rfl
theorem lp_code32 : lp_wd (lp_cp 32) = some (.code (lp_y 32) (lp_b 32) (lp_mx 32) (lp_rt 32)) := rfl
theorem lp_code33 : lp_wd (lp_cp 33) = some (.code (lp_y 33) (lp_b 33) (lp_mx 33) (lp_rt 33)) := rfl
theorem lp_code34 : lp_wd (lp_cp 34) = some (.code (lp_y 34) (lp_b 34) (lp_mx 34) (lp_rt 34)) := rfl
theorem lp_code35 : lp_wd (lp_cp 35) = some (.code (lp_y 35) (lp_b 35) (lp_mx 35) (lp_rt 35)) := rfl
theorem lp_code36 : lp_wd (lp_cp 36) = some (.code (lp_y 36) (lp_b 36) (lp_mx 36) (lp_rt 36)) := rfl
theorem lp_code37 : lp_wd (lp_cp 37) = some (.code (lp_y 37) (lp_b 37) (lp_mx 37) (lp_rt 37)) := rfl
theorem lp_code38 : lp_wd (lp_cp 38) = some (.code (lp_y 38) (lp_b 38) (lp_mx 38) (lp_rt 38)) := rfl
theorem lp_code39 : lp_wd (lp_cp 39) = some (.code (lp_y 39) (lp_b 39) (lp_mx 39) (lp_rt 39)) := rfl
theorem lp_code40 : lp_wd (lp_cp 40) = some (.code (lp_y 40) (lp_b 40) (lp_mx 40) (lp_rt 40)) := rfl
theorem lp_code41 : lp_wd (lp_cp 41) = some (.code (lp_y 41) (lp_b 41) (lp_mx 41) (lp_rt 41)) := rfl
theorem lp_code42 : lp_wd (lp_cp 42) = some (.code (lp_y 42) (lp_b 42) (lp_mx 42) (lp_rt 42)) := rfl
theorem lp_code43 : lp_wd (lp_cp 43) = some (.code (lp_y 43) (lp_b 43) (lp_mx 43) (lp_rt 43)) := rfl
theorem lp_code44 : lp_wd (lp_cp 44) = some (.code (lp_y 44) (lp_b 44) (lp_mx 44) (lp_rt 44)) := rfl
theorem lp_code45 : lp_wd (lp_cp 45) = some (.code (lp_y 45) (lp_b 45) (lp_mx 45) (lp_rt 45)) := rfl
theorem lp_code46 : lp_wd (lp_cp 46) = some (.code (lp_y 46) (lp_b 46) (lp_mx 46) (lp_rt 46)) := rfl
theorem lp_code47 : lp_wd (lp_cp 47) = some (.code (lp_y 47) (lp_b 47) (lp_mx 47) (lp_rt 47)) := rfl
theorem lp_code48 : lp_wd (lp_cp 48) = some (.code (lp_y 48) (lp_b 48) (lp_mx 48) (lp_rt 48)) := rfl
theorem lp_code49 : lp_wd (lp_cp 49) = some (.code (lp_y 49) (lp_b 49) (lp_mx 49) (lp_rt 49)) := rfl
theorem lp_code50 : lp_wd (lp_cp 50) = some (.code (lp_y 50) (lp_b 50) (lp_mx 50) (lp_rt 50)) := rfl
theorem lp_code51 : lp_wd (lp_cp 51) = some (.code (lp_y 51) (lp_b 51) (lp_mx 51) (lp_rt 51)) := rfl
theorem lp_code52 : lp_wd (lp_cp 52) = some (.code (lp_y 52) (lp_b 52) (lp_mx 52) (lp_rt 52)) := rfl
theorem lp_code53 : lp_wd (lp_cp 53) = some (.code (lp_y 53) (lp_b 53) (lp_mx 53) (lp_rt 53)) := rfl
theorem lp_code54 : lp_wd (lp_cp 54) = some (.code (lp_y 54) (lp_b 54) (lp_mx 54) (lp_rt 54)) := rfl
theorem lp_code55 : lp_wd (lp_cp 55) = some (.code (lp_y 55) (lp_b 55) (lp_mx 55) (lp_rt 55)) := rfl
theorem lp_code56 : lp_wd (lp_cp 56) = some (.code (lp_y 56) (lp_b 56) (lp_mx 56) (lp_rt 56)) := rfl
theorem lp_code57 : lp_wd (lp_cp 57) = some (.code (lp_y 57) (lp_b 57) (lp_mx 57) (lp_rt 57)) := rfl
theorem lp_code58 : lp_wd (lp_cp 58) = some (.code (lp_y 58) (lp_b 58) (lp_mx 58) (lp_rt 58)) := rfl
theorem lp_code59 : lp_wd (lp_cp 59) = some (.code (lp_y 59) (lp_b 59) (lp_mx 59) (lp_rt 59)) := rfl
theorem lp_code60 : lp_wd (lp_cp 60) = some (.code (lp_y 60) (lp_b 60) (lp_mx 60) (lp_rt 60)) := rfl
theorem lp_code61 : lp_wd (lp_cp 61) = some (.code (lp_y 61) (lp_b 61) (lp_mx 61) (lp_rt 61)) := rfl
theorem lp_code62 : lp_wd (lp_cp 62) = some (.code (lp_y 62) (lp_b 62) (lp_mx 62) (lp_rt 62)) := rfl
theorem lp_code63 : lp_wd (lp_cp 63) = some (.code (lp_y 63) (lp_b 63) (lp_mx 63) (lp_rt 63)) := rfl
theorem lp_code64 : lp_wd (lp_cp 64) = some (.code (lp_y 64) (lp_b 64) (lp_mx 64) (lp_rt 64)) := rfl
theorem lp_code65 : lp_wd (lp_cp 65) = some (.code (lp_y 65) (lp_b 65) (lp_mx 65) (lp_rt 65)) := rfl
theorem lp_code66 : lp_wd (lp_cp 66) = some (.code (lp_y 66) (lp_b 66) (lp_mx 66) (lp_rt 66)) := rfl
theorem lp_code67 : lp_wd (lp_cp 67) = some (.code (lp_y 67) (lp_b 67) (lp_mx 67) (lp_rt 67)) := rfl
theorem lp_code68 : lp_wd (lp_cp 68) = some (.code (lp_y 68) (lp_b 68) (lp_mx 68) (lp_rt 68)) := rfl
theorem lp_code69 : lp_wd (lp_cp 69) = some (.code (lp_y 69) (lp_b 69) (lp_mx 69) (lp_rt 69)) := rfl
theorem lp_code70 : lp_wd (lp_cp 70) = some (.code (lp_y 70) (lp_b 70) (lp_mx 70) (lp_rt 70)) := rfl
theorem lp_code71 : lp_wd (lp_cp 71) = some (.code (lp_y 71) (lp_b 71) (lp_mx 71) (lp_rt 71)) := rfl
theorem lp_code72 : lp_wd (lp_cp 72) = some (.code (lp_y 72) (lp_b 72) (lp_mx 72) (lp_rt 72)) := rfl
theorem lp_code73 : lp_wd (lp_cp 73) = some (.code (lp_y 73) (lp_b 73) (lp_mx 73) (lp_rt 73)) := rfl
theorem lp_code74 : lp_wd (lp_cp 74) = some (.code (lp_y 74) (lp_b 74) (lp_mx 74) (lp_rt 74)) := rfl
theorem lp_code75 : lp_wd (lp_cp 75) = some (.code (lp_y 75) (lp_b 75) (lp_mx 75) (lp_rt 75)) := rfl
theorem lp_code76 : lp_wd (lp_cp 76) = some (.code (lp_y 76) (lp_b 76) (lp_mx 76) (lp_rt 76)) := rfl
theorem lp_code77 : lp_wd (lp_cp 77) = some (.code (lp_y 77) (lp_b 77) (lp_mx 77) (lp_rt 77)) := rfl
theorem lp_code78 : lp_wd (lp_cp 78) = some (.code (lp_y 78) (lp_b 78) (lp_mx 78) (lp_rt 78)) := rfl
theorem lp_code79 : lp_wd (lp_cp 79) = some (.code (lp_y 79) (lp_b 79) (lp_mx 79) (lp_rt 79)) := rfl
theorem lp_code80 : lp_wd (lp_cp 80) = some (.code (lp_y 80) (lp_b 80) (lp_mx 80) (lp_rt 80)) := rfl
theorem lp_code81 : lp_wd (lp_cp 81) = some (.code (lp_y 81) (lp_b 81) (lp_mx 81) (lp_rt 81)) := rfl
theorem lp_code82 : lp_wd (lp_cp 82) = some (.code (lp_y 82) (lp_b 82) (lp_mx 82) (lp_rt 82)) := rfl
theorem lp_code83 : lp_wd (lp_cp 83) = some (.code (lp_y 83) (lp_b 83) (lp_mx 83) (lp_rt 83)) := rfl
theorem lp_code84 : lp_wd (lp_cp 84) = some (.code (lp_y 84) (lp_b 84) (lp_mx 84) (lp_rt 84)) := rfl
theorem lp_code85 : lp_wd (lp_cp 85) = some (.code (lp_y 85) (lp_b 85) (lp_mx 85) (lp_rt 85)) := rfl
theorem lp_code86 : lp_wd (lp_cp 86) = some (.code (lp_y 86) (lp_b 86) (lp_mx 86) (lp_rt 86)) := rfl
theorem lp_code87 : lp_wd (lp_cp 87) = some (.code (lp_y 87) (lp_b 87) (lp_mx 87) (lp_rt 87)) := rfl
theorem lp_code88 : lp_wd (lp_cp 88) = some (.code (lp_y 88) (lp_b 88) (lp_mx 88) (lp_rt 88)) := rfl
theorem lp_code89 : lp_wd (lp_cp 89) = some (.code (lp_y 89) (lp_b 89) (lp_mx 89) (lp_rt 89)) := rfl
theorem lp_code90 : lp_wd (lp_cp 90) = some (.code (lp_y 90) (lp_b 90) (lp_mx 90) (lp_rt 90)) := rfl
theorem lp_code91 : lp_wd (lp_cp 91) = some (.code (lp_y 91) (lp_b 91) (lp_mx 91) (lp_rt 91)) := rfl
theorem lp_code92 : lp_wd (lp_cp 92) = some (.code (lp_y 92) (lp_b 92) (lp_mx 92) (lp_rt 92)) := rfl
theorem lp_code93 : lp_wd (lp_cp 93) = some (.code (lp_y 93) (lp_b 93) (lp_mx 93) (lp_rt 93)) := rfl
theorem lp_code94 : lp_wd (lp_cp 94) = some (.code (lp_y 94) (lp_b 94) (lp_mx 94) (lp_rt 94)) := rfl
theorem lp_code95 : lp_wd (lp_cp 95) = some (.code (lp_y 95) (lp_b 95) (lp_mx 95) (lp_rt 95)) := rfl
theorem lp_code96 : lp_wd (lp_cp 96) = some (.code (lp_y 96) (lp_b 96) (lp_mx 96) (lp_rt 96)) := rfl
theorem lp_code97 : lp_wd (lp_cp 97) = some (.code (lp_y 97) (lp_b 97) (lp_mx 97) (lp_rt 97)) := rfl
theorem lp_code98 : lp_wd (lp_cp 98) = some (.code (lp_y 98) (lp_b 98) (lp_mx 98) (lp_rt 98)) := rfl
theorem lp_code99 : lp_wd (lp_cp 99) = some (.code (lp_y 99) (lp_b 99) (lp_mx 99) (lp_rt 99)) := rfl
theorem lp_code100 : lp_wd (lp_cp 100) = some (.code (lp_y 100) (lp_b 100) (lp_mx 100) (lp_rt 100)) := rfl
theorem lp_code101 : lp_wd (lp_cp 101) = some (.code (lp_y 101) (lp_b 101) (lp_mx 101) (lp_rt 101)) := rfl
theorem lp_code102 : lp_wd (lp_cp 102) = some (.code (lp_y 102) (lp_b 102) (lp_mx 102) (lp_rt 102)) := rfl
theorem lp_code103 : lp_wd (lp_cp 103) = some (.code (lp_y 103) (lp_b 103) (lp_mx 103) (lp_rt 103)) := rfl
theorem lp_code104 : lp_wd (lp_cp 104) = some (.code (lp_y 104) (lp_b 104) (lp_mx 104) (lp_rt 104)) := rfl
theorem lp_code105 : lp_wd (lp_cp 105) = some (.code (lp_y 105) (lp_b 105) (lp_mx 105) (lp_rt 105)) := rfl
theorem lp_code106 : lp_wd (lp_cp 106) = some (.code (lp_y 106) (lp_b 106) (lp_mx 106) (lp_rt 106)) := rfl
theorem lp_code107 : lp_wd (lp_cp 107) = some (.code (lp_y 107) (lp_b 107) (lp_mx 107) (lp_rt 107)) := rfl
theorem lp_code108 : lp_wd (lp_cp 108) = some (.code (lp_y 108) (lp_b 108) (lp_mx 108) (lp_rt 108)) := rfl
theorem lp_code109 : lp_wd (lp_cp 109) = some (.code (lp_y 109) (lp_b 109) (lp_mx 109) (lp_rt 109)) := rfl
theorem lp_code110 : lp_wd (lp_cp 110) = some (.code (lp_y 110) (lp_b 110) (lp_mx 110) (lp_rt 110)) := rfl
theorem lp_code111 : lp_wd (lp_cp 111) = some (.code (lp_y 111) (lp_b 111) (lp_mx 111) (lp_rt 111)) := rfl
theorem lp_code112 : lp_wd (lp_cp 112) = some (.code (lp_y 112) (lp_b 112) (lp_mx 112) (lp_rt 112)) := rfl
theorem lp_code113 : lp_wd (lp_cp 113) = some (.code (lp_y 113) (lp_b 113) (lp_mx 113) (lp_rt 113)) := rfl
theorem lp_code114 : lp_wd (lp_cp 114) = some (.code (lp_y 114) (lp_b 114) (lp_mx 114) (lp_rt 114)) := rfl
theorem lp_code115 : lp_wd (lp_cp 115) = some (.code (lp_y 115) (lp_b 115) (lp_mx 115) (lp_rt 115)) := rfl
theorem lp_code116 : lp_wd (lp_cp 116) = some (.code (lp_y 116) (lp_b 116) (lp_mx 116) (lp_rt 116)) := rfl
theorem lp_code117 : lp_wd (lp_cp 117) = some (.code (lp_y 117) (lp_b 117) (lp_mx 117) (lp_rt 117)) := rfl
theorem lp_code118 : lp_wd (lp_cp 118) = some (.code (lp_y 118) (lp_b 118) (lp_mx 118) (lp_rt 118)) := rfl
theorem lp_code119 : lp_wd (lp_cp 119) = some (.code (lp_y 119) (lp_b 119) (lp_mx 119) (lp_rt 119)) := rfl
theorem lp_code120 : lp_wd (lp_cp 120) = some (.code (lp_y 120) (lp_b 120) (lp_mx 120) (lp_rt 120)) := rfl
theorem lp_code121 : lp_wd (lp_cp 121) = some (.code (lp_y 121) (lp_b 121) (lp_mx 121) (lp_rt 121)) := rfl
theorem lp_code122 : lp_wd (lp_cp 122) = some (.code (lp_y 122) (lp_b 122) (lp_mx 122) (lp_rt 122)) := rfl
theorem lp_code123 : lp_wd (lp_cp 123) = some (.code (lp_y 123) (lp_b 123) (lp_mx 123) (lp_rt 123)) := rfl
theorem lp_code124 : lp_wd (lp_cp 124) = some (.code (lp_y 124) (lp_b 124) (lp_mx 124) (lp_rt 124)) := rfl
theorem lp_code125 : lp_wd (lp_cp 125) = some (.code (lp_y 125) (lp_b 125) (lp_mx 125) (lp_rt 125)) := rfl
theorem lp_code126 : lp_wd (lp_cp 126) = some (.code (lp_y 126) (lp_b 126) (lp_mx 126) (lp_rt 126)) := rfl
theorem lp_code127 : lp_wd (lp_cp 127) = some (.code (lp_y 127) (lp_b 127) (lp_mx 127) (lp_rt 127)) := rfl
theorem lp_code128 : lp_wd (lp_cp 128) = some (.code (lp_y 128) (lp_b 128) (lp_mx 128) (lp_rt 128)) := rfl
theorem lp_code129 : lp_wd (lp_cp 129) = some (.code (lp_y 129) (lp_b 129) (lp_mx 129) (lp_rt 129)) := rfl
theorem lp_code130 : lp_wd (lp_cp 130) = some (.code (lp_y 130) (lp_b 130) (lp_mx 130) (lp_rt 130)) := rfl
theorem lp_code131 : lp_wd (lp_cp 131) = some (.code (lp_y 131) (lp_b 131) (lp_mx 131) (lp_rt 131)) := rfl
theorem lp_code132 : lp_wd (lp_cp 132) = some (.code (lp_y 132) (lp_b 132) (lp_mx 132) (lp_rt 132)) := rfl
theorem lp_code133 : lp_wd (lp_cp 133) = some (.code (lp_y 133) (lp_b 133) (lp_mx 133) (lp_rt 133)) := rfl
theorem lp_code134 : lp_wd (lp_cp 134) = some (.code (lp_y 134) (lp_b 134) (lp_mx 134) (lp_rt 134)) := rfl
theorem lp_code135 : lp_wd (lp_cp 135) = some (.code (lp_y 135) (lp_b 135) (lp_mx 135) (lp_rt 135)) := rfl
theorem lp_code136 : lp_wd (lp_cp 136) = some (.code (lp_y 136) (lp_b 136) (lp_mx 136) (lp_rt 136)) := rfl
theorem lp_code137 : lp_wd (lp_cp 137) = some (.code (lp_y 137) (lp_b 137) (lp_mx 137) (lp_rt 137)) := rfl
theorem lp_code138 : lp_wd (lp_cp 138) = some (.code (lp_y 138) (lp_b 138) (lp_mx 138) (lp_rt 138)) := rfl
theorem lp_code139 : lp_wd (lp_cp 139) = some (.code (lp_y 139) (lp_b 139) (lp_mx 139) (lp_rt 139)) := rfl
theorem lp_code140 : lp_wd (lp_cp 140) = some (.code (lp_y 140) (lp_b 140) (lp_mx 140) (lp_rt 140)) := rfl
theorem lp_code141 : lp_wd (lp_cp 141) = some (.code (lp_y 141) (lp_b 141) (lp_mx 141) (lp_rt 141)) := rfl
theorem lp_code142 : lp_wd (lp_cp 142) = some (.code (lp_y 142) (lp_b 142) (lp_mx 142) (lp_rt 142)) := rfl
theorem lp_code143 : lp_wd (lp_cp 143) = some (.code (lp_y 143) (lp_b 143) (lp_mx 143) (lp_rt 143)) := rfl
theorem lp_code144 : lp_wd (lp_cp 144) = some (.code (lp_y 144) (lp_b 144) (lp_mx 144) (lp_rt 144)) := rfl
theorem lp_code145 : lp_wd (lp_cp 145) = some (.code (lp_y 145) (lp_b 145) (lp_mx 145) (lp_rt 145)) := rfl
theorem lp_code146 : lp_wd (lp_cp 146) = some (.code (lp_y 146) (lp_b 146) (lp_mx 146) (lp_rt 146)) := rfl
theorem lp_code147 : lp_wd (lp_cp 147) = some (.code (lp_y 147) (lp_b 147) (lp_mx 147) (lp_rt 147)) := rfl
theorem lp_code148 : lp_wd (lp_cp 148) = some (.code (lp_y 148) (lp_b 148) (lp_mx 148) (lp_rt 148)) := rfl
theorem lp_code149 : lp_wd (lp_cp 149) = some (.code (lp_y 149) (lp_b 149) (lp_mx 149) (lp_rt 149)) := rfl
theorem lp_code150 : lp_wd (lp_cp 150) = some (.code (lp_y 150) (lp_b 150) (lp_mx 150) (lp_rt 150)) := rfl
theorem lp_code151 : lp_wd (lp_cp 151) = some (.code (lp_y 151) (lp_b 151) (lp_mx 151) (lp_rt 151)) := rfl
theorem lp_code152 : lp_wd (lp_cp 152) = some (.code (lp_y 152) (lp_b 152) (lp_mx 152) (lp_rt 152)) := rfl
theorem lp_code153 : lp_wd (lp_cp 153) = some (.code (lp_y 153) (lp_b 153) (lp_mx 153) (lp_rt 153)) := rfl
theorem lp_code154 : lp_wd (lp_cp 154) = some (.code (lp_y 154) (lp_b 154) (lp_mx 154) (lp_rt 154)) := rfl
theorem lp_code155 : lp_wd (lp_cp 155) = some (.code (lp_y 155) (lp_b 155) (lp_mx 155) (lp_rt 155)) := rfl
theorem lp_code156 : lp_wd (lp_cp 156) = some (.code (lp_y 156) (lp_b 156) (lp_mx 156) (lp_rt 156)) := rfl
theorem lp_code157 : lp_wd (lp_cp 157) = some (.code (lp_y 157) (lp_b 157) (lp_mx 157) (lp_rt 157)) := rfl
theorem lp_code158 : lp_wd (lp_cp 158) = some (.code (lp_y 158) (lp_b 158) (lp_mx 158) (lp_rt 158)) := rfl
theorem lp_code159 : lp_wd (lp_cp 159) = some (.code (lp_y 159) (lp_b 159) (lp_mx 159) (lp_rt 159)) := rfl
theorem lp_code160 : lp_wd (lp_cp 160) = some (.code (lp_y 160) (lp_b 160) (lp_mx 160) (lp_rt 160)) := rfl
theorem lp_code161 : lp_wd (lp_cp 161) = some (.code (lp_y 161) (lp_b 161) (lp_mx 161) (lp_rt 161)) := rfl
theorem lp_code162 : lp_wd (lp_cp 162) = some (.code (lp_y 162) (lp_b 162) (lp_mx 162) (lp_rt 162)) := rfl
theorem lp_code163 : lp_wd (lp_cp 163) = some (.code (lp_y 163) (lp_b 163) (lp_mx 163) (lp_rt 163)) := rfl
theorem lp_code164 : lp_wd (lp_cp 164) = some (.code (lp_y 164) (lp_b 164) (lp_mx 164) (lp_rt 164)) := rfl
theorem lp_code165 : lp_wd (lp_cp 165) = some (.code (lp_y 165) (lp_b 165) (lp_mx 165) (lp_rt 165)) := rfl
theorem lp_code166 : lp_wd (lp_cp 166) = some (.code (lp_y 166) (lp_b 166) (lp_mx 166) (lp_rt 166)) := rfl
theorem lp_code167 : lp_wd (lp_cp 167) = some (.code (lp_y 167) (lp_b 167) (lp_mx 167) (lp_rt 167)) := rfl
theorem lp_code168 : lp_wd (lp_cp 168) = some (.code (lp_y 168) (lp_b 168) (lp_mx 168) (lp_rt 168)) := rfl
theorem lp_code169 : lp_wd (lp_cp 169) = some (.code (lp_y 169) (lp_b 169) (lp_mx 169) (lp_rt 169)) := rfl
theorem lp_code170 : lp_wd (lp_cp 170) = some (.code (lp_y 170) (lp_b 170) (lp_mx 170) (lp_rt 170)) := rfl
theorem lp_code171 : lp_wd (lp_cp 171) = some (.code (lp_y 171) (lp_b 171) (lp_mx 171) (lp_rt 171)) := rfl
theorem lp_code172 : lp_wd (lp_cp 172) = some (.code (lp_y 172) (lp_b 172) (lp_mx 172) (lp_rt 172)) := rfl
theorem lp_code173 : lp_wd (lp_cp 173) = some (.code (lp_y 173) (lp_b 173) (lp_mx 173) (lp_rt 173)) := rfl
theorem lp_code174 : lp_wd (lp_cp 174) = some (.code (lp_y 174) (lp_b 174) (lp_mx 174) (lp_rt 174)) := rfl
theorem lp_code175 : lp_wd (lp_cp 175) = some (.code (lp_y 175) (lp_b 175) (lp_mx 175) (lp_rt 175)) := rfl
theorem lp_code176 : lp_wd (lp_cp 176) = some (.code (lp_y 176) (lp_b 176) (lp_mx 176) (lp_rt 176)) := rfl
theorem lp_code177 : lp_wd (lp_cp 177) = some (.code (lp_y 177) (lp_b 177) (lp_mx 177) (lp_rt 177)) := rfl
theorem lp_code178 : lp_wd (lp_cp 178) = some (.code (lp_y 178) (lp_b 178) (lp_mx 178) (lp_rt 178)) := rfl
theorem lp_code179 : lp_wd (lp_cp 179) = some (.code (lp_y 179) (lp_b 179) (lp_mx 179) (lp_rt 179)) := rfl
theorem lp_code180 : lp_wd (lp_cp 180) = some (.code (lp_y 180) (lp_b 180) (lp_mx 180) (lp_rt 180)) := rfl
theorem lp_code181 : lp_wd (lp_cp 181) = some (.code (lp_y 181) (lp_b 181) (lp_mx 181) (lp_rt 181)) := rfl
theorem lp_code182 : lp_wd (lp_cp 182) = some (.code (lp_y 182) (lp_b 182) (lp_mx 182) (lp_rt 182)) := rfl
theorem lp_code183 : lp_wd (lp_cp 183) = some (.code (lp_y 183) (lp_b 183) (lp_mx 183) (lp_rt 183)) := rfl
theorem lp_code184 : lp_wd (lp_cp 184) = some (.code (lp_y 184) (lp_b 184) (lp_mx 184) (lp_rt 184)) := rfl
theorem lp_code185 : lp_wd (lp_cp 185) = some (.code (lp_y 185) (lp_b 185) (lp_mx 185) (lp_rt 185)) := rfl
theorem lp_code186 : lp_wd (lp_cp 186) = some (.code (lp_y 186) (lp_b 186) (lp_mx 186) (lp_rt 186)) := rfl
theorem lp_code187 : lp_wd (lp_cp 187) = some (.code (lp_y 187) (lp_b 187) (lp_mx 187) (lp_rt 187)) := rfl
theorem lp_code188 : lp_wd (lp_cp 188) = some (.code (lp_y 188) (lp_b 188) (lp_mx 188) (lp_rt 188)) := rfl
theorem lp_code189 : lp_wd (lp_cp 189) = some (.code (lp_y 189) (lp_b 189) (lp_mx 189) (lp_rt 189)) := rfl
theorem lp_code190 : lp_wd (lp_cp 190) = some (.code (lp_y 190) (lp_b 190) (lp_mx 190) (lp_rt 190)) := rfl
theorem lp_code191 : lp_wd (lp_cp 191) = some (.code (lp_y 191) (lp_b 191) (lp_mx 191) (lp_rt 191)) := rfl
theorem lp_code192 : lp_wd (lp_cp 192) = some (.code (lp_y 192) (lp_b 192) (lp_mx 192) (lp_rt 192)) := rfl
theorem lp_code193 : lp_wd (lp_cp 193) = some (.code (lp_y 193) (lp_b 193) (lp_mx 193) (lp_rt 193)) := rfl
theorem lp_code194 : lp_wd (lp_cp 194) = some (.code (lp_y 194) (lp_b 194) (lp_mx 194) (lp_rt 194)) := rfl
theorem lp_code195 : lp_wd (lp_cp 195) = some (.code (lp_y 195) (lp_b 195) (lp_mx 195) (lp_rt 195)) := rfl
theorem lp_code196 : lp_wd (lp_cp 196) = some (.code (lp_y 196) (lp_b 196) (lp_mx 196) (lp_rt 196)) := rfl
theorem lp_code197 : lp_wd (lp_cp 197) = some (.code (lp_y 197) (lp_b 197) (lp_mx 197) (lp_rt 197)) := rfl
theorem lp_code198 : lp_wd (lp_cp 198) = some (.code (lp_y 198) (lp_b 198) (lp_mx 198) (lp_rt 198)) := rfl
theorem lp_code199 : lp_wd (lp_cp 199) = some (.code (lp_y 199) (lp_b 199) (lp_mx 199) (lp_rt 199)) := rfl
theorem lp_code200 : lp_wd (lp_cp 200) = some (.code (lp_y 200) (lp_b 200) (lp_mx 200) (lp_rt 200)) := rfl
theorem lp_code201 : lp_wd (lp_cp 201) = some (.code (lp_y 201) (lp_b 201) (lp_mx 201) (lp_rt 201)) := rfl
theorem lp_code202 : lp_wd (lp_cp 202) = some (.code (lp_y 202) (lp_b 202) (lp_mx 202) (lp_rt 202)) := rfl
theorem lp_code203 : lp_wd (lp_cp 203) = some (.code (lp_y 203) (lp_b 203) (lp_mx 203) (lp_rt 203)) := rfl
theorem lp_code204 : lp_wd (lp_cp 204) = some (.code (lp_y 204) (lp_b 204) (lp_mx 204) (lp_rt 204)) := rfl
theorem lp_code205 : lp_wd (lp_cp 205) = some (.code (lp_y 205) (lp_b 205) (lp_mx 205) (lp_rt 205)) := rfl
theorem lp_code206 : lp_wd (lp_cp 206) = some (.code (lp_y 206) (lp_b 206) (lp_mx 206) (lp_rt 206)) := rfl
theorem lp_code207 : lp_wd (lp_cp 207) = some (.code (lp_y 207) (lp_b 207) (lp_mx 207) (lp_rt 207)) := rfl
theorem lp_code208 : lp_wd (lp_cp 208) = some (.code (lp_y 208) (lp_b 208) (lp_mx 208) (lp_rt 208)) := rfl
theorem lp_code209 : lp_wd (lp_cp 209) = some (.code (lp_y 209) (lp_b 209) (lp_mx 209) (lp_rt 209)) := rfl
theorem lp_code210 : lp_wd (lp_cp 210) = some (.code (lp_y 210) (lp_b 210) (lp_mx 210) (lp_rt 210)) := rfl
theorem lp_code211 : lp_wd (lp_cp 211) = some (.code (lp_y 211) (lp_b 211) (lp_mx 211) (lp_rt 211)) := rfl
theorem lp_code212 : lp_wd (lp_cp 212) = some (.code (lp_y 212) (lp_b 212) (lp_mx 212) (lp_rt 212)) := rfl
theorem lp_code213 : lp_wd (lp_cp 213) = some (.code (lp_y 213) (lp_b 213) (lp_mx 213) (lp_rt 213)) := rfl
theorem lp_code214 : lp_wd (lp_cp 214) = some (.code (lp_y 214) (lp_b 214) (lp_mx 214) (lp_rt 214)) := rfl
theorem lp_code215 : lp_wd (lp_cp 215) = some (.code (lp_y 215) (lp_b 215) (lp_mx 215) (lp_rt 215)) := rfl
theorem lp_code216 : lp_wd (lp_cp 216) = some (.code (lp_y 216) (lp_b 216) (lp_mx 216) (lp_rt 216)) := rfl
theorem lp_code217 : lp_wd (lp_cp 217) = some (.code (lp_y 217) (lp_b 217) (lp_mx 217) (lp_rt 217)) := rfl
theorem lp_code218 : lp_wd (lp_cp 218) = some (.code (lp_y 218) (lp_b 218) (lp_mx 218) (lp_rt 218)) := rfl
theorem lp_code219 : lp_wd (lp_cp 219) = some (.code (lp_y 219) (lp_b 219) (lp_mx 219) (lp_rt 219)) := rfl
theorem lp_code220 : lp_wd (lp_cp 220) = some (.code (lp_y 220) (lp_b 220) (lp_mx 220) (lp_rt 220)) := rfl
theorem lp_code221 : lp_wd (lp_cp 221) = some (.code (lp_y 221) (lp_b 221) (lp_mx 221) (lp_rt 221)) := rfl
theorem lp_code222 : lp_wd (lp_cp 222) = some (.code (lp_y 222) (lp_b 222) (lp_mx 222) (lp_rt 222)) := rfl
theorem lp_code223 : lp_wd (lp_cp 223) = some (.code (lp_y 223) (lp_b 223) (lp_mx 223) (lp_rt 223)) := rfl
theorem lp_code224 : lp_wd (lp_cp 224) = some (.code (lp_y 224) (lp_b 224) (lp_mx 224) (lp_rt 224)) := rfl
theorem lp_code225 : lp_wd (lp_cp 225) = some (.code (lp_y 225) (lp_b 225) (lp_mx 225) (lp_rt 225)) := rfl
theorem lp_code226 : lp_wd (lp_cp 226) = some (.code (lp_y 226) (lp_b 226) (lp_mx 226) (lp_rt 226)) := rfl
theorem lp_code227 : lp_wd (lp_cp 227) = some (.code (lp_y 227) (lp_b 227) (lp_mx 227) (lp_rt 227)) := rfl
theorem lp_code228 : lp_wd (lp_cp 228) = some (.code (lp_y 228) (lp_b 228) (lp_mx 228) (lp_rt 228)) := rfl
theorem lp_code229 : lp_wd (lp_cp 229) = some (.code (lp_y 229) (lp_b 229) (lp_mx 229) (lp_rt 229)) := rfl
theorem lp_code230 : lp_wd (lp_cp 230) = some (.code (lp_y 230) (lp_b 230) (lp_mx 230) (lp_rt 230)) := rfl
theorem lp_code231 : lp_wd (lp_cp 231) = some (.code (lp_y 231) (lp_b 231) (lp_mx 231) (lp_rt 231)) := rfl
theorem lp_code232 : lp_wd (lp_cp 232) = some (.code (lp_y 232) (lp_b 232) (lp_mx 232) (lp_rt 232)) := rfl
theorem lp_code233 : lp_wd (lp_cp 233) = some (.code (lp_y 233) (lp_b 233) (lp_mx 233) (lp_rt 233)) := rfl
theorem lp_code234 : lp_wd (lp_cp 234) = some (.code (lp_y 234) (lp_b 234) (lp_mx 234) (lp_rt 234)) := rfl
theorem lp_code235 : lp_wd (lp_cp 235) = some (.code (lp_y 235) (lp_b 235) (lp_mx 235) (lp_rt 235)) := rfl
theorem lp_code236 : lp_wd (lp_cp 236) = some (.code (lp_y 236) (lp_b 236) (lp_mx 236) (lp_rt 236)) := rfl
theorem lp_code237 : lp_wd (lp_cp 237) = some (.code (lp_y 237) (lp_b 237) (lp_mx 237) (lp_rt 237)) := rfl
theorem lp_code238 : lp_wd (lp_cp 238) = some (.code (lp_y 238) (lp_b 238) (lp_mx 238) (lp_rt 238)) := rfl
theorem lp_code239 : lp_wd (lp_cp 239) = some (.code (lp_y 239) (lp_b 239) (lp_mx 239) (lp_rt 239)) := rfl
theorem lp_code240 : lp_wd (lp_cp 240) = some (.code (lp_y 240) (lp_b 240) (lp_mx 240) (lp_rt 240)) := rfl
theorem lp_code241 : lp_wd (lp_cp 241) = some (.code (lp_y 241) (lp_b 241) (lp_mx 241) (lp_rt 241)) := rfl
theorem lp_code242 : lp_wd (lp_cp 242) = some (.code (lp_y 242) (lp_b 242) (lp_mx 242) (lp_rt 242)) := rfl
theorem lp_code243 : lp_wd (lp_cp 243) = some (.code (lp_y 243) (lp_b 243) (lp_mx 243) (lp_rt 243)) := rfl
theorem lp_code244 : lp_wd (lp_cp 244) = some (.code (lp_y 244) (lp_b 244) (lp_mx 244) (lp_rt 244)) := rfl
theorem lp_code245 : lp_wd (lp_cp 245) = some (.code (lp_y 245) (lp_b 245) (lp_mx 245) (lp_rt 245)) := rfl
theorem lp_code246 : lp_wd (lp_cp 246) = some (.code (lp_y 246) (lp_b 246) (lp_mx 246) (lp_rt 246)) := rfl
theorem lp_code247 : lp_wd (lp_cp 247) = some (.code (lp_y 247) (lp_b 247) (lp_mx 247) (lp_rt 247)) := rfl
theorem lp_code248 : lp_wd (lp_cp 248) = some (.code (lp_y 248) (lp_b 248) (lp_mx 248) (lp_rt 248)) := rfl
theorem lp_code249 : lp_wd (lp_cp 249) = some (.code (lp_y 249) (lp_b 249) (lp_mx 249) (lp_rt 249)) := rfl
theorem lp_code250 : lp_wd (lp_cp 250) = some (.code (lp_y 250) (lp_b 250) (lp_mx 250) (lp_rt 250)) := rfl
theorem lp_code251 : lp_wd (lp_cp 251) = some (.code (lp_y 251) (lp_b 251) (lp_mx 251) (lp_rt 251)) := rfl
theorem lp_code252 : lp_wd (lp_cp 252) = some (.code (lp_y 252) (lp_b 252) (lp_mx 252) (lp_rt 252)) := rfl
theorem lp_code253 : lp_wd (lp_cp 253) = some (.code (lp_y 253) (lp_b 253) (lp_mx 253) (lp_rt 253)) := rfl
theorem lp_code254 : lp_wd (lp_cp 254) = some (.code (lp_y 254) (lp_b 254) (lp_mx 254) (lp_rt 254)) := rfl
theorem lp_code255 : lp_wd (lp_cp 255) = some (.code (lp_y 255) (lp_b 255) (lp_mx 255) (lp_rt 255)) := rfl
theorem lp_code256 : lp_wd (lp_cp 256) = some (.code (lp_y 256) (lp_b 256) (lp_mx 256) (lp_rt 256)) := rfl
theorem lp_code257 : lp_wd (lp_cp 257) = some (.code (lp_y 257) (lp_b 257) (lp_mx 257) (lp_rt 257)) := rfl
theorem lp_code258 : lp_wd (lp_cp 258) = some (.code (lp_y 258) (lp_b 258) (lp_mx 258) (lp_rt 258)) := rfl
theorem lp_code259 : lp_wd (lp_cp 259) = some (.code (lp_y 259) (lp_b 259) (lp_mx 259) (lp_rt 259)) := rfl
theorem lp_code260 : lp_wd (lp_cp 260) = some (.code (lp_y 260) (lp_b 260) (lp_mx 260) (lp_rt 260)) := rfl
theorem lp_code261 : lp_wd (lp_cp 261) = some (.code (lp_y 261) (lp_b 261) (lp_mx 261) (lp_rt 261)) := rfl
theorem lp_code262 : lp_wd (lp_cp 262) = some (.code (lp_y 262) (lp_b 262) (lp_mx 262) (lp_rt 262)) := rfl
theorem lp_code263 : lp_wd (lp_cp 263) = some (.code (lp_y 263) (lp_b 263) (lp_mx 263) (lp_rt 263)) := rfl
theorem lp_code264 : lp_wd (lp_cp 264) = some (.code (lp_y 264) (lp_b 264) (lp_mx 264) (lp_rt 264)) := rfl
theorem lp_code265 : lp_wd (lp_cp 265) = some (.code (lp_y 265) (lp_b 265) (lp_mx 265) (lp_rt 265)) := rfl
theorem lp_code266 : lp_wd (lp_cp 266) = some (.code (lp_y 266) (lp_b 266) (lp_mx 266) (lp_rt 266)) := rfl
theorem lp_code267 : lp_wd (lp_cp 267) = some (.code (lp_y 267) (lp_b 267) (lp_mx 267) (lp_rt 267)) := rfl
theorem lp_code268 : lp_wd (lp_cp 268) = some (.code (lp_y 268) (lp_b 268) (lp_mx 268) (lp_rt 268)) := rfl
theorem lp_code269 : lp_wd (lp_cp 269) = some (.code (lp_y 269) (lp_b 269) (lp_mx 269) (lp_rt 269)) := rfl
theorem lp_code270 : lp_wd (lp_cp 270) = some (.code (lp_y 270) (lp_b 270) (lp_mx 270) (lp_rt 270)) := rfl
theorem lp_code271 : lp_wd (lp_cp 271) = some (.code (lp_y 271) (lp_b 271) (lp_mx 271) (lp_rt 271)) := rfl
theorem lp_code272 : lp_wd (lp_cp 272) = some (.code (lp_y 272) (lp_b 272) (lp_mx 272) (lp_rt 272)) := rfl
theorem lp_code273 : lp_wd (lp_cp 273) = some (.code (lp_y 273) (lp_b 273) (lp_mx 273) (lp_rt 273)) := rfl
theorem lp_code274 : lp_wd (lp_cp 274) = some (.code (lp_y 274) (lp_b 274) (lp_mx 274) (lp_rt 274)) := rfl
theorem lp_code275 : lp_wd (lp_cp 275) = some (.code (lp_y 275) (lp_b 275) (lp_mx 275) (lp_rt 275)) := rfl
theorem lp_code276 : lp_wd (lp_cp 276) = some (.code (lp_y 276) (lp_b 276) (lp_mx 276) (lp_rt 276)) := rfl
theorem lp_code277 : lp_wd (lp_cp 277) = some (.code (lp_y 277) (lp_b 277) (lp_mx 277) (lp_rt 277)) := rfl
theorem lp_code278 : lp_wd (lp_cp 278) = some (.code (lp_y 278) (lp_b 278) (lp_mx 278) (lp_rt 278)) := rfl
theorem lp_code279 : lp_wd (lp_cp 279) = some (.code (lp_y 279) (lp_b 279) (lp_mx 279) (lp_rt 279)) := rfl
theorem lp_code280 : lp_wd (lp_cp 280) = some (.code (lp_y 280) (lp_b 280) (lp_mx 280) (lp_rt 280)) := rfl
theorem lp_code281 : lp_wd (lp_cp 281) = some (.code (lp_y 281) (lp_b 281) (lp_mx 281) (lp_rt 281)) := rfl
theorem lp_code282 : lp_wd (lp_cp 282) = some (.code (lp_y 282) (lp_b 282) (lp_mx 282) (lp_rt 282)) := rfl
theorem lp_code283 : lp_wd (lp_cp 283) = some (.code (lp_y 283) (lp_b 283) (lp_mx 283) (lp_rt 283)) := rfl
theorem lp_code284 : lp_wd (lp_cp 284) = some (.code (lp_y 284) (lp_b 284) (lp_mx 284) (lp_rt 284)) := rfl
theorem lp_code285 : lp_wd (lp_cp 285) = some (.code (lp_y 285) (lp_b 285) (lp_mx 285) (lp_rt 285)) := rfl
theorem lp_code286 : lp_wd (lp_cp 286) = some (.code (lp_y 286) (lp_b 286) (lp_mx 286) (lp_rt 286)) := rfl
theorem lp_code287 : lp_wd (lp_cp 287) = some (.code (lp_y 287) (lp_b 287) (lp_mx 287) (lp_rt 287)) := rfl
theorem lp_code288 : lp_wd (lp_cp 288) = some (.code (lp_y 288) (lp_b 288) (lp_mx 288) (lp_rt 288)) := rfl
theorem lp_code289 : lp_wd (lp_cp 289) = some (.code (lp_y 289) (lp_b 289) (lp_mx 289) (lp_rt 289)) := rfl
theorem lp_code290 : lp_wd (lp_cp 290) = some (.code (lp_y 290) (lp_b 290) (lp_mx 290) (lp_rt 290)) := rfl
theorem lp_code291 : lp_wd (lp_cp 291) = some (.code (lp_y 291) (lp_b 291) (lp_mx 291) (lp_rt 291)) := rfl
theorem lp_code292 : lp_wd (lp_cp 292) = some (.code (lp_y 292) (lp_b 292) (lp_mx 292) (lp_rt 292)) := rfl
theorem lp_codeg0 (m : Nat) (h1 : 0 ≤ m) (h2 : m < 16) : lp_wd (lp_cp m) = some (.code (lp_y m) (lp_b m) (lp_mx m) (lp_rt m)) := by
  have h : m = 0 ∨ m = 1 ∨ m = 2 ∨ m = 3 ∨ m = 4 ∨ m = 5 ∨ m = 6 ∨ m = 7 ∨ m = 8 ∨ m = 9 ∨ m = 10 ∨ m = 11 ∨ m = 12 ∨ m = 13 ∨ m = 14 ∨ m = 15 := by omega
  rcases h with rfl | rfl | rfl | rfl | rfl | rfl | rfl | rfl | rfl | rfl | rfl | rfl | rfl | rfl | rfl | rfl
  · exact lp_code0
  · exact lp_code1
  · exact lp_code2
  · exact lp_code3
  · exact lp_code4
  · exact lp_code5
  · exact lp_code6
  · exact lp_code7
  · exact lp_code8
  · exact lp_code9
  · exact lp_code10
  · exact lp_code11
  · exact lp_code12
  · exact lp_code13
  · exact lp_code14
  · exact lp_code15
theorem lp_codeg16 (m : Nat) (h1 : 16 ≤ m) (h2 : m < 32) : lp_wd (lp_cp m) = some (.code (lp_y m) (lp_b m) (lp_mx m) (lp_rt m)) := by
  have h : m = 16 ∨ m = 17 ∨ m = 18 ∨ m = 19 ∨ m = 20 ∨ m = 21 ∨ m = 22 ∨ m = 23 ∨ m = 24 ∨ m = 25 ∨ m = 26 ∨ m = 27 ∨ m = 28 ∨ m = 29 ∨ m = 30 ∨ m = 31 := by omega
  rcases h with rfl | rfl | rfl | rfl | rfl | rfl | rfl | rfl | rfl | rfl | rfl | rfl | rfl | rfl | rfl | rfl
  · exact lp_code16
  · exact lp_code17
  · exact lp_code18
  · exact lp_code19
  · exact lp_code20
  · exact lp_code21
  · exact lp_code22
  · exact lp_code23
  · exact lp_code24
  · exact lp_code25
  · exact lp_code26
  · exact lp_code27
  · exact lp_code28
  · exact lp_code29
  · exact lp_code30
  · exact lp_code31
theorem lp_codeg32 (m : Nat) (h1 : 32 ≤ m) (h2 : m < 48) : lp_wd (lp_cp m) = some (.code (lp_y m) (lp_b m) (lp_mx m) (lp_rt m)) := by
  have h : m = 32 ∨ m = 33 ∨ m = 34 ∨ m = 35 ∨ m = 36 ∨ m = 37 ∨ m = 38 ∨ m = 39 ∨ m = 40 ∨ m = 41 ∨ m = 42 ∨ m = 43 ∨ m = 44 ∨ m = 45 ∨ m = 46 ∨ m = 47 := by omega
  rcases h with rfl | rfl | rfl | rfl | rfl | rfl | rfl | rfl | rfl | rfl | rfl | rfl | rfl | rfl | rfl | rfl
  · exact lp_code32
  · exact lp_code33
  · exact lp_code34
  · exact lp_code35
  · exact lp_code36
  · exact lp_code37
  · exact lp_code38
  · exact lp_code39
  · exact lp_code40
  · exact lp_code41
  · exact lp_code42
  · exact lp_code43
  · exact lp_code44
  · exact lp_code45
  · exact lp_code46
  · exact lp_code47
theorem lp_codeg48 (m : Nat) (h1 : 48 ≤ m) (h2 : m < 64) : lp_wd (lp_cp m) = some (.code (lp_y m) (lp_b m) (lp_mx m) (lp_rt m)) := by
  have h : m = 48 ∨ m = 49 ∨ m = 50 ∨ m = 51 ∨ m = 52 ∨ m = 53 ∨ m = 54 ∨ m = 55 ∨ m = 56 ∨ m = 57 ∨ m = 58 ∨ m = 59 ∨ m = 60 ∨ m = 61 ∨ m = 62 ∨ m = 63 := by omega
  rcases h with rfl | rfl | rfl | rfl | rfl | rfl | rfl | rfl | rfl | rfl | rfl | rfl | rfl | rfl | rfl | rfl
  · exact lp_code48
  · exact lp_code49
  · exact lp_code50
  · exact lp_code51
  · exact lp_code52
  · exact lp_code53
  · exact lp_code54
  · exact lp_code55
  · exact lp_code56
  · exact lp_code57
  · exact lp_code58
  · exact lp_code59
  · exact lp_code60
  · exact lp_code61
  · exact lp_code62
  · exact lp_code63
theorem lp_codeg64 (m : Nat) (h1 : 64 ≤ m) (h2 : m < 80) : lp_wd (lp_cp m) = some (.code (lp_y m) (lp_b m) (lp_mx m) (lp_rt m)) := by
  have h : m = 64 ∨ m = 65 ∨ m = 66 ∨ m = 67 ∨ m = 68 ∨ m = 69 ∨ m = 70 ∨ m = 71 ∨ m = 72 ∨ m = 73 ∨ m = 74 ∨ m = 75 ∨ m = 76 ∨ m = 77 ∨ m = 78 ∨ m = 79 := by omega
  rcases h with rfl | rfl | rfl | rfl | rfl | rfl | rfl | rfl | rfl | rfl | rfl | rfl | rfl | rfl | rfl | rfl
  · exact lp_code64
  · exact lp_code65
  · exact lp_code66
  · exact lp_code67
  · exact lp_code68
  · exact lp_code69
  · exact lp_code70
  · exact lp_code71
  · exact lp_code72
  · exact lp_code73
  · exact lp_code74
  · exact lp_code75
  · exact lp_code76
  · exact lp_code77
  · exact lp_code78
  · exact lp_code79
theorem lp_codeg80 (m : Nat) (h1 : 80 ≤ m) (h2 : m < 96) : lp_wd (lp_cp m) = some (.code (lp_y m) (lp_b m) (lp_mx m) (lp_rt m)) := by
  have h : m = 80 ∨ m = 81 ∨ m = 82 ∨ m = 83 ∨ m = 84 ∨ m = 85 ∨ m = 86 ∨ m = 87 ∨ m = 88 ∨ m = 89 ∨ m = 90 ∨ m = 91 ∨ m = 92 ∨ m = 93 ∨ m = 94 ∨ m = 95 := by omega
  rcases h with rfl | rfl | rfl | rfl | rfl | rfl | rfl | rfl | rfl | rfl | rfl | rfl | rfl | rfl | rfl | rfl
  · exact lp_code80
  · exact lp_code81
  · exact lp_code82
  · exact lp_code83
  · exact lp_code84
  · exact lp_code85
  · exact lp_code86
  · exact lp_code87
  · exact lp_code88
  · exact lp_code89
  · exact lp_code90
  · exact lp_code91
  · exact lp_code92
  · exact lp_code93
  · exact lp_code94
  · exact lp_code95
theorem lp_codeg96 (m : Nat) (h1 : 96 ≤ m) (h2 : m < 112) : lp_wd (lp_cp m) = some (.code (lp_y m) (lp_b m) (lp_mx m) (lp_rt m)) := by
  have h : m = 96 ∨ m = 97 ∨ m = 98 ∨ m = 99 ∨ m = 100 ∨ m = 101 ∨ m = 102 ∨ m = 103 ∨ m = 104 ∨ m = 105 ∨ m = 106 ∨ m = 107 ∨ m = 108 ∨ m = 109 ∨ m = 110 ∨ m = 111 := by omega
  rcases h with rfl | rfl | rfl | rfl | rfl | rfl | rfl | rfl | rfl | rfl | rfl | rfl | rfl | rfl | rfl | rfl
  · exact lp_code96
  · exact lp_code97
  · exact lp_code98
  · exact lp_code99
  · exact lp_code100
  · exact lp_code101
  · exact lp_code102
  · exact lp_code103
  · exact lp_code104
  · exact lp_code105
  · exact lp_code106
  · exact lp_code107
  · exact lp_code108
  · exact lp_code109
  · exact lp_code110
  · exact lp_code111
theorem lp_codeg112 (m : Nat) (h1 : 112 ≤ m) (h2 : m < 128) : lp_wd (lp_cp m) = some (.code (lp_y m) (lp_b m) (lp_mx m) (lp_rt m)) := by
  have h : m = 112 ∨ m = 113 ∨ m = 114 ∨ m = 115 ∨ m = 116 ∨ m = 117 ∨ m = 118 ∨ m = 119 ∨ m = 120 ∨ m = 121 ∨ m = 122 ∨ m = 123 ∨ m = 124 ∨ m = 125 ∨ m = 126 ∨ m = 127 := by omega
  rcases h with rfl | rfl | rfl | rfl | rfl | rfl | rfl | rfl | rfl | rfl | rfl | rfl | rfl | rfl | rfl | rfl
  · exact lp_code112
  · exact lp_code113
  · exact lp_code114
  · exact lp_code115
  · exact lp_code116
  · exact lp_code117
  · exact lp_code118
  · exact lp_code119
  · exact lp_code120
  · exact lp_code121
  · exact lp_code122
  · exact lp_code123
  · exact lp_code124
  · exact lp_code125
  · exact lp_code126
  · exact lp_code127
theorem lp_codeg128 (m : Nat) (h1 : 128 ≤ m) (h2 : m < 144) : lp_wd (lp_cp m) = some (.code (lp_y m) (lp_b m) (lp_mx m) (lp_rt m)) := by
  have h : m = 128 ∨ m = 129 ∨ m = 130 ∨ m = 131 ∨ m = 132 ∨ m = 133 ∨ m = 134 ∨ m = 135 ∨ m = 136 ∨ m = 137 ∨ m = 138 ∨ m = 139 ∨ m = 140 ∨ m = 141 ∨ m = 142 ∨ m = 143 := by omega
  rcases h with rfl | rfl | rfl | rfl | rfl | rfl | rfl | rfl | rfl | rfl | rfl | rfl | rfl | rfl | rfl | rfl
  · exact lp_code128
  · exact lp_code129
  · exact lp_code130
  · exact lp_code131
  · exact lp_code132
  · exact lp_code133
  · exact lp_code134
  · exact lp_code135
  · exact lp_code136
  · exact lp_code137
  · exact lp_code138
  · exact lp_code139
  · exact lp_code140
  · exact lp_code141
  · exact lp_code142
  · exact lp_code143
theorem lp_codeg144 (m : Nat) (h1 : 144 ≤ m) (h2 : m < 160) : lp_wd (lp_cp m) = some (.code (lp_y m) (lp_b m) (lp_mx m) (lp_rt m)) := by
  have h : m = 144 ∨ m = 145 ∨ m = 146 ∨ m = 147 ∨ m = 148 ∨ m = 149 ∨ m = 150 ∨ m = 151 ∨ m = 152 ∨ m = 153 ∨ m = 154 ∨ m = 155 ∨ m = 156 ∨ m = 157 ∨ m = 158 ∨ m = 159 := by omega
  rcases h with rfl | rfl | rfl | rfl | rfl | rfl | rfl | rfl | rfl | rfl | rfl | rfl | rfl | rfl | rfl | rfl
  · exact lp_code144
  · exact lp_code145
  · exact lp_code146
  · exact lp_code147
  · exact lp_code148
  · exact lp_code149
  · exact lp_code150
  · exact lp_code151
  · exact lp_code152
  · exact lp_code153
  · exact lp_code154
  · exact lp_code155
  · exact lp_code156
  · exact lp_code157
  · exact lp_code158
  · exact lp_code159
theorem lp_codeg160 (m : Nat) (h1 : 160 ≤ m) (h2 : m < 176) : lp_wd (lp_cp m) = some (.code (lp_y m) (lp_b m) (lp_mx m) (lp_rt m)) := by
  have h : m = 160 ∨ m = 161 ∨ m = 162 ∨ m = 163 ∨ m = 164 ∨ m = 165 ∨ m = 166 ∨ m = 167 ∨ m = 168 ∨ m = 169 ∨ m = 170 ∨ m = 171 ∨ m = 172 ∨ m = 173 ∨ m = 174 ∨ m = 175 := by omega
  rcases h with rfl | rfl | rfl | rfl | rfl | rfl | rfl | rfl | rfl | rfl | rfl | rfl | rfl | rfl | rfl | rfl
  · exact lp_code160
  · exact lp_code161
  · exact lp_code162
  · exact lp_code163
  · exact lp_code164
  · exact lp_code165
  · exact lp_code166
  · exact lp_code167
  · exact lp_code168
  · exact lp_code169
  · exact lp_code170
  · exact lp_code171
  · exact lp_code172
  · exact lp_code173
  · exact lp_code174
  · exact lp_code175
theorem lp_codeg176 (m : Nat) (h1 : 176 ≤ m) (h2 : m < 192) : lp_wd (lp_cp m) = some (.code (lp_y m) (lp_b m) (lp_mx m) (lp_rt m)) := by
  have h : m = 176 ∨ m = 177 ∨ m = 178 ∨ m = 179 ∨ m = 180 ∨ m = 181 ∨ m = 182 ∨ m = 183 ∨ m = 184 ∨ m = 185 ∨ m = 186 ∨ m = 187 ∨ m = 188 ∨ m = 189 ∨ m = 190 ∨ m = 191 := by omega
  rcases h with rfl | rfl | rfl | rfl | rfl | rfl | rfl | rfl | rfl | rfl | rfl | rfl | rfl | rfl | rfl | rfl
  · exact lp_code176
  · exact lp_code177
  · exact lp_code178
  · exact lp_code179
  · exact lp_code180
  · exact lp_code181
  · exact lp_code182
  · exact lp_code183
  · exact lp_code184
  · exact lp_code185
  · exact lp_code186
  · exact lp_code187
  · exact lp_code188
  · exact lp_code189
  · exact lp_code190
  · exact lp_code191
theorem lp_codeg192 (m : Nat) (h1 : 192 ≤ m) (h2 : m < 208) : lp_wd (lp_cp m) = some (.code (lp_y m) (lp_b m) (lp_mx m) (lp_rt m)) := by
  have h : m = 192 ∨ m = 193 ∨ m = 194 ∨ m = 195 ∨ m = 196 ∨ m = 197 ∨ m = 198 ∨ m = 199 ∨ m = 200 ∨ m = 201 ∨ m = 202 ∨ m = 203 ∨ m = 204 ∨ m = 205 ∨ m = 206 ∨ m = 207 := by omega
  rcases h with rfl | rfl | rfl | rfl | rfl | rfl | rfl | rfl | rfl | rfl | rfl | rfl | rfl | rfl | rfl | rfl
  · exact lp_code192
  · exact lp_code193
  · exact lp_code194
  · exact lp_code195
  · exact lp_code196
  · exact lp_code197
  · exact lp_code198
  · exact lp_code199
  · exact lp_code200
  · exact lp_code201
  · exact lp_code202
  · exact lp_code203
  · exact lp_code204
  · exact lp_code205
  · exact lp_code206
  · exact lp_code207
theorem lp_codeg208 (m : Nat) (h1 : 208 ≤ m) (h2 : m < 224) : lp_wd (lp_cp m) = some (.code (lp_y m) (lp_b m) (lp_mx m) (lp_rt m)) := by
  have h : m = 208 ∨ m = 209 ∨ m = 210 ∨ m = 211 ∨ m = 212 ∨ m = 213 ∨ m = 214 ∨ m = 215 ∨ m = 216 ∨ m = 217 ∨ m = 218 ∨ m = 219 ∨ m = 220 ∨ m = 221 ∨ m = 222 ∨ m = 223 := by omega
  rcases h with rfl | rfl | rfl | rfl | rfl | rfl | rfl | rfl | rfl | rfl | rfl | rfl | rfl | rfl | rfl | rfl
  · exact lp_code208
  · exact lp_code209
  · exact lp_code210
  · exact lp_code211
  · exact lp_code212
  · exact lp_code213
  · exact lp_code214
  · exact lp_code215
  · exact lp_code216
  · exact lp_code217
  · exact lp_code218
  · exact lp_code219
  · exact lp_code220
  · exact lp_code221
  · exact lp_code222
  · exact lp_code223
theorem lp_codeg224 (m : Nat) (h1 : 224 ≤ m) (h2 : m < 240) : lp_wd (lp_cp m) = some (.code (lp_y m) (lp_b m) (lp_mx m) (lp_rt m)) := by
  have h : m = 224 ∨ m = 225 ∨ m = 226 ∨ m = 227 ∨ m = 228 ∨ m = 229 ∨ m = 230 ∨ m = 231 ∨ m = 232 ∨ m = 233 ∨ m = 234 ∨ m = 235 ∨ m = 236 ∨ m = 237 ∨ m = 238 ∨ m = 239 := by omega
  rcases h with rfl | rfl | rfl | rfl | rfl | rfl | rfl | rfl | rfl | rfl | rfl | rfl | rfl | rfl | rfl | rfl
  · exact lp_code224
  · exact lp_code225
  · exact lp_code226
  · exact lp_code227
  · exact lp_code228
  · exact lp_code229
  · exact lp_code230
  · exact lp_code231
  · exact lp_code232
  · exact lp_code233
  · exact lp_code234
  · exact lp_code235
  · exact lp_code236
  · exact lp_code237
  · exact lp_code238
  · exact lp_code239
theorem lp_codeg240 (m : Nat) (h1 : 240 ≤ m) (h2 : m < 256) : lp_wd (lp_cp m) = some (.code (lp_y m) (lp_b m) (lp_mx m) (lp_rt m)) := by
  have h : m = 240 ∨ m = 241 ∨ m = 242 ∨ m = 243 ∨ m = 244 ∨ m = 245 ∨ m = 246 ∨ m = 247 ∨ m = 248 ∨ m = 249 ∨ m = 250 ∨ m = 251 ∨ m = 252 ∨ m = 253 ∨ m = 254 ∨ m = 255 := by omega
  rcases h with rfl | rfl | rfl | rfl | rfl | rfl | rfl | rfl | rfl | rfl | rfl | rfl | rfl | rfl | rfl | rfl
  · exact lp_code240
  · exact lp_code241
  · exact lp_code242
  · exact lp_code243
  · exact lp_code244
  · exact lp_code245
  · exact lp_code246
  · exact lp_code247
  · exact lp_code248
  · exact lp_code249
  · exact lp_code250
  · exact lp_code251
  · exact lp_code252
  · exact lp_code253
  · exact lp_code254
  · exact lp_code255
theorem lp_codeg256 (m : Nat) (h1 : 256 ≤ m) (h2 : m < 272) : lp_wd (lp_cp m) = some (.code (lp_y m) (lp_b m) (lp_mx m) (lp_rt m)) := by
  have h : m = 256 ∨ m = 257 ∨ m = 258 ∨ m = 259 ∨ m = 260 ∨ m = 261 ∨ m = 262 ∨ m = 263 ∨ m = 264 ∨ m = 265 ∨ m = 266 ∨ m = 267 ∨ m = 268 ∨ m = 269 ∨ m = 270 ∨ m = 271 := by omega
  rcases h with rfl | rfl | rfl | rfl | rfl | rfl | rfl | rfl | rfl | rfl | rfl | rfl | rfl | rfl | rfl | rfl
  · exact lp_code256
  · exact lp_code257
  · exact lp_code258
  · exact lp_code259
  · exact lp_code260
  · exact lp_code261
  · exact lp_code262
  · exact lp_code263
  · exact lp_code264
  · exact lp_code265
  · exact lp_code266
  · exact lp_code267
  · exact lp_code268
  · exact lp_code269
  · exact lp_code270
  · exact lp_code271
theorem lp_codeg272 (m : Nat) (h1 : 272 ≤ m) (h2 : m < 288) : lp_wd (lp_cp m) = some (.code (lp_y m) (lp_b m) (lp_mx m) (lp_rt m)) := by
  have h : m = 272 ∨ m = 273 ∨ m = 274 ∨ m = 275 ∨ m = 276 ∨ m = 277 ∨ m = 278 ∨ m = 279 ∨ m = 280 ∨ m = 281 ∨ m = 282 ∨ m = 283 ∨ m = 284 ∨ m = 285 ∨ m = 286 ∨ m = 287 := by omega
  rcases h with rfl | rfl | rfl | rfl | rfl | rfl | rfl | rfl | rfl | rfl | rfl | rfl | rfl | rfl | rfl | rfl
  · exact lp_code272
  · exact lp_code273
  · exact lp_code274
  · exact lp_code275
  · exact lp_code276
  · exact lp_code277
  · exact lp_code278
  · exact lp_code279
  · exact lp_code280
  · exact lp_code281
  · exact lp_code282
  · exact lp_code283
  · exact lp_code284
  · exact lp_code285
  · exact lp_code286
  · exact lp_code287
theorem lp_codeg288 (m : Nat) (h1 : 288 ≤ m) (h2 : m < 293) : lp_wd (lp_cp m) = some (.code (lp_y m) (lp_b m) (lp_mx m) (lp_rt m)) := by
  have h : m = 288 ∨ m = 289 ∨ m = 290 ∨ m = 291 ∨ m = 292 := by omega
  rcases h with rfl | rfl | rfl | rfl | rfl
  · exact lp_code288
  · exact lp_code289
  · exact lp_code290
  · exact lp_code291
  · exact lp_code292
theorem lp_code_all (m : Nat) (h : m < 293) : lp_wd (lp_cp m) = some (.code (lp_y m) (lp_b m) (lp_mx m) (lp_rt m)) := by
  by_cases h0 : m < 16
  · exact lp_codeg0 m (by omega) h0
  by_cases h16 : m < 32
  · exact lp_codeg16 m (by omega) h16
  by_cases h32 : m < 48
  · exact lp_codeg32 m (by omega) h32
  by_cases h48 : m < 64
  · exact lp_codeg48 m (by omega) h48
  by_cases h64 : m < 80
  · exact lp_codeg64 m (by omega) h64
  by_cases h80 : m < 96
  · exact lp_codeg80 m (by omega) h80
  by_cases h96 : m < 112
  · exact lp_codeg96 m (by omega) h96
  by_cases h112 : m < 128
  · exact lp_codeg112 m (by omega) h112
  by_cases h128 : m < 144
  · exact lp_codeg128 m (by omega) h128
  by_cases h144 : m < 160
  · exact lp_codeg144 m (by omega) h144
  by_cases h160 : m < 176
  · exact lp_codeg160 m (by omega) h160
  by_cases h176 : m < 192
  · exact lp_codeg176 m (by omega) h176
  by_cases h192 : m < 208
  · exact lp_codeg192 m (by omega) h192
  by_cases h208 : m < 224
  · exact lp_codeg208 m (by omega) h208
  by_cases h224 : m < 240
  · exact lp_codeg224 m (by omega) h224
  by_cases h240 : m < 256
  · exact lp_codeg240 m (by omega) h240
  by_cases h256 : m < 272
  · exact lp_codeg256 m (by omega) h256
  by_cases h272 : m < 288
  · exact lp_codeg272 m (by omega) h272
  exact lp_codeg288 m (by omega) (by omega)
/-- 0 virtual, 1 static, 2 a constructor, 4 virtual and private -/
def lp_kd (m : Nat) : Nat := (bif Nat.ble 179 m then (bif Nat.ble 230 m then (bif Nat.ble 260 m then (bif Nat.ble 281 m then (bif Nat.ble 289 m then (bif Nat.ble 293 m then (bif Nat.ble 294 m then 9 else 3) else 1) else (bif Nat.ble 282 m then (bif Nat.ble 285 m then 0 else 1) else 0)) else (bif Nat.ble 268 m then (bif Nat.ble 269 m then (bif Nat.ble 272 m then 4 else 0) else 4) else (bif Nat.ble 266 m then 0 else 4))) else (bif Nat.ble 237 m then (bif Nat.ble 240 m then (bif Nat.ble 246 m then (bif Nat.ble 251 m then 0 else 4) else 0) else (bif Nat.ble 239 m then 4 else 0)) else (bif Nat.ble 232 m then (bif Nat.ble 233 m then (bif Nat.ble 236 m then 4 else 0) else 4) else (bif Nat.ble 231 m then 0 else 4)))) else (bif Nat.ble 196 m then (bif Nat.ble 216 m then (bif Nat.ble 223 m then (bif Nat.ble 226 m then (bif Nat.ble 227 m then 0 else 4) else 0) else (bif Nat.ble 217 m then (bif Nat.ble 219 m then 4 else 0) else 4)) else (bif Nat.ble 210 m then (bif Nat.ble 212 m then (bif Nat.ble 213 m then 0 else 4) else 0) else (bif Nat.ble 197 m then 4 else 1))) else (bif Nat.ble 187 m then (bif Nat.ble 192 m then (bif Nat.ble 193 m then (bif Nat.ble 194 m then 0 else 4) else 0) else (bif Nat.ble 191 m then 1 else 0)) else (bif Nat.ble 181 m then (bif Nat.ble 182 m then (bif Nat.ble 185 m then 4 else 0) else 4) else (bif Nat.ble 180 m then 0 else 1))))) else (bif Nat.ble 56 m then (bif Nat.ble 77 m then (bif Nat.ble 163 m then (bif Nat.ble 174 m then (bif Nat.ble 175 m then (bif Nat.ble 176 m then 0 else 4) else 0) else (bif Nat.ble 167 m then (bif Nat.ble 172 m then 1 else 4) else 1)) else (bif Nat.ble 133 m then (bif Nat.ble 157 m then (bif Nat.ble 162 m then 2 else 1) else 4) else (bif Nat.ble 78 m then 0 else 2))) else (bif Nat.ble 68 m then (bif Nat.ble 70 m then (bif Nat.ble 75 m then (bif Nat.ble 76 m then 0 else 2) else 0) else (bif Nat.ble 69 m then 4 else 0)) else (bif Nat.ble 58 m then (bif Nat.ble 59 m then (bif Nat.ble 63 m then 4 else 0) else 2) else (bif Nat.ble 57 m then 4 else 1)))) else (bif Nat.ble 18 m then (bif Nat.ble 39 m then (bif Nat.ble 52 m then (bif Nat.ble 54 m then (bif Nat.ble 55 m then 0 else 2) else 1) else (bif Nat.ble 40 m then (bif Nat.ble 41 m then 4 else 0) else 2)) else (bif Nat.ble 27 m then (bif Nat.ble 36 m then (bif Nat.ble 37 m then 0 else 2) else 0) else (bif Nat.ble 26 m then 1 else 0))) else (bif Nat.ble 11 m then (bif Nat.ble 15 m then (bif Nat.ble 16 m then (bif Nat.ble 17 m then 2 else 0) else 4) else (bif Nat.ble 12 m then 0 else 2)) else (bif Nat.ble 4 m then (bif Nat.ble 5 m then (bif Nat.ble 6 m then 4 else 0) else 2) else (bif Nat.ble 1 m then 0 else 2))))))
def lp_sp (m : Nat) : Nat := (bif Nat.ble 147 m then (bif Nat.ble 220 m then (bif Nat.ble 257 m then (bif Nat.ble 275 m then (bif Nat.ble 284 m then (bif Nat.ble 289 m then (bif Nat.ble 291 m then (bif Nat.ble 292 m then (bif Nat.ble 293 m then 0 else 0) else 0) else (bif Nat.ble 290 m then 0 else 0)) else (bif Nat.ble 286 m then (bif Nat.ble 287 m then (bif Nat.ble 288 m then 1170 else 1160) else 1166) else (bif Nat.ble 285 m then 1156 else 0))) else (bif Nat.ble 279 m then (bif Nat.ble 281 m then (bif Nat.ble 282 m then (bif Nat.ble 283 m then 0 else 0) else 6168) else (bif Nat.ble 280 m then 97 else 102)) else (bif Nat.ble 277 m then (bif Nat.ble 278 m then 100 else 99) else (bif Nat.ble 276 m then 101 else 98)))) else (bif Nat.ble 266 m then (bif Nat.ble 270 m then (bif Nat.ble 272 m then (bif Nat.ble 273 m then (bif Nat.ble 274 m then 95 else 96) else 88) else (bif Nat.ble 271 m then 6164 else 6160)) else (bif Nat.ble 268 m then (bif Nat.ble 269 m then 6152 else 94) else (bif Nat.ble 267 m then 6148 else 6116))) else (bif Nat.ble 261 m then (bif Nat.ble 263 m then (bif Nat.ble 264 m then (bif Nat.ble 265 m then 92 else 91) else 93) else (bif Nat.ble 262 m then 90 else 87)) else (bif Nat.ble 259 m then (bif Nat.ble 260 m then 89 else 6112) else (bif Nat.ble 258 m then 6108 else 6104))))) else (bif Nat.ble 238 m then (bif Nat.ble 247 m then (bif Nat.ble 252 m then (bif Nat.ble 254 m then (bif Nat.ble 255 m then (bif Nat.ble 256 m then 6100 else 6096) else 6088) else (bif Nat.ble 253 m then 6084 else 6080)) else (bif Nat.ble 249 m then (bif Nat.ble 250 m then (bif Nat.ble 251 m then 6060 else 83) else 85) else (bif Nat.ble 248 m then 86 else 84))) else (bif Nat.ble 242 m then (bif Nat.ble 244 m then (bif Nat.ble 245 m then (bif Nat.ble 246 m then 82 else 6056) else 6051) else (bif Nat.ble 243 m then 6047 else 6043)) else (bif Nat.ble 240 m then (bif Nat.ble 241 m then 6039 else 6031) else (bif Nat.ble 239 m then 81 else 6027)))) else (bif Nat.ble 229 m then (bif Nat.ble 233 m then (bif Nat.ble 235 m then (bif Nat.ble 236 m then (bif Nat.ble 237 m then 6019 else 80) else 6015) else (bif Nat.ble 234 m then 6011 else 6003)) else (bif Nat.ble 231 m then (bif Nat.ble 232 m then 79 else 5239) else (bif Nat.ble 230 m then 57 else 5235))) else (bif Nat.ble 224 m then (bif Nat.ble 226 m then (bif Nat.ble 227 m then (bif Nat.ble 228 m then 5231 else 5223) else 78) else (bif Nat.ble 225 m then 5219 else 5215)) else (bif Nat.ble 222 m then (bif Nat.ble 223 m then 5195 else 74) else (bif Nat.ble 221 m then 75 else 77)))))) else (bif Nat.ble 183 m then (bif Nat.ble 201 m then (bif Nat.ble 210 m then (bif Nat.ble 215 m then (bif Nat.ble 217 m then (bif Nat.ble 218 m then (bif Nat.ble 219 m then 76 else 5191) else 5183) else (bif Nat.ble 216 m then 73 else 5175)) else (bif Nat.ble 212 m then (bif Nat.ble 213 m then (bif Nat.ble 214 m then 5167 else 5159) else 70) else (bif Nat.ble 211 m then 5155 else 5151))) else (bif Nat.ble 205 m then (bif Nat.ble 207 m then (bif Nat.ble 208 m then (bif Nat.ble 209 m then 72 else 68) else 58) else (bif Nat.ble 206 m then 66 else 67)) else (bif Nat.ble 203 m then (bif Nat.ble 204 m then 65 else 64) else (bif Nat.ble 202 m then 71 else 59)))) else (bif Nat.ble 192 m then (bif Nat.ble 196 m then (bif Nat.ble 198 m then (bif Nat.ble 199 m then (bif Nat.ble 200 m then 62 else 60) else 63) else (bif Nat.ble 197 m then 61 else 0)) else (bif Nat.ble 194 m then (bif Nat.ble 195 m then 5147 else 5139) else (bif Nat.ble 193 m then 69 else 5135))) else (bif Nat.ble 187 m then (bif Nat.ble 189 m then (bif Nat.ble 190 m then (bif Nat.ble 191 m then 0 else 5128) else 5074) else (bif Nat.ble 188 m then 5066 else 5054)) else (bif Nat.ble 185 m then (bif Nat.ble 186 m then 55 else 56) else (bif Nat.ble 184 m then 5050 else 5046))))) else (bif Nat.ble 165 m then (bif Nat.ble 174 m then (bif Nat.ble 178 m then (bif Nat.ble 180 m then (bif Nat.ble 181 m then (bif Nat.ble 182 m then 5038 else 54) else 5031) else (bif Nat.ble 179 m then 0 else 5027)) else (bif Nat.ble 176 m then (bif Nat.ble 177 m then 5023 else 5008) else (bif Nat.ble 175 m then 53 else 4219))) else (bif Nat.ble 169 m then (bif Nat.ble 171 m then (bif Nat.ble 172 m then (bif Nat.ble 173 m then 0 else 0) else 48) else (bif Nat.ble 170 m then 52 else 50)) else (bif Nat.ble 167 m then (bif Nat.ble 168 m then 49 else 51) else (bif Nat.ble 166 m then 0 else 0)))) else (bif Nat.ble 156 m then (bif Nat.ble 160 m then (bif Nat.ble 162 m then (bif Nat.ble 163 m then (bif Nat.ble 164 m then 0 else 0) else 0) else (bif Nat.ble 161 m then 0 else 0)) else (bif Nat.ble 158 m then (bif Nat.ble 159 m then 0 else 0) else (bif Nat.ble 157 m then 0 else 47))) else (bif Nat.ble 151 m then (bif Nat.ble 153 m then (bif Nat.ble 154 m then (bif Nat.ble 155 m then 46 else 45) else 43) else (bif Nat.ble 152 m then 42 else 33)) else (bif Nat.ble 149 m then (bif Nat.ble 150 m then 31 else 30) else (bif Nat.ble 148 m then 26 else 24))))))) else (bif Nat.ble 73 m then (bif Nat.ble 110 m then (bif Nat.ble 128 m then (bif Nat.ble 137 m then (bif Nat.ble 142 m then (bif Nat.ble 144 m then (bif Nat.ble 145 m then (bif Nat.ble 146 m then 25 else 27) else 34) else (bif Nat.ble 143 m then 35 else 32)) else (bif Nat.ble 139 m then (bif Nat.ble 140 m then (bif Nat.ble 141 m then 14 else 36) else 28) else (bif Nat.ble 138 m then 16 else 17))) else (bif Nat.ble 132 m then (bif Nat.ble 134 m then (bif Nat.ble 135 m then (bif Nat.ble 136 m then 11 else 12) else 13) else (bif Nat.ble 133 m then 15 else 4088)) else (bif Nat.ble 130 m then (bif Nat.ble 131 m then 4076 else 4029) else (bif Nat.ble 129 m then 4025 else 4021)))) else (bif Nat.ble 119 m then (bif Nat.ble 123 m then (bif Nat.ble 125 m then (bif Nat.ble 126 m then (bif Nat.ble 127 m then 4017 else 4013) else 4005) else (bif Nat.ble 124 m then 4001 else 3237)) else (bif Nat.ble 121 m then (bif Nat.ble 122 m then 3233 else 3183) else (bif Nat.ble 120 m then 3175 else 3171))) else (bif Nat.ble 114 m then (bif Nat.ble 116 m then (bif Nat.ble 117 m then (bif Nat.ble 118 m then 3167 else 3163) else 3159) else (bif Nat.ble 115 m then 3155 else 3139)) else (bif Nat.ble 112 m then (bif Nat.ble 113 m then 3135 else 3127) else (bif Nat.ble 111 m then 3115 else 3111))))) else (bif Nat.ble 91 m then (bif Nat.ble 100 m then (bif Nat.ble 105 m then (bif Nat.ble 107 m then (bif Nat.ble 108 m then (bif Nat.ble 109 m then 3107 else 3095) else 3091) else (bif Nat.ble 106 m then 3087 else 3078)) else (bif Nat.ble 102 m then (bif Nat.ble 103 m then (bif Nat.ble 104 m then 3070 else 3036) else 3032) else (bif Nat.ble 101 m then 3028 else 3024))) else (bif Nat.ble 95 m then (bif Nat.ble 97 m then (bif Nat.ble 98 m then (bif Nat.ble 99 m then 3013 else 3009) else 3005) else (bif Nat.ble 96 m then 2239 else 2231)) else (bif Nat.ble 93 m then (bif Nat.ble 94 m then 2227 else 2205) else (bif Nat.ble 92 m then 2201 else 2196)))) else (bif Nat.ble 82 m then (bif Nat.ble 86 m then (bif Nat.ble 88 m then (bif Nat.ble 89 m then (bif Nat.ble 90 m then 2186 else 2117) else 2108) else (bif Nat.ble 87 m then 2092 else 2088)) else (bif Nat.ble 84 m then (bif Nat.ble 85 m then 2080 else 2076) else (bif Nat.ble 83 m then 2067 else 2051))) else (bif Nat.ble 77 m then (bif Nat.ble 79 m then (bif Nat.ble 80 m then (bif Nat.ble 81 m then 2030 else 1121) else 1117) else (bif Nat.ble 78 m then 1109 else 0)) else (bif Nat.ble 75 m then (bif Nat.ble 76 m then 1113 else 0) else (bif Nat.ble 74 m then 3066 else 3074)))))) else (bif Nat.ble 36 m then (bif Nat.ble 54 m then (bif Nat.ble 63 m then (bif Nat.ble 68 m then (bif Nat.ble 70 m then (bif Nat.ble 71 m then (bif Nat.ble 72 m then 3209 else 2179) else 2175) else (bif Nat.ble 69 m then 23 else 2162)) else (bif Nat.ble 65 m then (bif Nat.ble 66 m then (bif Nat.ble 67 m then 22 else 21) else 20) else (bif Nat.ble 64 m then 19 else 18))) else (bif Nat.ble 58 m then (bif Nat.ble 60 m then (bif Nat.ble 61 m then (bif Nat.ble 62 m then 2134 else 3131) else 3123) else (bif Nat.ble 59 m then 2129 else 0)) else (bif Nat.ble 56 m then (bif Nat.ble 57 m then 29 else 0) else (bif Nat.ble 55 m then 3053 else 0)))) else (bif Nat.ble 45 m then (bif Nat.ble 49 m then (bif Nat.ble 51 m then (bif Nat.ble 52 m then (bif Nat.ble 53 m then 0 else 0) else 1) else (bif Nat.ble 50 m then 2 else 0)) else (bif Nat.ble 47 m then (bif Nat.ble 48 m then 3 else 5) else (bif Nat.ble 46 m then 7 else 6))) else (bif Nat.ble 40 m then (bif Nat.ble 42 m then (bif Nat.ble 43 m then (bif Nat.ble 44 m then 9 else 10) else 8) else (bif Nat.ble 41 m then 4 else 1125)) else (bif Nat.ble 38 m then (bif Nat.ble 39 m then 0 else 2235) else (bif Nat.ble 37 m then 2042 else 0))))) else (bif Nat.ble 18 m then (bif Nat.ble 27 m then (bif Nat.ble 31 m then (bif Nat.ble 33 m then (bif Nat.ble 34 m then (bif Nat.ble 35 m then 3103 else 2217) else 2209) else (bif Nat.ble 32 m then 2213 else 4093)) else (bif Nat.ble 29 m then (bif Nat.ble 30 m then 3147 else 2112) else (bif Nat.ble 28 m then 3151 else 2096))) else (bif Nat.ble 22 m then (bif Nat.ble 24 m then (bif Nat.ble 25 m then (bif Nat.ble 26 m then 0 else 2060) else 1235) else (bif Nat.ble 23 m then 2056 else 1231)) else (bif Nat.ble 20 m then (bif Nat.ble 21 m then 2010 else 1129) else (bif Nat.ble 19 m then 2034 else 2004)))) else (bif Nat.ble 9 m then (bif Nat.ble 13 m then (bif Nat.ble 15 m then (bif Nat.ble 16 m then (bif Nat.ble 17 m then 0 else 4072) else 44) else (bif Nat.ble 14 m then 4042 else 4046)) else (bif Nat.ble 11 m then (bif Nat.ble 12 m then 4037 else 0) else (bif Nat.ble 10 m then 41 else 40))) else (bif Nat.ble 4 m then (bif Nat.ble 6 m then (bif Nat.ble 7 m then (bif Nat.ble 8 m then 39 else 38) else 37) else (bif Nat.ble 5 m then 3199 else 0)) else (bif Nat.ble 2 m then (bif Nat.ble 3 m then 2017 else 3179) else (bif Nat.ble 1 m then 2103 else 0))))))))
def lp_mp (m : Nat) : Nat := (bif Nat.ble 147 m then (bif Nat.ble 220 m then (bif Nat.ble 257 m then (bif Nat.ble 275 m then (bif Nat.ble 284 m then (bif Nat.ble 289 m then (bif Nat.ble 291 m then (bif Nat.ble 292 m then (bif Nat.ble 293 m then 0 else 1181) else 2137) else (bif Nat.ble 290 m then 1173 else 1176)) else (bif Nat.ble 286 m then (bif Nat.ble 287 m then (bif Nat.ble 288 m then 1169 else 1159) else 1165) else (bif Nat.ble 285 m then 1155 else 2046))) else (bif Nat.ble 279 m then (bif Nat.ble 281 m then (bif Nat.ble 282 m then (bif Nat.ble 283 m then 1042 else 2220) else 6167) else (bif Nat.ble 280 m then 6180 else 6200)) else (bif Nat.ble 277 m then (bif Nat.ble 278 m then 6192 else 6188) else (bif Nat.ble 276 m then 6196 else 6184)))) else (bif Nat.ble 266 m then (bif Nat.ble 270 m then (bif Nat.ble 272 m then (bif Nat.ble 273 m then (bif Nat.ble 274 m then 6172 else 6176) else 6124) else (bif Nat.ble 271 m then 6163 else 6159)) else (bif Nat.ble 268 m then (bif Nat.ble 269 m then 6151 else 6156) else (bif Nat.ble 267 m then 6147 else 6115))) else (bif Nat.ble 261 m then (bif Nat.ble 263 m then (bif Nat.ble 264 m then (bif Nat.ble 265 m then 6140 else 6136) else 6144) else (bif Nat.ble 262 m then 6132 else 6120)) else (bif Nat.ble 259 m then (bif Nat.ble 260 m then 6128 else 6111) else (bif Nat.ble 258 m then 6107 else 6103))))) else (bif Nat.ble 238 m then (bif Nat.ble 247 m then (bif Nat.ble 252 m then (bif Nat.ble 254 m then (bif Nat.ble 255 m then (bif Nat.ble 256 m then 6099 else 6095) else 6087) else (bif Nat.ble 253 m then 6083 else 6079)) else (bif Nat.ble 249 m then (bif Nat.ble 250 m then (bif Nat.ble 251 m then 6059 else 6068) else 6076) else (bif Nat.ble 248 m then 6092 else 6072))) else (bif Nat.ble 242 m then (bif Nat.ble 244 m then (bif Nat.ble 245 m then (bif Nat.ble 246 m then 6064 else 6055) else 6050) else (bif Nat.ble 243 m then 6046 else 6042)) else (bif Nat.ble 240 m then (bif Nat.ble 241 m then 6038 else 6030) else (bif Nat.ble 239 m then 6035 else 6026)))) else (bif Nat.ble 229 m then (bif Nat.ble 233 m then (bif Nat.ble 235 m then (bif Nat.ble 236 m then (bif Nat.ble 237 m then 6018 else 6023) else 6014) else (bif Nat.ble 234 m then 6010 else 6002)) else (bif Nat.ble 231 m then (bif Nat.ble 232 m then 6007 else 5238) else (bif Nat.ble 230 m then 5070 else 5234))) else (bif Nat.ble 224 m then (bif Nat.ble 226 m then (bif Nat.ble 227 m then (bif Nat.ble 228 m then 5230 else 5222) else 5227) else (bif Nat.ble 225 m then 5218 else 5214)) else (bif Nat.ble 222 m then (bif Nat.ble 223 m then 5194 else 5199) else (bif Nat.ble 221 m then 5203 else 5211)))))) else (bif Nat.ble 183 m then (bif Nat.ble 201 m then (bif Nat.ble 210 m then (bif Nat.ble 215 m then (bif Nat.ble 217 m then (bif Nat.ble 218 m then (bif Nat.ble 219 m then 5207 else 5190) else 5182) else (bif Nat.ble 216 m then 5187 else 5174)) else (bif Nat.ble 212 m then (bif Nat.ble 213 m then (bif Nat.ble 214 m then 5166 else 5158) else 5163) else (bif Nat.ble 211 m then 5154 else 5150))) else (bif Nat.ble 205 m then (bif Nat.ble 207 m then (bif Nat.ble 208 m then (bif Nat.ble 209 m then 5179 else 5124) else 5078) else (bif Nat.ble 206 m then 5116 else 5120)) else (bif Nat.ble 203 m then (bif Nat.ble 204 m then 5112 else 5108) else (bif Nat.ble 202 m then 5171 else 5082)))) else (bif Nat.ble 192 m then (bif Nat.ble 196 m then (bif Nat.ble 198 m then (bif Nat.ble 199 m then (bif Nat.ble 200 m then 5100 else 5086) else 5104) else (bif Nat.ble 197 m then 5096 else 5089)) else (bif Nat.ble 194 m then (bif Nat.ble 195 m then 5146 else 5138) else (bif Nat.ble 193 m then 5143 else 5134))) else (bif Nat.ble 187 m then (bif Nat.ble 189 m then (bif Nat.ble 190 m then (bif Nat.ble 191 m then 5131 else 5127) else 5073) else (bif Nat.ble 188 m then 5065 else 5053)) else (bif Nat.ble 185 m then (bif Nat.ble 186 m then 5058 else 5062) else (bif Nat.ble 184 m then 5049 else 5045))))) else (bif Nat.ble 165 m then (bif Nat.ble 174 m then (bif Nat.ble 178 m then (bif Nat.ble 180 m then (bif Nat.ble 181 m then (bif Nat.ble 182 m then 5037 else 5042) else 5030) else (bif Nat.ble 179 m then 5034 else 5026)) else (bif Nat.ble 176 m then (bif Nat.ble 177 m then 5022 else 5007) else (bif Nat.ble 175 m then 5016 else 4218))) else (bif Nat.ble 169 m then (bif Nat.ble 171 m then (bif Nat.ble 172 m then (bif Nat.ble 173 m then 5001 else 5004) else 4223) else (bif Nat.ble 170 m then 5012 else 4234)) else (bif Nat.ble 167 m then (bif Nat.ble 168 m then 4227 else 4238) else (bif Nat.ble 166 m then 5019 else 4103)))) else (bif Nat.ble 156 m then (bif Nat.ble 160 m then (bif Nat.ble 162 m then (bif Nat.ble 163 m then (bif Nat.ble 164 m then 5092 else 4230) else 4098) else (bif Nat.ble 161 m then 2182 else 3020)) else (bif Nat.ble 158 m then (bif Nat.ble 159 m then 2099 else 2192) else (bif Nat.ble 157 m then 2189 else 4080))) else (bif Nat.ble 151 m then (bif Nat.ble 153 m then (bif Nat.ble 154 m then (bif Nat.ble 155 m then 4065 else 4058) else 4033) else (bif Nat.ble 152 m then 4009 else 3143)) else (bif Nat.ble 149 m then (bif Nat.ble 150 m then 3099 else 3082) else (bif Nat.ble 148 m then 3040 else 2170))))))) else (bif Nat.ble 73 m then (bif Nat.ble 110 m then (bif Nat.ble 128 m then (bif Nat.ble 137 m then (bif Nat.ble 142 m then (bif Nat.ble 144 m then (bif Nat.ble 145 m then (bif Nat.ble 146 m then 3017 else 3044) else 3187) else (bif Nat.ble 143 m then 3191 else 3119)) else (bif Nat.ble 139 m then (bif Nat.ble 140 m then (bif Nat.ble 141 m then 2071 else 3195) else 3049) else (bif Nat.ble 138 m then 2121 else 2125))) else (bif Nat.ble 132 m then (bif Nat.ble 134 m then (bif Nat.ble 135 m then (bif Nat.ble 136 m then 2022 else 2026) else 2038) else (bif Nat.ble 133 m then 2084 else 4087)) else (bif Nat.ble 130 m then (bif Nat.ble 131 m then 4075 else 4028) else (bif Nat.ble 129 m then 4024 else 4020)))) else (bif Nat.ble 119 m then (bif Nat.ble 123 m then (bif Nat.ble 125 m then (bif Nat.ble 126 m then (bif Nat.ble 127 m then 4016 else 4012) else 4004) else (bif Nat.ble 124 m then 4000 else 3236)) else (bif Nat.ble 121 m then (bif Nat.ble 122 m then 3232 else 3182) else (bif Nat.ble 120 m then 3174 else 3170))) else (bif Nat.ble 114 m then (bif Nat.ble 116 m then (bif Nat.ble 117 m then (bif Nat.ble 118 m then 3166 else 3162) else 3158) else (bif Nat.ble 115 m then 3154 else 3138)) else (bif Nat.ble 112 m then (bif Nat.ble 113 m then 3134 else 3126) else (bif Nat.ble 111 m then 3114 else 3110))))) else (bif Nat.ble 91 m then (bif Nat.ble 100 m then (bif Nat.ble 105 m then (bif Nat.ble 107 m then (bif Nat.ble 108 m then (bif Nat.ble 109 m then 3106 else 3094) else 3090) else (bif Nat.ble 106 m then 3086 else 3077)) else (bif Nat.ble 102 m then (bif Nat.ble 103 m then (bif Nat.ble 104 m then 3069 else 3035) else 3031) else (bif Nat.ble 101 m then 3027 else 3023))) else (bif Nat.ble 95 m then (bif Nat.ble 97 m then (bif Nat.ble 98 m then (bif Nat.ble 99 m then 3012 else 3008) else 3004) else (bif Nat.ble 96 m then 2238 else 2230)) else (bif Nat.ble 93 m then (bif Nat.ble 94 m then 2226 else 2204) else (bif Nat.ble 92 m then 2200 else 2195)))) else (bif Nat.ble 82 m then (bif Nat.ble 86 m then (bif Nat.ble 88 m then (bif Nat.ble 89 m then (bif Nat.ble 90 m then 2185 else 2116) else 2107) else (bif Nat.ble 87 m then 2091 else 2087)) else (bif Nat.ble 84 m then (bif Nat.ble 85 m then 2079 else 2075) else (bif Nat.ble 83 m then 2066 else 2050))) else (bif Nat.ble 77 m then (bif Nat.ble 79 m then (bif Nat.ble 80 m then (bif Nat.ble 81 m then 2029 else 1120) else 1116) else (bif Nat.ble 78 m then 1108 else 23)) else (bif Nat.ble 75 m then (bif Nat.ble 76 m then 1112 else 124) else (bif Nat.ble 74 m then 3065 else 3073)))))) else (bif Nat.ble 36 m then (bif Nat.ble 54 m then (bif Nat.ble 63 m then (bif Nat.ble 68 m then (bif Nat.ble 70 m then (bif Nat.ble 71 m then (bif Nat.ble 72 m then 3208 else 2178) else 2174) else (bif Nat.ble 69 m then 2166 else 2161)) else (bif Nat.ble 65 m then (bif Nat.ble 66 m then (bif Nat.ble 67 m then 2158 else 2154) else 2149) else (bif Nat.ble 64 m then 2145 else 2141))) else (bif Nat.ble 58 m then (bif Nat.ble 60 m then (bif Nat.ble 61 m then (bif Nat.ble 62 m then 2133 else 3130) else 3122) else (bif Nat.ble 59 m then 2128 else 159)) else (bif Nat.ble 56 m then (bif Nat.ble 57 m then 3061 else 3057) else (bif Nat.ble 55 m then 3052 else 208)))) else (bif Nat.ble 45 m then (bif Nat.ble 49 m then (bif Nat.ble 51 m then (bif Nat.ble 52 m then (bif Nat.ble 53 m then 1143 else 1136) else 1140) else (bif Nat.ble 50 m then 1147 else 1133)) else (bif Nat.ble 47 m then (bif Nat.ble 48 m then 1152 else 1208) else (bif Nat.ble 46 m then 1216 else 1212))) else (bif Nat.ble 40 m then (bif Nat.ble 42 m then (bif Nat.ble 43 m then (bif Nat.ble 44 m then 1226 else 2000) else 1221) else (bif Nat.ble 41 m then 1204 else 1124)) else (bif Nat.ble 38 m then (bif Nat.ble 39 m then 116 else 2234) else (bif Nat.ble 37 m then 2041 else 96))))) else (bif Nat.ble 18 m then (bif Nat.ble 27 m then (bif Nat.ble 31 m then (bif Nat.ble 33 m then (bif Nat.ble 34 m then (bif Nat.ble 35 m then 3102 else 2216) else 2208) else (bif Nat.ble 32 m then 2212 else 4092)) else (bif Nat.ble 29 m then (bif Nat.ble 30 m then 3146 else 2111) else (bif Nat.ble 28 m then 3150 else 2095))) else (bif Nat.ble 22 m then (bif Nat.ble 24 m then (bif Nat.ble 25 m then (bif Nat.ble 26 m then 2063 else 2059) else 1234) else (bif Nat.ble 23 m then 2055 else 1230)) else (bif Nat.ble 20 m then (bif Nat.ble 21 m then 2009 else 1128) else (bif Nat.ble 19 m then 2033 else 2003)))) else (bif Nat.ble 9 m then (bif Nat.ble 13 m then (bif Nat.ble 15 m then (bif Nat.ble 16 m then (bif Nat.ble 17 m then 31 else 4071) else 4052) else (bif Nat.ble 14 m then 4041 else 4045)) else (bif Nat.ble 11 m then (bif Nat.ble 12 m then 4036 else 1038) else (bif Nat.ble 10 m then 3229 else 3225))) else (bif Nat.ble 4 m then (bif Nat.ble 6 m then (bif Nat.ble 7 m then (bif Nat.ble 8 m then 3221 else 3217) else 3203) else (bif Nat.ble 5 m then 3198 else 233)) else (bif Nat.ble 2 m then (bif Nat.ble 3 m then 2016 else 3178) else (bif Nat.ble 1 m then 2102 else 39))))))))
theorem lp_mth_ok : ∀ m, m < 293 → (if lp_kd m = 1 then lp_wd (lp_mp m) = some (.static (lp_y m)) else lp_wd (lp_mp m) = some (.instanceMethod (lp_y m))) := by decide +kernel
theorem lp_sel_ok : ∀ m, m < 293 → lp_kd m = 0 → lp_wd (lp_sp m) = some (.selects (lp_y m).cls (lp_y m) (lp_y m)) := by decide +kernel
theorem lp_prv_ok : ∀ m, m < 293 → lp_kd m = 4 → lw_privs[lp_sp m]?.map Prod.fst = some (lp_y m) := by decide +kernel
def lp_so (k : Nat) : Nat × Nat × String := (bif Nat.ble 9 k then (bif Nat.ble 13 k then (bif Nat.ble 15 k then (bif Nat.ble 16 k then (bif Nat.ble 17 k then (9, 421, "done ") else (9, 419, "press ")) else (9, 417, "many;")) else (bif Nat.ble 14 k then (9, 415, "none;") else (9, 413, " by "))) else (bif Nat.ble 11 k then (bif Nat.ble 12 k then (9, 411, " ") else (9, 409, "wire ")) else (bif Nat.ble 10 k then (9, 407, " goal ") else (9, 405, " own ")))) else (bif Nat.ble 4 k then (bif Nat.ble 6 k then (bif Nat.ble 7 k then (bif Nat.ble 8 k then (9, 403, "lamp ") else (9, 392, ";")) else (9, 387, "states ")) else (bif Nat.ble 5 k then (5, 97, "by") else (5, 53, "wire"))) else (bif Nat.ble 2 k then (bif Nat.ble 3 k then (5, 83, "goal") else (5, 77, "own")) else (bif Nat.ble 1 k then (5, 48, "lamp") else (5, 38, "states")))))
/-- how many arguments a method takes (o: the object too) -/
def lp_nar (a b o : Nat) : Bool := decide ((parseMethodDescriptor (lp_nd a).2).map (fun s => s.parameters.length + o) = some b)
/-- what of an entry is to be checked: that it is the instruction's, and that the words it needs stand in the tables -/
def lp_okc (own mo pc : Nat) (ins : Instr) (len a b : Nat) (c : Int32) (t : List Nat) : Bool := match ins with
  | .aload i => Nat.beq i a && Nat.beq len 2
  | .aload_n i => Nat.beq i.val a && Nat.beq len 1
  | .iload i => Nat.beq i a && Nat.beq len 2
  | .iload_n i => Nat.beq i.val a && Nat.beq len 1
  | .astore i => Nat.beq i a && Nat.beq len 2 && Nat.blt a (lp_mx mo)
  | .astore_n i => Nat.beq i.val a && Nat.beq len 1 && Nat.blt a (lp_mx mo)
  | .istore i => Nat.beq i a && Nat.beq len 2 && Nat.blt a (lp_mx mo)
  | .istore_n i => Nat.beq i.val a && Nat.beq len 1 && Nat.blt a (lp_mx mo)
  | .iinc i n => Nat.beq i a && decide (Int32.ofInt n = c) && Nat.beq len 3 && Nat.blt a (lp_mx mo)
  | .iconst n => decide (Int32.ofInt n = c) && Nat.beq len 1
  | .bipush n => decide ((Int8.ofInt n).toInt32 = c) && Nat.beq len 2
  | .sipush n => decide ((Int16.ofInt n).toInt32 = c) && Nat.beq len 3
  | .ldc i => Nat.beq len 2 && (bif Nat.beq (t.getD 0 0) 0 then decide (lp_wd (t.getD 1 0) = some (.constant (lp_cn own) i c)) else decide (lp_so a = (own, i, (lp_so a).2.2)) && Nat.blt a 18)
  | .ldc_w i => Nat.beq len 3 && (bif Nat.beq (t.getD 0 0) 0 then decide (lp_wd (t.getD 1 0) = some (.constant (lp_cn own) i c)) else decide (lp_so a = (own, i, (lp_so a).2.2)) && Nat.blt a 18)
  | .iadd => Nat.beq len 1
  | .isub => Nat.beq len 1
  | .imul => Nat.beq len 1
  | .idiv => Nat.beq len 1
  | .irem => Nat.beq len 1
  | .iand => Nat.beq len 1
  | .ior => Nat.beq len 1
  | .ixor => Nat.beq len 1
  | .ishl => Nat.beq len 1
  | .ishr => Nat.beq len 1
  | .iushr => Nat.beq len 1
  | .i2b => Nat.beq len 1
  | .i2c => Nat.beq len 1
  | .dup => Nat.beq len 1
  | .dup2 => Nat.beq len 1
  | .pop => Nat.beq len 1
  | .goto o => decide ((pc : Int) + o = (a : Int)) && Nat.beq len 3
  | .ifCond _ o => decide ((pc : Int) + o = (a : Int)) && Nat.beq len 3
  | .if_icmp _ o => decide ((pc : Int) + o = (a : Int)) && Nat.beq len 3
  | .tableswitch d lo hi offs => decide ((pc : Int) + d = (a : Int)) && decide (lo = 0) && decide (hi + 1 = (b : Int)) && Nat.blt b 1000 && decide (∀ j, j < b → (offs[j]?).map (fun o => (pc : Int) + o) = some ((t.getD j 0 : Nat) : Int))
  | .getfield i => Nat.beq len 3 && (match t.getD 0 0 with
    | 0 => Nat.blt a 11 && Nat.blt b (lp_nf a) && !lp_isR a b && decide (lp_wd (t.getD 1 0) = some (.fieldLink (lp_cn own) i (lp_cn a) (lp_T a b).2.1 (lp_T a b).2.2.1))
    | 1 => Nat.blt a 11 && Nat.blt b (lp_nf a) && lp_isR a b && decide (lp_wd (t.getD 1 0) = some (.fieldLink (lp_cn own) i (lp_cn a) (lp_T a b).2.1 (lp_T a b).2.2.1))
    | 2 => decide (lp_wd (t.getD 1 0) = some (.fieldLink (lp_cn own) i "java/lang/String" "value" "[B"))
    | _ => decide (lp_wd (t.getD 1 0) = some (.fieldLink (lp_cn own) i "java/lang/String" "coder" "B")))
  | .putfield i => Nat.beq len 3 && Nat.blt a 11 && Nat.blt b (lp_nf a) && decide (lp_wd (t.getD 1 0) = some (.fieldLink (lp_cn own) i (lp_cn a) (lp_T a b).2.1 (lp_T a b).2.2.1)) && (bif (lp_T a b).2.2.2 then decide ((lp_nd mo).1 = "<init>") && Nat.beq own a else true) && (match t.getD 0 0 with
    | 0 => !lp_isR a b && decide (lp_ty a b = .int)
    | 1 => lp_isR a b
    | _ => !lp_isR a b && decide (lp_ty a b = .boolean))
  | .getstatic i => Nat.beq len 3 && (bif Nat.beq (t.getD 0 0) 0 then decide (lp_wd (t.getD 1 0) = some (.fieldLink (lp_cn own) i "java/lang/String" "COMPACT_STRINGS" "Z")) else decide (lp_wd (t.getD 1 0) = some (.fieldLink (lp_cn own) i "jdk/internal/util/Preconditions" "SIOOBE_FORMATTER" "Ljava/util/function/BiFunction;")))
  | .iaload => Nat.beq len 1
  | .baload => Nat.beq len 1
  | .aaload => Nat.beq len 1
  | .iastore => Nat.beq len 1
  | .bastore => Nat.beq len 1
  | .aastore => Nat.beq len 1
  | .arraylength => Nat.beq len 1 && Nat.blt 19 a
  | .new i => Nat.beq len 3 && Nat.blt a 11 && Nat.beq b (lp_nf a) && decide (lp_wd (t.getD 0 0) = some (.classLink (lp_cn own) i (lp_cn a)))
  | .newarray y => Nat.beq len 2 && (match y with
    | .int => Nat.beq a 20
    | .byte => Nat.beq a 21
    | .boolean => Nat.beq a 22
    | _ => false)
  | .anewarray i => Nat.beq len 3 && Nat.beq a 24 && decide (lp_wd (t.getD 0 0) = some (.classLink (lp_cn own) i "LampPresses$Net"))
  | .multianewarray i n => Nat.beq len 4 && Nat.beq n 2 && decide (lp_wd (t.getD 0 0) = some (.classLink (lp_cn own) i "[[I"))
  | .invokevirtual i => Nat.beq len 3 && Nat.blt a 293 && (Nat.beq (lp_kd a) 0 || Nat.beq (lp_kd a) 4) && decide (lp_wd (t.getD 2 0) = some (.methodLink (lp_cn own) i (lp_y a))) && Nat.beq (t.getD 1 0) (bif (lp_rt a).isSome then 1 else 0) && lp_nar a b 1
  | .invokestatic i => Nat.beq len 3 && (match t.getD 0 0 with
    | 6 => decide (lp_wd (t.getD 2 0) = some (.methodLink (lp_cn own) i arraycopyName))
    | 7 => decide (lp_wd (t.getD 2 0) = some (.methodLink (lp_cn own) i Lib.Math.max.name))
    | 8 => decide (lp_wd (t.getD 2 0) = some (.methodLink (lp_cn own) i Lib.Math.min.name))
    | 9 => true
    | 3 => Nat.blt a 293 && Nat.beq (lp_kd a) 1 && decide (lp_wd (t.getD 2 0) = some (.methodLinkNest (lp_cn own) i (lp_y a) "LampPresses")) && Nat.beq (t.getD 1 0) (bif (lp_rt a).isSome then 1 else 0) && lp_nar a b 0
    | _ => Nat.blt a 293 && Nat.beq (lp_kd a) 1 && decide (lp_wd (t.getD 2 0) = some (.methodLink (lp_cn own) i (lp_y a))) && Nat.beq (t.getD 1 0) (bif (lp_rt a).isSome then 1 else 0) && lp_nar a b 0)
  | .invokespecial i => Nat.beq len 3 && (match t.getD 0 0 with
    | 5 => decide (lp_wd (t.getD 2 0) = some (.methodLink (lp_cn own) i Lib.objectInit))
    | 4 => Nat.blt a 293 && Nat.beq (lp_kd a) 2 && decide (lp_wd (t.getD 2 0) = some (.methodLinkNest (lp_cn own) i (lp_y a) "LampPresses")) && Nat.beq (t.getD 1 0) 0 && lp_nar a b 1
    | _ => Nat.blt a 293 && Nat.beq (lp_kd a) 2 && decide (lp_wd (t.getD 2 0) = some (.methodLink (lp_cn own) i (lp_y a))) && Nat.beq (t.getD 1 0) 0 && lp_nar a b 1)
  | .ireturn => Nat.beq len 1 && (match a with
    | 0 => decide (lp_rt mo = some .int)
    | 1 => decide (lp_rt mo = some .boolean)
    | 3 => decide (lp_rt mo = some .byte)
    | _ => decide (lp_rt mo = some .char))
  | .return_ => Nat.beq len 1 && decide (lp_rt mo = none)
  | _ => true
def lp_okE (m : Nat) (e : lp_E) : Bool := decide (decode (lp_b m) e.1 = .ok e.2.1) && lp_okc (lp_ow m) m e.1 e.2.1.1 e.2.1.2 e.2.2.1 e.2.2.2.1 e.2.2.2.2.1 e.2.2.2.2.2.1
def lp_okM (m : Nat) : Bool := (lp_cd m).all fun q => q.2.all (lp_okE m)
def lp_okA : Bool := (List.range 293).all fun m => decide ((lp_y m).cls ≠ "java/lang/invoke/MethodHandle" ∧ (lp_y m).cls ≠ "java/lang/invoke/VarHandle") && Nat.blt (lp_mx m) 40
theorem lp_okA_ok : lp_okA = true := by decide +kernel
