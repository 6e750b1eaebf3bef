def wsX0_init : List Cond := .code yX0_init cX0_init 1 none :: ([.methodLink RX0 3 objectInit, .instanceMethod objectInit, .code objectInit ⟨#[0xb1]⟩ 1 none, .fieldLink RX0 9 "WeightedLaws$Law" "there" "Z", .fieldLink RX0 15 "WeightedLaws$Law" "kind" "I", .fieldLink RX0 19 "WeightedLaws$Law" "weight" "I", .fieldLink RX0 22 "WeightedLaws$Law" "least" "I", .fieldLink RX0 25 "WeightedLaws$Law" "parts" "I", .arrayClass .int, .fieldLink RX0 28 "WeightedLaws$Law" "bases" "[I", .fieldLink RX0 32 "WeightedLaws$Law" "firsts" "[I", .fieldLink RX0 35 "WeightedLaws$Law" "lasts" "[I", .arrayClass .boolean, .fieldLink RX0 38 "WeightedLaws$Law" "denied" "[Z"] ++ wsX00)
def wsJ7_fill_53178 : List Cond := .code yJ7_fill_53178 cJ7_fill_53178 4 none :: ([])
def wsX1_init : List Cond := .code yX1_init cX1_init 3 none :: ([.methodLink RX1 3 objectInit, .instanceMethod objectInit, .code objectInit ⟨#[0xb1]⟩ 1 none, .methodLink RX1 9 Lib.Math.max.name, .static Lib.Math.max.name, .initialized "java/lang/Math", .code Lib.Math.max.name Lib.Math.max.code 2 (some .int), .classLink RX1 15 "[[I", .arrayClass .int, .fieldLink RX1 17 "WeightedLaws$Shelf" "places" "[[I", .fieldLink RX1 22 "WeightedLaws$Shelf" "sizes" "[I", .methodLink RX1 26 yJ7_fill_53178, .static yJ7_fill_53178, .initialized RJ7, .code yJ7_fill_53178 cJ7_fill_53178 4 none] ++ wsX10)
def wsX2_init : List Cond := .code yX2_init cX2_init 1 none :: ([.methodLink RX2 3 objectInit, .instanceMethod objectInit, .code objectInit ⟨#[0xb1]⟩ 1 none, .fieldLink RX2 9 "WeightedLaws$Worlds" "number" "I", .fieldLink RX2 15 "WeightedLaws$Worlds" "open" "I", .arrayClass .int, .fieldLink RX2 18 "WeightedLaws$Worlds" "truths" "[I", .arrayClass .long, .fieldLink RX2 22 "WeightedLaws$Worlds" "breaks" "[J", .fieldLink RX2 26 "WeightedLaws$Worlds" "costs" "[I", .fieldLink RX2 29 "WeightedLaws$Worlds" "shares" "[J", .fieldLink RX2 32 "WeightedLaws$Worlds" "weights" "[I", .fieldLink RX2 35 "WeightedLaws$Worlds" "best" "I", .fieldLink RX2 38 "WeightedLaws$Worlds" "leastCost" "I", .fieldLink RX2 41 "WeightedLaws$Worlds" "allShares" "J"] ++ wsX20)
def wsX3_init_r1 : List Cond := [Cond.methodLink RX3 1 objectInit, Cond.instanceMethod objectInit, Cond.code objectInit ⟨#[0xb1]⟩ 1 none, Cond.classLink RX3 7 RX1, Cond.instantiable RX1 2, Cond.initialized RX1, Cond.fieldLink RX3 14 "WeightedLaws" "rows" "LWeightedLaws$Shelf;", Cond.fieldLink RX3 18 "WeightedLaws" "texts" "LWeightedLaws$Shelf;", Cond.arrayClass .int, Cond.fieldLink RX3 21 "WeightedLaws" "tellings" "[I", Cond.classLink RX3 25 RX0, Cond.fieldLink RX3 27 "WeightedLaws" "lawSlots" "[LWeightedLaws$Law;", Cond.classLink RX3 31 RX2, Cond.instantiable RX2 10, Cond.initialized RX2, Cond.fieldLink RX3 34 "WeightedLaws" "table" "LWeightedLaws$Worlds;", Cond.fieldLink RX3 38 "WeightedLaws" "findingCounts" "[I", Cond.instantiable RX0 9, Cond.initialized RX0, Cond.fieldLink RX3 42 "WeightedLaws" "draft" "LWeightedLaws$Law;", Cond.fieldLink RX3 46 "WeightedLaws" "nameCount" "I", Cond.fieldLink RX3 50 "WeightedLaws" "stale" "Z", Cond.fieldLink RX3 54 "WeightedLaws" "askedNumber" "I", Cond.fieldLink RX3 57 "WeightedLaws" "upperNumber" "J"]
def wsX3_init_r2 : List Cond := [Cond.fieldLink RX3 61 "WeightedLaws" "lowerNumber" "J", Cond.fieldLink RX3 64 "WeightedLaws" "latestFinding" "I", Cond.methodLink RX3 11 yX1_init, Cond.instanceMethod yX1_init, Cond.code yX1_init cX1_init 3 none, Cond.methodLink RX1 3 objectInit, Cond.methodLink RX1 9 Lib.Math.max.name, Cond.static Lib.Math.max.name, Cond.initialized "java/lang/Math", Cond.code Lib.Math.max.name Lib.Math.max.code 2 (some .int), Cond.classLink RX1 15 "[[I", Cond.fieldLink RX1 17 "WeightedLaws$Shelf" "places" "[[I", Cond.fieldLink RX1 22 "WeightedLaws$Shelf" "sizes" "[I", Cond.methodLink RX1 26 yJ7_fill_53178, Cond.static yJ7_fill_53178, Cond.initialized RJ7, Cond.code yJ7_fill_53178 cJ7_fill_53178 4 none, Cond.instanceMethod yX2_init, Cond.code yX2_init cX2_init 1 none, Cond.methodLink RX2 3 objectInit, Cond.fieldLink RX2 9 "WeightedLaws$Worlds" "number" "I", Cond.fieldLink RX2 15 "WeightedLaws$Worlds" "open" "I", Cond.fieldLink RX2 18 "WeightedLaws$Worlds" "truths" "[I", Cond.arrayClass .long]
def wsX3_init_r3 : List Cond := [Cond.fieldLink RX2 22 "WeightedLaws$Worlds" "breaks" "[J", Cond.fieldLink RX2 26 "WeightedLaws$Worlds" "costs" "[I", Cond.fieldLink RX2 29 "WeightedLaws$Worlds" "shares" "[J", Cond.fieldLink RX2 32 "WeightedLaws$Worlds" "weights" "[I", Cond.fieldLink RX2 35 "WeightedLaws$Worlds" "best" "I", Cond.fieldLink RX2 38 "WeightedLaws$Worlds" "leastCost" "I", Cond.fieldLink RX2 41 "WeightedLaws$Worlds" "allShares" "J", Cond.instanceMethod yX0_init, Cond.code yX0_init cX0_init 1 none, Cond.methodLink RX0 3 objectInit, Cond.fieldLink RX0 9 "WeightedLaws$Law" "there" "Z", Cond.fieldLink RX0 15 "WeightedLaws$Law" "kind" "I", Cond.fieldLink RX0 19 "WeightedLaws$Law" "weight" "I", Cond.fieldLink RX0 22 "WeightedLaws$Law" "least" "I", Cond.fieldLink RX0 25 "WeightedLaws$Law" "parts" "I", Cond.fieldLink RX0 28 "WeightedLaws$Law" "bases" "[I", Cond.fieldLink RX0 32 "WeightedLaws$Law" "firsts" "[I", Cond.fieldLink RX0 35 "WeightedLaws$Law" "lasts" "[I", Cond.arrayClass .boolean, Cond.fieldLink RX0 38 "WeightedLaws$Law" "denied" "[Z"]
def wsX3_init : List Cond := .code yX3_init cX3_init 2 none :: ((wsX3_init_r1 ++ (wsX3_init_r2 ++ wsX3_init_r3)) ++ wsX10 ++ wsX30 ++ wsX20 ++ wsX00)
def wsX4_init_r1 : List Cond := [Cond.methodLink RX4 1 objectInit, Cond.instanceMethod objectInit, Cond.code objectInit ⟨#[0xb1]⟩ 1 none, Cond.arrayClass .int, Cond.fieldLink RX4 7 "WeightedLawsModel" "findings" "[I", Cond.fieldLink RX4 13 "WeightedLawsModel" "lower" "J", Cond.fieldLink RX4 17 "WeightedLawsModel" "sizes" "[I", Cond.fieldLink RX4 20 "WeightedLawsModel" "rows" "[I", Cond.fieldLink RX4 23 "WeightedLawsModel" "moving" "[I", Cond.fieldLink RX4 26 "WeightedLawsModel" "lengths" "[I", Cond.fieldLink RX4 29 "WeightedLawsModel" "texts" "[I", Cond.fieldLink RX4 32 "WeightedLawsModel" "nameMany" "I", Cond.fieldLink RX4 36 "WeightedLawsModel" "tolds" "[I", Cond.arrayClass .boolean, Cond.fieldLink RX4 39 "WeightedLawsModel" "readNot" "[Z", Cond.fieldLink RX4 43 "WeightedLawsModel" "readSort" "[I", Cond.fieldLink RX4 46 "WeightedLawsModel" "readOne" "[I", Cond.fieldLink RX4 49 "WeightedLawsModel" "readTwo" "[I", Cond.fieldLink RX4 52 "WeightedLawsModel" "kinds" "[I", Cond.fieldLink RX4 55 "WeightedLawsModel" "weights" "[I", Cond.fieldLink RX4 58 "WeightedLawsModel" "figures" "[I", Cond.fieldLink RX4 61 "WeightedLawsModel" "partMany" "[I", Cond.fieldLink RX4 64 "WeightedLawsModel" "partNot" "[Z", Cond.fieldLink RX4 67 "WeightedLawsModel" "partSort" "[I"]
def wsX4_init_r2 : List Cond := [Cond.fieldLink RX4 70 "WeightedLawsModel" "partOne" "[I", Cond.fieldLink RX4 73 "WeightedLawsModel" "partTwo" "[I", Cond.fieldLink RX4 76 "WeightedLawsModel" "bitOf" "[I", Cond.fieldLink RX4 79 "WeightedLawsModel" "table" "[I", Cond.fieldLink RX4 82 "WeightedLawsModel" "costs" "[I", Cond.arrayClass .long, Cond.fieldLink RX4 85 "WeightedLawsModel" "shares" "[J"]
def wsX4_init : List Cond := .code yX4_init cX4_init 2 none :: ((wsX4_init_r1 ++ wsX4_init_r2) ++ wsX40)
theorem dX0_init_0 : decode cX0_init 0 = .ok (.aload_n 0, 1) := by decide +kernel
theorem dX0_init_1 : decode cX0_init 1 = .ok (.invokespecial 3, 3) := by decide +kernel
theorem dX0_init_4 : decode cX0_init 4 = .ok (.aload_n 0, 1) := by decide +kernel
theorem dX0_init_5 : decode cX0_init 5 = .ok (.iconst 0, 1) := by decide +kernel
theorem dX0_init_6 : decode cX0_init 6 = .ok (.putfield 9, 3) := by decide +kernel
theorem dX0_init_9 : decode cX0_init 9 = .ok (.aload_n 0, 1) := by decide +kernel
theorem dX0_init_10 : decode cX0_init 10 = .ok (.iconst 0, 1) := by decide +kernel
theorem dX0_init_11 : decode cX0_init 11 = .ok (.putfield 15, 3) := by decide +kernel
theorem dX0_init_14 : decode cX0_init 14 = .ok (.aload_n 0, 1) := by decide +kernel
theorem dX0_init_15 : decode cX0_init 15 = .ok (.iconst 0, 1) := by decide +kernel
theorem dX0_init_16 : decode cX0_init 16 = .ok (.putfield 19, 3) := by decide +kernel
theorem dX0_init_19 : decode cX0_init 19 = .ok (.aload_n 0, 1) := by decide +kernel
theorem dX0_init_20 : decode cX0_init 20 = .ok (.iconst 0, 1) := by decide +kernel
theorem dX0_init_21 : decode cX0_init 21 = .ok (.putfield 22, 3) := by decide +kernel
theorem dX0_init_24 : decode cX0_init 24 = .ok (.aload_n 0, 1) := by decide +kernel
theorem dX0_init_25 : decode cX0_init 25 = .ok (.iconst 0, 1) := by decide +kernel
theorem dX0_init_26 : decode cX0_init 26 = .ok (.putfield 25, 3) := by decide +kernel
theorem dX0_init_29 : decode cX0_init 29 = .ok (.aload_n 0, 1) := by decide +kernel
theorem dX0_init_30 : decode cX0_init 30 = .ok (.bipush 6, 2) := by decide +kernel
theorem dX0_init_32 : decode cX0_init 32 = .ok (.newarray .int, 2) := by decide +kernel
theorem dX0_init_34 : decode cX0_init 34 = .ok (.putfield 28, 3) := by decide +kernel
theorem dX0_init_37 : decode cX0_init 37 = .ok (.aload_n 0, 1) := by decide +kernel
theorem dX0_init_38 : decode cX0_init 38 = .ok (.bipush 6, 2) := by decide +kernel
theorem dX0_init_40 : decode cX0_init 40 = .ok (.newarray .int, 2) := by decide +kernel
theorem dX0_init_42 : decode cX0_init 42 = .ok (.putfield 32, 3) := by decide +kernel
theorem dX0_init_45 : decode cX0_init 45 = .ok (.aload_n 0, 1) := by decide +kernel
theorem dX0_init_46 : decode cX0_init 46 = .ok (.bipush 6, 2) := by decide +kernel
theorem dX0_init_48 : decode cX0_init 48 = .ok (.newarray .int, 2) := by decide +kernel
theorem dX0_init_50 : decode cX0_init 50 = .ok (.putfield 35, 3) := by decide +kernel
theorem dX0_init_53 : decode cX0_init 53 = .ok (.aload_n 0, 1) := by decide +kernel
theorem dX0_init_54 : decode cX0_init 54 = .ok (.bipush 6, 2) := by decide +kernel
theorem dX0_init_56 : decode cX0_init 56 = .ok (.newarray .boolean, 2) := by decide +kernel
theorem dX0_init_58 : decode cX0_init 58 = .ok (.putfield 38, 3) := by decide +kernel
theorem dX0_init_61 : decode cX0_init 61 = .ok (.return_, 1) := by decide +kernel
set_option maxRecDepth 20000 in
theorem ggX1_init_J7_fill_53178 : GoodIn wsX1_init wsJ7_fill_53178 := goodIn_r _ [15] (by decide +kernel) (by decide +kernel)
set_option maxRecDepth 20000 in
theorem gX1_init_J7_fill_53178 : GoodIn wsX1_init (va_wsS RX1 26 yJ7_fill_53178 wsJ7_fill_53178) := goodIn_app (goodIn_of _ (by decide +kernel)) ggX1_init_J7_fill_53178
theorem dX1_init_0 : decode cX1_init 0 = .ok (.aload_n 0, 1) := by decide +kernel
theorem dX1_init_1 : decode cX1_init 1 = .ok (.invokespecial 3, 3) := by decide +kernel
theorem dX1_init_4 : decode cX1_init 4 = .ok (.iload_n 1, 1) := by decide +kernel
theorem dX1_init_5 : decode cX1_init 5 = .ok (.iconst 0, 1) := by decide +kernel
theorem dX1_init_6 : decode cX1_init 6 = .ok (.invokestatic 9, 3) := by decide +kernel
theorem dX1_init_9 : decode cX1_init 9 = .ok (.istore_n 2, 1) := by decide +kernel
theorem dX1_init_10 : decode cX1_init 10 = .ok (.aload_n 0, 1) := by decide +kernel
theorem dX1_init_11 : decode cX1_init 11 = .ok (.iload_n 2, 1) := by decide +kernel
theorem dX1_init_12 : decode cX1_init 12 = .ok (.bipush 40, 2) := by decide +kernel
theorem dX1_init_14 : decode cX1_init 14 = .ok (.multianewarray 15 2, 4) := by decide +kernel
theorem dX1_init_18 : decode cX1_init 18 = .ok (.putfield 17, 3) := by decide +kernel
theorem dX1_init_21 : decode cX1_init 21 = .ok (.aload_n 0, 1) := by decide +kernel
theorem dX1_init_22 : decode cX1_init 22 = .ok (.iload_n 2, 1) := by decide +kernel
theorem dX1_init_23 : decode cX1_init 23 = .ok (.newarray .int, 2) := by decide +kernel
theorem dX1_init_25 : decode cX1_init 25 = .ok (.putfield 22, 3) := by decide +kernel
theorem dX1_init_28 : decode cX1_init 28 = .ok (.aload_n 0, 1) := by decide +kernel
theorem dX1_init_29 : decode cX1_init 29 = .ok (.getfield 22, 3) := by decide +kernel
theorem dX1_init_32 : decode cX1_init 32 = .ok (.iconst (-1), 1) := by decide +kernel
theorem dX1_init_33 : decode cX1_init 33 = .ok (.invokestatic 26, 3) := by decide +kernel
theorem dX1_init_36 : decode cX1_init 36 = .ok (.return_, 1) := by decide +kernel
theorem dX2_init_0 : decode cX2_init 0 = .ok (.aload_n 0, 1) := by decide +kernel
theorem dX2_init_1 : decode cX2_init 1 = .ok (.invokespecial 3, 3) := by decide +kernel
theorem dX2_init_4 : decode cX2_init 4 = .ok (.aload_n 0, 1) := by decide +kernel
theorem dX2_init_5 : decode cX2_init 5 = .ok (.iconst 1, 1) := by decide +kernel
theorem dX2_init_6 : decode cX2_init 6 = .ok (.putfield 9, 3) := by decide +kernel
theorem dX2_init_9 : decode cX2_init 9 = .ok (.aload_n 0, 1) := by decide +kernel
theorem dX2_init_10 : decode cX2_init 10 = .ok (.iconst 0, 1) := by decide +kernel
theorem dX2_init_11 : decode cX2_init 11 = .ok (.putfield 15, 3) := by decide +kernel
theorem dX2_init_14 : decode cX2_init 14 = .ok (.aload_n 0, 1) := by decide +kernel
theorem dX2_init_15 : decode cX2_init 15 = .ok (.sipush 1024, 3) := by decide +kernel
theorem dX2_init_18 : decode cX2_init 18 = .ok (.newarray .int, 2) := by decide +kernel
theorem dX2_init_20 : decode cX2_init 20 = .ok (.putfield 18, 3) := by decide +kernel
theorem dX2_init_23 : decode cX2_init 23 = .ok (.aload_n 0, 1) := by decide +kernel
theorem dX2_init_24 : decode cX2_init 24 = .ok (.sipush 1024, 3) := by decide +kernel
theorem dX2_init_27 : decode cX2_init 27 = .ok (.newarray .long, 2) := by decide +kernel
theorem dX2_init_29 : decode cX2_init 29 = .ok (.putfield 22, 3) := by decide +kernel
theorem dX2_init_32 : decode cX2_init 32 = .ok (.aload_n 0, 1) := by decide +kernel
theorem dX2_init_33 : decode cX2_init 33 = .ok (.sipush 1024, 3) := by decide +kernel
theorem dX2_init_36 : decode cX2_init 36 = .ok (.newarray .int, 2) := by decide +kernel
theorem dX2_init_38 : decode cX2_init 38 = .ok (.putfield 26, 3) := by decide +kernel
theorem dX2_init_41 : decode cX2_init 41 = .ok (.aload_n 0, 1) := by decide +kernel
theorem dX2_init_42 : decode cX2_init 42 = .ok (.sipush 1024, 3) := by decide +kernel
theorem dX2_init_45 : decode cX2_init 45 = .ok (.newarray .long, 2) := by decide +kernel
theorem dX2_init_47 : decode cX2_init 47 = .ok (.putfield 29, 3) := by decide +kernel
theorem dX2_init_50 : decode cX2_init 50 = .ok (.aload_n 0, 1) := by decide +kernel
theorem dX2_init_51 : decode cX2_init 51 = .ok (.bipush 8, 2) := by decide +kernel
theorem dX2_init_53 : decode cX2_init 53 = .ok (.newarray .int, 2) := by decide +kernel
theorem dX2_init_55 : decode cX2_init 55 = .ok (.putfield 32, 3) := by decide +kernel
theorem dX2_init_58 : decode cX2_init 58 = .ok (.aload_n 0, 1) := by decide +kernel
theorem dX2_init_59 : decode cX2_init 59 = .ok (.iconst 0, 1) := by decide +kernel
theorem dX2_init_60 : decode cX2_init 60 = .ok (.putfield 35, 3) := by decide +kernel
theorem dX2_init_63 : decode cX2_init 63 = .ok (.aload_n 0, 1) := by decide +kernel
theorem dX2_init_64 : decode cX2_init 64 = .ok (.iconst 0, 1) := by decide +kernel
theorem dX2_init_65 : decode cX2_init 65 = .ok (.putfield 38, 3) := by decide +kernel
theorem dX2_init_68 : decode cX2_init 68 = .ok (.aload_n 0, 1) := by decide +kernel
theorem dX2_init_69 : decode cX2_init 69 = .ok (.lconst 0, 1) := by decide +kernel
theorem dX2_init_70 : decode cX2_init 70 = .ok (.putfield 41, 3) := by decide +kernel
theorem dX2_init_73 : decode cX2_init 73 = .ok (.return_, 1) := by decide +kernel
set_option maxRecDepth 20000 in
theorem ggX3_init_X1_init : GoodIn wsX3_init wsX1_init := goodIn_r _ [29, 30, 2, 3, 31, 32, 33, 34, 35, 9, 36, 37, 38, 39, 40, 41, 69, 70] (by decide +kernel) (by decide +kernel)
set_option maxRecDepth 20000 in
theorem gX3_init_X1_init : GoodIn wsX3_init (wsX1_init) := ggX3_init_X1_init
set_option maxRecDepth 20000 in
theorem ggX3_init_X2_init : GoodIn wsX3_init wsX2_init := goodIn_r _ [43, 44, 2, 3, 45, 46, 9, 47, 48, 49, 50, 51, 52, 53, 54, 55, 84, 85, 86, 87, 88, 89, 90, 91, 92, 93] (by decide +kernel) (by decide +kernel)
set_option maxRecDepth 20000 in
theorem gX3_init_X2_init_n33 : GoodIn wsX3_init (wsX2_init) := ggX3_init_X2_init
set_option maxRecDepth 20000 in
theorem ggX3_init_X0_init : GoodIn wsX3_init wsX0_init := goodIn_r _ [57, 58, 2, 3, 59, 60, 61, 62, 63, 9, 64, 65, 66, 67, 68, 94, 95, 96, 97, 98, 99, 100, 101, 102] (by decide +kernel) (by decide +kernel)
set_option maxRecDepth 20000 in
theorem gX3_init_X0_init_n41 : GoodIn wsX3_init (wsX0_init) := ggX3_init_X0_init
theorem dX3_init_0 : decode cX3_init 0 = .ok (.aload_n 0, 1) := by decide +kernel
theorem dX3_init_1 : decode cX3_init 1 = .ok (.invokespecial 1, 3) := by decide +kernel
theorem dX3_init_4 : decode cX3_init 4 = .ok (.aload_n 0, 1) := by decide +kernel
theorem dX3_init_5 : decode cX3_init 5 = .ok (.new 7, 3) := by decide +kernel
theorem dX3_init_8 : decode cX3_init 8 = .ok (.dup, 1) := by decide +kernel
theorem dX3_init_9 : decode cX3_init 9 = .ok (.bipush 6, 2) := by decide +kernel
theorem dX3_init_11 : decode cX3_init 11 = .ok (.invokespecial 11, 3) := by decide +kernel
theorem dX3_init_14 : decode cX3_init 14 = .ok (.putfield 14, 3) := by decide +kernel
theorem dX3_init_17 : decode cX3_init 17 = .ok (.aload_n 0, 1) := by decide +kernel
theorem dX3_init_18 : decode cX3_init 18 = .ok (.new 7, 3) := by decide +kernel
theorem dX3_init_21 : decode cX3_init 21 = .ok (.dup, 1) := by decide +kernel
theorem dX3_init_22 : decode cX3_init 22 = .ok (.iconst 4, 1) := by decide +kernel
theorem dX3_init_23 : decode cX3_init 23 = .ok (.invokespecial 11, 3) := by decide +kernel
theorem dX3_init_26 : decode cX3_init 26 = .ok (.putfield 18, 3) := by decide +kernel
theorem dX3_init_29 : decode cX3_init 29 = .ok (.aload_n 0, 1) := by decide +kernel
theorem dX3_init_30 : decode cX3_init 30 = .ok (.bipush 28, 2) := by decide +kernel
theorem dX3_init_32 : decode cX3_init 32 = .ok (.newarray .int, 2) := by decide +kernel
theorem dX3_init_34 : decode cX3_init 34 = .ok (.putfield 21, 3) := by decide +kernel
theorem dX3_init_37 : decode cX3_init 37 = .ok (.aload_n 0, 1) := by decide +kernel
theorem dX3_init_38 : decode cX3_init 38 = .ok (.bipush 8, 2) := by decide +kernel
theorem dX3_init_40 : decode cX3_init 40 = .ok (.anewarray 25, 3) := by decide +kernel
theorem dX3_init_43 : decode cX3_init 43 = .ok (.putfield 27, 3) := by decide +kernel
theorem dX3_init_46 : decode cX3_init 46 = .ok (.aload_n 0, 1) := by decide +kernel
theorem dX3_init_47 : decode cX3_init 47 = .ok (.new 31, 3) := by decide +kernel
theorem dX3_init_50 : decode cX3_init 50 = .ok (.dup, 1) := by decide +kernel
theorem dX3_init_51 : decode cX3_init 51 = .ok (.invokespecial 33, 3) := by decide +kernel
theorem dX3_init_54 : decode cX3_init 54 = .ok (.putfield 34, 3) := by decide +kernel
theorem dX3_init_57 : decode cX3_init 57 = .ok (.aload_n 0, 1) := by decide +kernel
theorem dX3_init_58 : decode cX3_init 58 = .ok (.bipush 6, 2) := by decide +kernel
theorem dX3_init_60 : decode cX3_init 60 = .ok (.newarray .int, 2) := by decide +kernel
theorem dX3_init_62 : decode cX3_init 62 = .ok (.putfield 38, 3) := by decide +kernel
theorem dX3_init_65 : decode cX3_init 65 = .ok (.aload_n 0, 1) := by decide +kernel
theorem dX3_init_66 : decode cX3_init 66 = .ok (.new 25, 3) := by decide +kernel
theorem dX3_init_69 : decode cX3_init 69 = .ok (.dup, 1) := by decide +kernel
theorem dX3_init_70 : decode cX3_init 70 = .ok (.invokespecial 41, 3) := by decide +kernel
theorem dX3_init_73 : decode cX3_init 73 = .ok (.putfield 42, 3) := by decide +kernel
theorem dX3_init_76 : decode cX3_init 76 = .ok (.aload_n 0, 1) := by decide +kernel
theorem dX3_init_77 : decode cX3_init 77 = .ok (.iconst 3, 1) := by decide +kernel
theorem dX3_init_78 : decode cX3_init 78 = .ok (.putfield 46, 3) := by decide +kernel
theorem dX3_init_81 : decode cX3_init 81 = .ok (.aload_n 0, 1) := by decide +kernel
theorem dX3_init_82 : decode cX3_init 82 = .ok (.iconst 1, 1) := by decide +kernel
theorem dX3_init_83 : decode cX3_init 83 = .ok (.putfield 50, 3) := by decide +kernel
theorem dX3_init_86 : decode cX3_init 86 = .ok (.aload_n 0, 1) := by decide +kernel
theorem dX3_init_87 : decode cX3_init 87 = .ok (.iconst 0, 1) := by decide +kernel
theorem dX3_init_88 : decode cX3_init 88 = .ok (.putfield 54, 3) := by decide +kernel
theorem dX3_init_91 : decode cX3_init 91 = .ok (.aload_n 0, 1) := by decide +kernel
theorem dX3_init_92 : decode cX3_init 92 = .ok (.lconst 0, 1) := by decide +kernel
theorem dX3_init_93 : decode cX3_init 93 = .ok (.putfield 57, 3) := by decide +kernel
theorem dX3_init_96 : decode cX3_init 96 = .ok (.aload_n 0, 1) := by decide +kernel
theorem dX3_init_97 : decode cX3_init 97 = .ok (.lconst 1, 1) := by decide +kernel
theorem dX3_init_98 : decode cX3_init 98 = .ok (.putfield 61, 3) := by decide +kernel
theorem dX3_init_101 : decode cX3_init 101 = .ok (.aload_n 0, 1) := by decide +kernel
theorem dX3_init_102 : decode cX3_init 102 = .ok (.iconst 0, 1) := by decide +kernel
theorem dX3_init_103 : decode cX3_init 103 = .ok (.putfield 64, 3) := by decide +kernel
theorem dX3_init_106 : decode cX3_init 106 = .ok (.iconst 0, 1) := by decide +kernel
theorem dX3_init_107 : decode cX3_init 107 = .ok (.istore_n 1, 1) := by decide +kernel
theorem dX3_init_108 : decode cX3_init 108 = .ok (.iload_n 1, 1) := by decide +kernel
theorem dX3_init_109 : decode cX3_init 109 = .ok (.bipush 8, 2) := by decide +kernel
theorem dX3_init_111 : decode cX3_init 111 = .ok (.if_icmp .ge 22, 3) := by decide +kernel
theorem dX3_init_114 : decode cX3_init 114 = .ok (.aload_n 0, 1) := by decide +kernel
theorem dX3_init_115 : decode cX3_init 115 = .ok (.getfield 27, 3) := by decide +kernel
theorem dX3_init_118 : decode cX3_init 118 = .ok (.iload_n 1, 1) := by decide +kernel
theorem dX3_init_119 : decode cX3_init 119 = .ok (.new 25, 3) := by decide +kernel
theorem dX3_init_122 : decode cX3_init 122 = .ok (.dup, 1) := by decide +kernel
theorem dX3_init_123 : decode cX3_init 123 = .ok (.invokespecial 41, 3) := by decide +kernel
theorem dX3_init_126 : decode cX3_init 126 = .ok (.aastore, 1) := by decide +kernel
theorem dX3_init_127 : decode cX3_init 127 = .ok (.iinc 1 1, 3) := by decide +kernel
theorem dX3_init_130 : decode cX3_init 130 = .ok (.goto (-22), 3) := by decide +kernel
theorem dX3_init_133 : decode cX3_init 133 = .ok (.return_, 1) := by decide +kernel
theorem dX4_init_0 : decode cX4_init 0 = .ok (.aload_n 0, 1) := by decide +kernel
theorem dX4_init_1 : decode cX4_init 1 = .ok (.invokespecial 1, 3) := by decide +kernel
theorem dX4_init_4 : decode cX4_init 4 = .ok (.aload_n 0, 1) := by decide +kernel
theorem dX4_init_5 : decode cX4_init 5 = .ok (.bipush 6, 2) := by decide +kernel
theorem dX4_init_7 : decode cX4_init 7 = .ok (.newarray .int, 2) := by decide +kernel
theorem dX4_init_9 : decode cX4_init 9 = .ok (.putfield 7, 3) := by decide +kernel
theorem dX4_init_12 : decode cX4_init 12 = .ok (.aload_n 0, 1) := by decide +kernel
theorem dX4_init_13 : decode cX4_init 13 = .ok (.lconst 1, 1) := by decide +kernel
theorem dX4_init_14 : decode cX4_init 14 = .ok (.putfield 13, 3) := by decide +kernel
theorem dX4_init_17 : decode cX4_init 17 = .ok (.aload_n 0, 1) := by decide +kernel
theorem dX4_init_18 : decode cX4_init 18 = .ok (.bipush 6, 2) := by decide +kernel
theorem dX4_init_20 : decode cX4_init 20 = .ok (.newarray .int, 2) := by decide +kernel
theorem dX4_init_22 : decode cX4_init 22 = .ok (.putfield 17, 3) := by decide +kernel
theorem dX4_init_25 : decode cX4_init 25 = .ok (.aload_n 0, 1) := by decide +kernel
theorem dX4_init_26 : decode cX4_init 26 = .ok (.sipush 240, 3) := by decide +kernel
theorem dX4_init_29 : decode cX4_init 29 = .ok (.newarray .int, 2) := by decide +kernel
theorem dX4_init_31 : decode cX4_init 31 = .ok (.putfield 20, 3) := by decide +kernel
theorem dX4_init_34 : decode cX4_init 34 = .ok (.aload_n 0, 1) := by decide +kernel
theorem dX4_init_35 : decode cX4_init 35 = .ok (.bipush 40, 2) := by decide +kernel
theorem dX4_init_37 : decode cX4_init 37 = .ok (.newarray .int, 2) := by decide +kernel
theorem dX4_init_39 : decode cX4_init 39 = .ok (.putfield 23, 3) := by decide +kernel
theorem dX4_init_42 : decode cX4_init 42 = .ok (.aload_n 0, 1) := by decide +kernel
theorem dX4_init_43 : decode cX4_init 43 = .ok (.iconst 4, 1) := by decide +kernel
theorem dX4_init_44 : decode cX4_init 44 = .ok (.newarray .int, 2) := by decide +kernel
theorem dX4_init_46 : decode cX4_init 46 = .ok (.putfield 26, 3) := by decide +kernel
theorem dX4_init_49 : decode cX4_init 49 = .ok (.aload_n 0, 1) := by decide +kernel
theorem dX4_init_50 : decode cX4_init 50 = .ok (.sipush 160, 3) := by decide +kernel
theorem dX4_init_53 : decode cX4_init 53 = .ok (.newarray .int, 2) := by decide +kernel
theorem dX4_init_55 : decode cX4_init 55 = .ok (.putfield 29, 3) := by decide +kernel
theorem dX4_init_58 : decode cX4_init 58 = .ok (.aload_n 0, 1) := by decide +kernel
theorem dX4_init_59 : decode cX4_init 59 = .ok (.iconst 3, 1) := by decide +kernel
theorem dX4_init_60 : decode cX4_init 60 = .ok (.putfield 32, 3) := by decide +kernel
theorem dX4_init_63 : decode cX4_init 63 = .ok (.aload_n 0, 1) := by decide +kernel
theorem dX4_init_64 : decode cX4_init 64 = .ok (.bipush 28, 2) := by decide +kernel
theorem dX4_init_66 : decode cX4_init 66 = .ok (.newarray .int, 2) := by decide +kernel
theorem dX4_init_68 : decode cX4_init 68 = .ok (.putfield 36, 3) := by decide +kernel
theorem dX4_init_71 : decode cX4_init 71 = .ok (.aload_n 0, 1) := by decide +kernel
theorem dX4_init_72 : decode cX4_init 72 = .ok (.bipush 6, 2) := by decide +kernel
theorem dX4_init_74 : decode cX4_init 74 = .ok (.newarray .boolean, 2) := by decide +kernel
theorem dX4_init_76 : decode cX4_init 76 = .ok (.putfield 39, 3) := by decide +kernel
theorem dX4_init_79 : decode cX4_init 79 = .ok (.aload_n 0, 1) := by decide +kernel
theorem dX4_init_80 : decode cX4_init 80 = .ok (.bipush 6, 2) := by decide +kernel
theorem dX4_init_82 : decode cX4_init 82 = .ok (.newarray .int, 2) := by decide +kernel
theorem dX4_init_84 : decode cX4_init 84 = .ok (.putfield 43, 3) := by decide +kernel
theorem dX4_init_87 : decode cX4_init 87 = .ok (.aload_n 0, 1) := by decide +kernel
theorem dX4_init_88 : decode cX4_init 88 = .ok (.bipush 6, 2) := by decide +kernel
theorem dX4_init_90 : decode cX4_init 90 = .ok (.newarray .int, 2) := by decide +kernel
theorem dX4_init_92 : decode cX4_init 92 = .ok (.putfield 46, 3) := by decide +kernel
theorem dX4_init_95 : decode cX4_init 95 = .ok (.aload_n 0, 1) := by decide +kernel
theorem dX4_init_96 : decode cX4_init 96 = .ok (.bipush 6, 2) := by decide +kernel
theorem dX4_init_98 : decode cX4_init 98 = .ok (.newarray .int, 2) := by decide +kernel
theorem dX4_init_100 : decode cX4_init 100 = .ok (.putfield 49, 3) := by decide +kernel
theorem dX4_init_103 : decode cX4_init 103 = .ok (.aload_n 0, 1) := by decide +kernel
theorem dX4_init_104 : decode cX4_init 104 = .ok (.bipush 8, 2) := by decide +kernel
theorem dX4_init_106 : decode cX4_init 106 = .ok (.newarray .int, 2) := by decide +kernel
theorem dX4_init_108 : decode cX4_init 108 = .ok (.putfield 52, 3) := by decide +kernel
theorem dX4_init_111 : decode cX4_init 111 = .ok (.aload_n 0, 1) := by decide +kernel
theorem dX4_init_112 : decode cX4_init 112 = .ok (.bipush 8, 2) := by decide +kernel
theorem dX4_init_114 : decode cX4_init 114 = .ok (.newarray .int, 2) := by decide +kernel
theorem dX4_init_116 : decode cX4_init 116 = .ok (.putfield 55, 3) := by decide +kernel
theorem dX4_init_119 : decode cX4_init 119 = .ok (.aload_n 0, 1) := by decide +kernel
theorem dX4_init_120 : decode cX4_init 120 = .ok (.bipush 8, 2) := by decide +kernel
theorem dX4_init_122 : decode cX4_init 122 = .ok (.newarray .int, 2) := by decide +kernel
theorem dX4_init_124 : decode cX4_init 124 = .ok (.putfield 58, 3) := by decide +kernel
theorem dX4_init_127 : decode cX4_init 127 = .ok (.aload_n 0, 1) := by decide +kernel
theorem dX4_init_128 : decode cX4_init 128 = .ok (.bipush 8, 2) := by decide +kernel
theorem dX4_init_130 : decode cX4_init 130 = .ok (.newarray .int, 2) := by decide +kernel
theorem dX4_init_132 : decode cX4_init 132 = .ok (.putfield 61, 3) := by decide +kernel
theorem dX4_init_135 : decode cX4_init 135 = .ok (.aload_n 0, 1) := by decide +kernel
theorem dX4_init_136 : decode cX4_init 136 = .ok (.bipush 48, 2) := by decide +kernel
theorem dX4_init_138 : decode cX4_init 138 = .ok (.newarray .boolean, 2) := by decide +kernel
theorem dX4_init_140 : decode cX4_init 140 = .ok (.putfield 64, 3) := by decide +kernel
theorem dX4_init_143 : decode cX4_init 143 = .ok (.aload_n 0, 1) := by decide +kernel
theorem dX4_init_144 : decode cX4_init 144 = .ok (.bipush 48, 2) := by decide +kernel
theorem dX4_init_146 : decode cX4_init 146 = .ok (.newarray .int, 2) := by decide +kernel
theorem dX4_init_148 : decode cX4_init 148 = .ok (.putfield 67, 3) := by decide +kernel
theorem dX4_init_151 : decode cX4_init 151 = .ok (.aload_n 0, 1) := by decide +kernel
theorem dX4_init_152 : decode cX4_init 152 = .ok (.bipush 48, 2) := by decide +kernel
theorem dX4_init_154 : decode cX4_init 154 = .ok (.newarray .int, 2) := by decide +kernel
theorem dX4_init_156 : decode cX4_init 156 = .ok (.putfield 70, 3) := by decide +kernel
theorem dX4_init_159 : decode cX4_init 159 = .ok (.aload_n 0, 1) := by decide +kernel
theorem dX4_init_160 : decode cX4_init 160 = .ok (.bipush 48, 2) := by decide +kernel
theorem dX4_init_162 : decode cX4_init 162 = .ok (.newarray .int, 2) := by decide +kernel
theorem dX4_init_164 : decode cX4_init 164 = .ok (.putfield 73, 3) := by decide +kernel
theorem dX4_init_167 : decode cX4_init 167 = .ok (.aload_n 0, 1) := by decide +kernel
theorem dX4_init_168 : decode cX4_init 168 = .ok (.bipush 28, 2) := by decide +kernel
theorem dX4_init_170 : decode cX4_init 170 = .ok (.newarray .int, 2) := by decide +kernel
theorem dX4_init_172 : decode cX4_init 172 = .ok (.putfield 76, 3) := by decide +kernel
theorem dX4_init_175 : decode cX4_init 175 = .ok (.aload_n 0, 1) := by decide +kernel
theorem dX4_init_176 : decode cX4_init 176 = .ok (.sipush 8192, 3) := by decide +kernel
theorem dX4_init_179 : decode cX4_init 179 = .ok (.newarray .int, 2) := by decide +kernel
theorem dX4_init_181 : decode cX4_init 181 = .ok (.putfield 79, 3) := by decide +kernel
theorem dX4_init_184 : decode cX4_init 184 = .ok (.aload_n 0, 1) := by decide +kernel
theorem dX4_init_185 : decode cX4_init 185 = .ok (.sipush 1024, 3) := by decide +kernel
theorem dX4_init_188 : decode cX4_init 188 = .ok (.newarray .int, 2) := by decide +kernel
theorem dX4_init_190 : decode cX4_init 190 = .ok (.putfield 82, 3) := by decide +kernel
theorem dX4_init_193 : decode cX4_init 193 = .ok (.aload_n 0, 1) := by decide +kernel
theorem dX4_init_194 : decode cX4_init 194 = .ok (.sipush 1024, 3) := by decide +kernel
theorem dX4_init_197 : decode cX4_init 197 = .ok (.newarray .long, 2) := by decide +kernel
theorem dX4_init_199 : decode cX4_init 199 = .ok (.putfield 85, 3) := by decide +kernel
theorem dX4_init_202 : decode cX4_init 202 = .ok (.iconst 0, 1) := by decide +kernel
theorem dX4_init_203 : decode cX4_init 203 = .ok (.istore_n 1, 1) := by decide +kernel
theorem dX4_init_204 : decode cX4_init 204 = .ok (.iload_n 1, 1) := by decide +kernel
theorem dX4_init_205 : decode cX4_init 205 = .ok (.bipush 6, 2) := by decide +kernel
theorem dX4_init_207 : decode cX4_init 207 = .ok (.if_icmp .ge 17, 3) := by decide +kernel
theorem dX4_init_210 : decode cX4_init 210 = .ok (.aload_n 0, 1) := by decide +kernel
theorem dX4_init_211 : decode cX4_init 211 = .ok (.getfield 17, 3) := by decide +kernel
theorem dX4_init_214 : decode cX4_init 214 = .ok (.iload_n 1, 1) := by decide +kernel
theorem dX4_init_215 : decode cX4_init 215 = .ok (.bipush (-9), 2) := by decide +kernel
theorem dX4_init_217 : decode cX4_init 217 = .ok (.iastore, 1) := by decide +kernel
theorem dX4_init_218 : decode cX4_init 218 = .ok (.iinc 1 1, 3) := by decide +kernel
theorem dX4_init_221 : decode cX4_init 221 = .ok (.goto (-17), 3) := by decide +kernel
theorem dX4_init_224 : decode cX4_init 224 = .ok (.iconst 0, 1) := by decide +kernel
theorem dX4_init_225 : decode cX4_init 225 = .ok (.istore_n 1, 1) := by decide +kernel
theorem dX4_init_226 : decode cX4_init 226 = .ok (.iload_n 1, 1) := by decide +kernel
theorem dX4_init_227 : decode cX4_init 227 = .ok (.iconst 4, 1) := by decide +kernel
theorem dX4_init_228 : decode cX4_init 228 = .ok (.if_icmp .ge 17, 3) := by decide +kernel
theorem dX4_init_231 : decode cX4_init 231 = .ok (.aload_n 0, 1) := by decide +kernel
theorem dX4_init_232 : decode cX4_init 232 = .ok (.getfield 26, 3) := by decide +kernel
theorem dX4_init_235 : decode cX4_init 235 = .ok (.iload_n 1, 1) := by decide +kernel
theorem dX4_init_236 : decode cX4_init 236 = .ok (.bipush (-9), 2) := by decide +kernel
theorem dX4_init_238 : decode cX4_init 238 = .ok (.iastore, 1) := by decide +kernel
theorem dX4_init_239 : decode cX4_init 239 = .ok (.iinc 1 1, 3) := by decide +kernel
theorem dX4_init_242 : decode cX4_init 242 = .ok (.goto (-16), 3) := by decide +kernel
theorem dX4_init_245 : decode cX4_init 245 = .ok (.iconst 0, 1) := by decide +kernel
theorem dX4_init_246 : decode cX4_init 246 = .ok (.istore_n 1, 1) := by decide +kernel
theorem dX4_init_247 : decode cX4_init 247 = .ok (.iload_n 1, 1) := by decide +kernel
theorem dX4_init_248 : decode cX4_init 248 = .ok (.bipush 8, 2) := by decide +kernel
theorem dX4_init_250 : decode cX4_init 250 = .ok (.if_icmp .ge 17, 3) := by decide +kernel
theorem dX4_init_253 : decode cX4_init 253 = .ok (.aload_n 0, 1) := by decide +kernel
theorem dX4_init_254 : decode cX4_init 254 = .ok (.getfield 52, 3) := by decide +kernel
theorem dX4_init_257 : decode cX4_init 257 = .ok (.iload_n 1, 1) := by decide +kernel
theorem dX4_init_258 : decode cX4_init 258 = .ok (.bipush (-9), 2) := by decide +kernel
theorem dX4_init_260 : decode cX4_init 260 = .ok (.iastore, 1) := by decide +kernel
theorem dX4_init_261 : decode cX4_init 261 = .ok (.iinc 1 1, 3) := by decide +kernel
theorem dX4_init_264 : decode cX4_init 264 = .ok (.goto (-17), 3) := by decide +kernel
theorem dX4_init_267 : decode cX4_init 267 = .ok (.return_, 1) := by decide +kernel
theorem dJ7_fill_53178_0 : decode cJ7_fill_53178 0 = .ok (.iconst 0, 1) := by decide +kernel
theorem dJ7_fill_53178_1 : decode cJ7_fill_53178 1 = .ok (.istore_n 2, 1) := by decide +kernel
theorem dJ7_fill_53178_2 : decode cJ7_fill_53178 2 = .ok (.aload_n 0, 1) := by decide +kernel
theorem dJ7_fill_53178_3 : decode cJ7_fill_53178 3 = .ok (.arraylength, 1) := by decide +kernel
theorem dJ7_fill_53178_4 : decode cJ7_fill_53178 4 = .ok (.istore_n 3, 1) := by decide +kernel
theorem dJ7_fill_53178_5 : decode cJ7_fill_53178 5 = .ok (.iload_n 2, 1) := by decide +kernel
theorem dJ7_fill_53178_6 : decode cJ7_fill_53178 6 = .ok (.iload_n 3, 1) := by decide +kernel
theorem dJ7_fill_53178_7 : decode cJ7_fill_53178 7 = .ok (.if_icmp .ge 13, 3) := by decide +kernel
theorem dJ7_fill_53178_10 : decode cJ7_fill_53178 10 = .ok (.aload_n 0, 1) := by decide +kernel
theorem dJ7_fill_53178_11 : decode cJ7_fill_53178 11 = .ok (.iload_n 2, 1) := by decide +kernel
theorem dJ7_fill_53178_12 : decode cJ7_fill_53178 12 = .ok (.iload_n 1, 1) := by decide +kernel
theorem dJ7_fill_53178_13 : decode cJ7_fill_53178 13 = .ok (.iastore, 1) := by decide +kernel
theorem dJ7_fill_53178_14 : decode cJ7_fill_53178 14 = .ok (.iinc 2 1, 3) := by decide +kernel
theorem dJ7_fill_53178_17 : decode cJ7_fill_53178 17 = .ok (.goto (-12), 3) := by decide +kernel
theorem dJ7_fill_53178_20 : decode cJ7_fill_53178 20 = .ok (.return_, 1) := by decide +kernel
set_option maxRecDepth 20000 in
theorem ggL_law_X3_init : GoodIn wsL_law wsX3_init := goodIn_r _ [8, 9, 10, 11, 12, 13, 14, 15, 16, 17, 18, 19, 20, 21, 22, 23, 24, 25, 26, 27, 28, 29, 30, 31, 32, 33, 34, 35, 36, 37, 38, 39, 40, 41, 42, 43, 44, 45, 46, 47, 48, 49, 50, 51, 52, 53, 54, 55, 56, 57, 58, 59, 60, 61, 62, 63, 64, 65, 66, 67, 68, 69, 70, 71, 72, 73, 74, 75, 76, 1107, 1108, 1057, 1058, 1059, 1060, 1061, 1062, 1063, 1064, 1065, 1066, 1067, 1068, 1069, 1109, 1110, 1111, 1112, 1113, 1114, 1115, 1116, 1117, 1118, 1119, 1120, 1121, 1122, 1123, 1124, 1125, 1126, 1127] (by decide +kernel) (by decide +kernel)
set_option maxRecDepth 20000 in
theorem gL_law_X3_init : GoodIn wsL_law (wsX3_init) := ggL_law_X3_init
set_option maxRecDepth 20000 in
theorem ggL_law_X4_init : GoodIn wsL_law wsX4_init := goodIn_r _ [79, 80, 10, 11, 17, 81, 82, 83, 84, 85, 86, 87, 88, 89, 75, 90, 91, 92, 93, 94, 95, 96, 97, 98, 99, 100, 101, 102, 103, 104, 56, 105, 1070, 1071, 1072, 1073, 1074, 1075, 1076, 1077, 1078, 1079, 1080, 1081, 1082, 1083, 1084, 1085, 1086, 1087, 1088, 1089, 1090, 1091, 1092, 1093, 1094, 1095, 1096, 1097, 1098, 1099, 1100, 1101, 1102, 1103, 1104, 1105, 1106] (by decide +kernel) (by decide +kernel)
set_option maxRecDepth 20000 in
theorem gL_law_X4_init : GoodIn wsL_law (wsX4_init) := ggL_law_X4_init
theorem dL_law_0 : decode cL_law 0 = .ok (.new 7, 3) := by decide +kernel
theorem dL_law_3 : decode cL_law 3 = .ok (.dup, 1) := by decide +kernel
theorem dL_law_4 : decode cL_law 4 = .ok (.invokespecial 9, 3) := by decide +kernel
theorem dL_law_7 : decode cL_law 7 = .ok (.astore_n 1, 1) := by decide +kernel
theorem dL_law_8 : decode cL_law 8 = .ok (.new 10, 3) := by decide +kernel
theorem dL_law_11 : decode cL_law 11 = .ok (.dup, 1) := by decide +kernel
theorem dL_law_12 : decode cL_law 12 = .ok (.invokespecial 12, 3) := by decide +kernel
theorem dL_law_15 : decode cL_law 15 = .ok (.astore_n 2, 1) := by decide +kernel
theorem dL_law_16 : decode cL_law 16 = .ok (.iconst 0, 1) := by decide +kernel
theorem dL_law_17 : decode cL_law 17 = .ok (.istore_n 3, 1) := by decide +kernel
theorem inw_X0_init_0 : ∀ w ∈ u_ws RX0 TX0 9, w ∈ wsX0_init := by decide +kernel
theorem inw_X1_init_1 : ∀ w ∈ u_ws RX1 TX1 2, w ∈ wsX1_init := by decide +kernel
theorem inw_X2_init_2 : ∀ w ∈ u_ws RX2 TX2 10, w ∈ wsX2_init := by decide +kernel
theorem inw_X3_init_0 : ∀ w ∈ u_ws RX0 TX0 9, w ∈ wsX3_init := by decide +kernel
theorem inw_X3_init_1 : ∀ w ∈ u_ws RX1 TX1 2, w ∈ wsX3_init := by decide +kernel
theorem inw_X3_init_2 : ∀ w ∈ u_ws RX2 TX2 10, w ∈ wsX3_init := by decide +kernel
theorem inw_X3_init_3 : ∀ w ∈ u_ws RX3 TX3 13, w ∈ wsX3_init := by decide +kernel
theorem inw_X4_init_4 : ∀ w ∈ u_ws RX4 TX4 37, w ∈ wsX4_init := by decide +kernel
