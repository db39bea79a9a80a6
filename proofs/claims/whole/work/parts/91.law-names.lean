def RL : String := "ForeRainLaw"
abbrev cL_law : ByteArray := code
def yL_law : MethodName := ⟨RL, "law", "([I)Z"⟩
def wsL_law_r1 : List Cond := [Cond.classLink RL 7 RX7, Cond.instantiable RX7 10, Cond.initialized RX7, Cond.classLink RL 10 RX8, Cond.instantiable RX8 26, Cond.initialized RX8, Cond.constantLong RL 13 (4294967295), Cond.methodLink RL 9 yX7_init, Cond.instanceMethod yX7_init, Cond.code yX7_init cX7_init 2 none, Cond.methodLink RX7 1 objectInit, Cond.instanceMethod objectInit, Cond.code objectInit ⟨#[0xb1]⟩ 1 none, Cond.classLink RX7 7 RX4, Cond.instantiable RX4 8, Cond.initialized RX4, Cond.fieldLink RX7 10 "ForeRain" "reader" "LForeRain$Reader;", Cond.classLink RX7 16 RX6, Cond.instantiable RX6 9, Cond.initialized RX6, Cond.fieldLink RX7 19 "ForeRain" "told" "LForeRain$Told;", Cond.classLink RX7 23 RX3, Cond.instantiable RX3 7, Cond.initialized RX3]
def wsL_law_r2 : List Cond := [Cond.fieldLink RX7 28 "ForeRain" "present" "LForeRain$Moment;", Cond.fieldLink RX7 32 "ForeRain" "ahead" "LForeRain$Moment;", Cond.fieldLink RX7 35 "ForeRain" "images" "[LForeRain$Moment;", Cond.arrayClass .boolean, Cond.fieldLink RX7 39 "ForeRain" "kept" "[Z", Cond.classLink RX7 43 RX1, Cond.instantiable RX1 10, Cond.initialized RX1, Cond.fieldLink RX7 48 "ForeRain" "hanging" "LForeRain$Hanging;", Cond.classLink RX7 52 RX5, Cond.instantiable RX5 8, Cond.initialized RX5, Cond.fieldLink RX7 57 "ForeRain" "takingIn" "LForeRain$TakingIn;", Cond.classLink RX7 61 RX0, Cond.instantiable RX0 4, Cond.initialized RX0, Cond.fieldLink RX7 64 "ForeRain" "days" "LForeRain$Days;", Cond.classLink RX7 68 RX2, Cond.instantiable RX2 3, Cond.initialized RX2, Cond.fieldLink RX7 71 "ForeRain" "marks" "LForeRain$Marks;", Cond.instanceMethod yX4_init, Cond.code yX4_init cX4_init 1 none, Cond.methodLink RX4 3 objectInit]
def wsL_law_r3 : List Cond := [Cond.arrayClass .byte, Cond.fieldLink RX4 9 "ForeRain$Reader" "bytes" "[B", Cond.classLink RX4 15 RX6, Cond.fieldLink RX4 18 "ForeRain$Reader" "found" "LForeRain$Told;", Cond.instanceMethod yX6_init, Cond.code yX6_init cX6_init 1 none, Cond.methodLink RX6 3 objectInit, Cond.arrayClass .int, Cond.fieldLink RX6 9 "ForeRain$Told" "water" "[I", Cond.fieldLink RX6 15 "ForeRain$Told" "wide" "[I", Cond.fieldLink RX6 18 "ForeRain$Told" "cloth" "[I", Cond.fieldLink RX6 21 "ForeRain$Told" "room" "[I", Cond.fieldLink RX6 24 "ForeRain$Told" "wind" "[I", Cond.fieldLink RX6 27 "ForeRain$Told" "suns" "[I", Cond.methodLink RX7 25 yX3_init, Cond.instanceMethod yX3_init, Cond.code yX3_init cX3_init 2 none, Cond.methodLink RX3 3 objectInit, Cond.fieldLink RX3 9 "ForeRain$Moment" "water" "[I", Cond.fieldLink RX3 15 "ForeRain$Moment" "age" "[I", Cond.fieldLink RX3 18 "ForeRain$Moment" "place" "[I", Cond.fieldLink RX3 21 "ForeRain$Moment" "smells" "[Z", Cond.fieldLink RX3 25 "ForeRain$Moment" "told" "LForeRain$Told;", Cond.methodLink RX7 45 yX1_init]
def wsL_law_r4 : List Cond := [Cond.instanceMethod yX1_init, Cond.code yX1_init cX1_init 4 none, Cond.methodLink RX1 3 objectInit, Cond.fieldLink RX1 9 "ForeRain$Hanging" "tried" "[I", Cond.fieldLink RX1 15 "ForeRain$Hanging" "taken" "[Z", Cond.classLink RX1 19 "[[I", Cond.fieldLink RX1 21 "ForeRain$Hanging" "lowest" "[[I", Cond.fieldLink RX1 24 "ForeRain$Hanging" "lowestFrom" "[I", Cond.fieldLink RX1 27 "ForeRain$Hanging" "best" "[I", Cond.fieldLink RX1 30 "ForeRain$Hanging" "told" "LForeRain$Told;", Cond.fieldLink RX1 34 "ForeRain$Hanging" "present" "LForeRain$Moment;", Cond.fieldLink RX1 38 "ForeRain$Hanging" "ahead" "LForeRain$Moment;", Cond.methodLink RX7 54 yX5_init, Cond.instanceMethod yX5_init, Cond.code yX5_init cX5_init 3 none, Cond.methodLink RX5 3 objectInit, Cond.fieldLink RX5 9 "ForeRain$TakingIn" "tried" "[I", Cond.fieldLink RX5 15 "ForeRain$TakingIn" "taken" "[Z", Cond.fieldLink RX5 19 "ForeRain$TakingIn" "best" "[I", Cond.fieldLink RX5 22 "ForeRain$TakingIn" "told" "LForeRain$Told;", Cond.fieldLink RX5 26 "ForeRain$TakingIn" "present" "LForeRain$Moment;", Cond.instanceMethod yX0_init, Cond.code yX0_init cX0_init 1 none, Cond.methodLink RX0 1 objectInit]
def wsL_law_r5 : List Cond := [Cond.fieldLink RX0 7 "ForeRain$Days" "rights" "[I", Cond.fieldLink RX0 13 "ForeRain$Days" "saidRain" "[I", Cond.fieldLink RX0 16 "ForeRain$Days" "rainCame" "[I", Cond.methodLink RX7 70 yX2_init, Cond.instanceMethod yX2_init, Cond.code yX2_init cX2_init 3 none, Cond.methodLink RX2 1 objectInit, Cond.fieldLink RX2 7 "ForeRain$Marks" "told" "LForeRain$Told;", Cond.fieldLink RX2 13 "ForeRain$Marks" "present" "LForeRain$Moment;", Cond.methodLink RL 12 yX8_init, Cond.instanceMethod yX8_init, Cond.code yX8_init cX8_init 1 none, Cond.methodLink RX8 1 objectInit, Cond.fieldLink RX8 7 "ForeRainModel" "text" "[B", Cond.fieldLink RX8 13 "ForeRainModel" "pieces" "[I", Cond.fieldLink RX8 17 "ForeRainModel" "wet" "[I", Cond.fieldLink RX8 20 "ForeRainModel" "wide" "[I", Cond.fieldLink RX8 23 "ForeRainModel" "cloth" "[I", Cond.fieldLink RX8 26 "ForeRainModel" "spots" "[I", Cond.fieldLink RX8 29 "ForeRainModel" "room" "[I", Cond.fieldLink RX8 32 "ForeRainModel" "wind" "[I", Cond.fieldLink RX8 35 "ForeRainModel" "told" "[I", Cond.fieldLink RX8 38 "ForeRainModel" "skies" "[I", Cond.fieldLink RX8 41 "ForeRainModel" "now" "[I"]
def wsL_law_r6 : List Cond := [Cond.fieldLink RX8 44 "ForeRainModel" "isKept" "[Z", Cond.fieldLink RX8 48 "ForeRainModel" "place" "[I", Cond.fieldLink RX8 51 "ForeRainModel" "bestPlace" "[I", Cond.fieldLink RX8 54 "ForeRainModel" "row" "[I", Cond.fieldLink RX8 57 "ForeRainModel" "bestRow" "[I", Cond.fieldLink RX8 60 "ForeRainModel" "said" "[I", Cond.fieldLink RX8 63 "ForeRainModel" "came" "[I", Cond.methodLink RL 15 yX7_type, Cond.instanceMethod yX7_type, Cond.selects RX7 yX7_type yX7_type, Cond.code yX7_type cX7_type 4 (some .int), Cond.fieldLink RX7 83 "ForeRain$Reader" "length" "I", Cond.methodLink RX7 75 yX7_within, Cond.static yX7_within, Cond.code yX7_within cX7_within 3 (some .boolean), Cond.methodLink RX7 79 yX4_take, Cond.instanceMethod yX4_take, Cond.selects RX4 yX4_take yX4_take, Cond.code yX4_take cX4_take 5 (some .boolean), Cond.fieldLink RX4 22 "ForeRain$Reader" "length" "I", Cond.methodLink RL 19 yX8_type, Cond.instanceMethod yX8_type, Cond.selects RX8 yX8_type yX8_type, Cond.code yX8_type cX8_type 5 (some .int)]
def wsL_law_r7 : List Cond := [Cond.fieldLink RX8 70 "ForeRainModel" "typed" "I", Cond.constantLong RX8 74 (255), Cond.methodLink RX8 66 yX8_in, Cond.static yX8_in, Cond.code yX8_in cX8_in 3 (some .boolean), Cond.methodLink RL 20 yX7_clear, Cond.instanceMethod yX7_clear, Cond.selects RX7 yX7_clear yX7_clear, Cond.code yX7_clear cX7_clear 1 (some .int), Cond.methodLink RX7 87 yX4_empty, Cond.instanceMethod yX4_empty, Cond.selects RX4 yX4_empty yX4_empty, Cond.code yX4_empty cX4_empty 2 (some .int), Cond.methodLink RL 24 yX8_clear, Cond.instanceMethod yX8_clear, Cond.selects RX8 yX8_clear yX8_clear, Cond.code yX8_clear cX8_clear 2 (some .int), Cond.methodLink RL 25 yX7_day, Cond.instanceMethod yX7_day, Cond.selects RX7 yX7_day yX7_day, Cond.code yX7_day cX7_day 3 (some .int), Cond.fieldLink RX7 94 "ForeRain$Reader" "found" "LForeRain$Told;", Cond.methodLink RX7 91 yX4_readAll, Cond.instanceMethod yX4_readAll]
def wsL_law_r8 : List Cond := [Cond.selects RX4 yX4_readAll yX4_readAll, Cond.code yX4_readAll cX4_readAll 2 (some .int), Cond.fieldLink RX4 29 "ForeRain$Reader" "next" "I", Cond.fieldLink RX4 32 "ForeRain$Reader" "fault" "I", Cond.fieldLink RX4 38 "ForeRain$Reader" "token" "I", Cond.methodLink RX4 26 yX6_forget, Cond.instanceMethod yX6_forget, Cond.selects RX6 yX6_forget yX6_forget, Cond.code yX6_forget cX6_forget 1 none, Cond.fieldLink RX6 30 "ForeRain$Told" "pieces" "I", Cond.fieldLink RX6 34 "ForeRain$Told" "spots" "I", Cond.fieldLink RX6 37 "ForeRain$Told" "steps" "I", Cond.methodLink RX4 35 yX4_scan, Cond.instanceMethod yX4_scan, Cond.selects RX4 yX4_scan yX4_scan, Cond.code yX4_scan cX4_scan 1 none, Cond.fieldLink RX4 72 "ForeRain$Reader" "start" "I", Cond.methodLink RX4 111 yX4_isLetter, Cond.instanceMethod yX4_isLetter, Cond.selects RX4 yX4_isLetter yX4_isLetter, Cond.code yX4_isLetter cX4_isLetter 2 (some .boolean), Cond.methodLink RX4 115 yX4_scanWord, Cond.instanceMethod yX4_scanWord, Cond.selects RX4 yX4_scanWord yX4_scanWord]
def wsL_law_r9 : List Cond := [Cond.code yX4_scanWord cX4_scanWord 1 none, Cond.methodLink RX4 118 yX4_isDigit, Cond.instanceMethod yX4_isDigit, Cond.selects RX4 yX4_isDigit yX4_isDigit, Cond.code yX4_isDigit cX4_isDigit 2 (some .boolean), Cond.methodLink RX4 121 yX4_scanNumber, Cond.instanceMethod yX4_scanNumber, Cond.selects RX4 yX4_scanNumber yX4_scanNumber, Cond.code yX4_scanNumber cX4_scanNumber 2 none, Cond.fieldLink RX4 104 "ForeRain$Reader" "value" "I", Cond.methodLink RX4 124 Lib.Math.min.name, Cond.static Lib.Math.min.name, Cond.initialized "java/lang/Math", Cond.code Lib.Math.min.name Lib.Math.min.code 2 (some .int), Cond.methodLink RX4 41 yX4_readItem, Cond.instanceMethod yX4_readItem, Cond.selects RX4 yX4_readItem yX4_readItem, Cond.code yX4_readItem cX4_readItem 1 none, Cond.fieldLink RX4 50 "ForeRain$Told" "pieces" "I", Cond.fieldLink RX4 58 "ForeRain$Told" "spots" "I", Cond.methodLink RX4 46 yX4_isWord, Cond.instanceMethod yX4_isWord, Cond.selects RX4 yX4_isWord yX4_isWord, Cond.code yX4_isWord cX4_isWord 3 (some .boolean)]
def wsL_law_r10 : List Cond := [Cond.methodLink RX4 129 yJ0_length_8abf5, Cond.instanceMethod yJ0_length_8abf5, Cond.selects RJ0 yJ0_length_8abf5 yJ0_length_8abf5, Cond.initialized RJ0, Cond.code yJ0_length_8abf5 cJ0_length_8abf5 1 (some .int), Cond.fieldLink RJ0 9 "java/lang/String" "value" "[B", Cond.methodLink RJ0 335 yJ0_coder_7d493, Cond.instanceMethod yJ0_coder_7d493, Cond.selects RJ0 yJ0_coder_7d493 yJ0_coder_7d493, Cond.code yJ0_coder_7d493 cJ0_coder_7d493 1 (some .byte), Cond.fieldLink RJ0 38 "java/lang/String" "COMPACT_STRINGS" "Z", Cond.fieldLink RJ0 15 "java/lang/String" "coder" "B", Cond.methodLink RX4 134 yJ0_charAt_5068e, Cond.instanceMethod yJ0_charAt_5068e, Cond.selects RJ0 yJ0_charAt_5068e yJ0_charAt_5068e, Cond.code yJ0_charAt_5068e cJ0_charAt_5068e 2 (some .char), Cond.methodLink RJ0 492 yJ0_isLatin1_aae02, Cond.instanceMethod yJ0_isLatin1_aae02, Cond.selects RJ0 yJ0_isLatin1_aae02 yJ0_isLatin1_aae02, Cond.code yJ0_isLatin1_aae02 cJ0_isLatin1_aae02 1 (some .boolean), Cond.methodLink RJ0 495 yJ1_charAt_3b067, Cond.static yJ1_charAt_3b067, Cond.initialized RJ1, Cond.code yJ1_charAt_3b067 cJ1_charAt_3b067 2 (some .char)]
def wsL_law_r11 : List Cond := [Cond.methodLink RJ1 9 yJ0_checkIndex_df160, Cond.static yJ0_checkIndex_df160, Cond.code yJ0_checkIndex_df160 cJ0_checkIndex_df160 2 none, Cond.fieldLink RJ0 1053 "jdk/internal/util/Preconditions" "SIOOBE_FORMATTER" "Ljava/util/function/BiFunction;", Cond.methodLink RJ0 1059 yJ3_checkIndex_8e157, Cond.static yJ3_checkIndex_8e157, Cond.initialized RJ3, Cond.code yJ3_checkIndex_8e157 cJ3_checkIndex_8e157 3 (some .int), Cond.methodLink RJ0 498 yJ2_charAt_3b067, Cond.static yJ2_charAt_3b067, Cond.initialized RJ2, Cond.code yJ2_charAt_3b067 cJ2_charAt_3b067 2 (some .char), Cond.methodLink RJ2 67 yJ2_checkIndex_2214a, Cond.static yJ2_checkIndex_2214a, Cond.code yJ2_checkIndex_2214a cJ2_checkIndex_2214a 2 none, Cond.methodLink RJ2 48 yJ2_length_9d52b, Cond.static yJ2_length_9d52b, Cond.code yJ2_length_9d52b cJ2_length_9d52b 1 (some .int), Cond.methodLink RJ2 414 yJ0_checkIndex_df160, Cond.methodLink RJ2 71 yJ2_getChar_3b067, Cond.static yJ2_getChar_3b067, Cond.code yJ2_getChar_3b067 cJ2_getChar_3b067 2 (some .char), Cond.fieldLink RJ2 44 "java/lang/StringUTF16" "$assertionsDisabled" "Z", Cond.fieldLink RJ2 59 "java/lang/StringUTF16" "HI_BYTE_SHIFT" "I"]
def wsL_law_r12 : List Cond := [Cond.fieldLink RJ2 63 "java/lang/StringUTF16" "LO_BYTE_SHIFT" "I", Cond.methodLink RX4 53 yX4_readPiece, Cond.instanceMethod yX4_readPiece, Cond.selects RX4 yX4_readPiece yX4_readPiece, Cond.code yX4_readPiece cX4_readPiece 2 none, Cond.fieldLink RX4 78 "ForeRain$Told" "water" "[I", Cond.fieldLink RX4 86 "ForeRain$Told" "wide" "[I", Cond.fieldLink RX4 89 "ForeRain$Told" "cloth" "[I", Cond.methodLink RX4 82 yX4_readNumber, Cond.instanceMethod yX4_readNumber, Cond.selects RX4 yX4_readNumber yX4_readNumber, Cond.code yX4_readNumber cX4_readNumber 3 (some .int), Cond.methodLink RX4 61 yX4_readSpot, Cond.instanceMethod yX4_readSpot, Cond.selects RX4 yX4_readSpot yX4_readSpot, Cond.code yX4_readSpot cX4_readSpot 2 none, Cond.fieldLink RX4 92 "ForeRain$Told" "room" "[I", Cond.fieldLink RX4 95 "ForeRain$Told" "wind" "[I", Cond.methodLink RX4 66 yX4_readSteps, Cond.instanceMethod yX4_readSteps, Cond.selects RX4 yX4_readSteps yX4_readSteps, Cond.code yX4_readSteps cX4_readSteps 6 none, Cond.fieldLink RX4 98 "ForeRain$Told" "steps" "I", Cond.fieldLink RX4 101 "ForeRain$Told" "suns" "[I"]
def wsL_law_r13 : List Cond := [Cond.methodLink RX4 75 yX4_readSemicolon, Cond.instanceMethod yX4_readSemicolon, Cond.selects RX4 yX4_readSemicolon yX4_readSemicolon, Cond.code yX4_readSemicolon cX4_readSemicolon 1 none, Cond.methodLink RX7 97 yX6_copy, Cond.instanceMethod yX6_copy, Cond.selects RX6 yX6_copy yX6_copy, Cond.code yX6_copy cX6_copy 2 none, Cond.methodLink RX6 40 arraycopyName, Cond.native arraycopyName, Cond.static arraycopyName, Cond.initialized "java/lang/System", Cond.methodLink RX7 100 yX3_begin, Cond.instanceMethod yX3_begin, Cond.selects RX3 yX3_begin yX3_begin, Cond.code yX3_begin cX3_begin 2 none, Cond.fieldLink RX3 29 "ForeRain$Moment" "step" "I", Cond.fieldLink RX3 33 "ForeRain$Moment" "damp" "I", Cond.fieldLink RX3 36 "ForeRain$Told" "pieces" "I", Cond.fieldLink RX3 41 "ForeRain$Told" "water" "[I", Cond.methodLink RL 28 yX8_day, Cond.instanceMethod yX8_day, Cond.selects RX8 yX8_day yX8_day, Cond.code yX8_day cX8_day 3 (some .int)]
def wsL_law_r14 : List Cond := [Cond.fieldLink RX8 76 "ForeRainModel" "at" "I", Cond.fieldLink RX8 96 "ForeRainModel" "fault" "I", Cond.fieldLink RX8 89 "ForeRainModel" "sort" "I", Cond.methodLink RX8 99 yX8_next, Cond.instanceMethod yX8_next, Cond.selects RX8 yX8_next yX8_next, Cond.code yX8_next cX8_next 3 none, Cond.fieldLink RX8 83 "ForeRainModel" "start" "I", Cond.fieldLink RX8 86 "ForeRainModel" "value" "I", Cond.methodLink RX8 79 yX8_here, Cond.instanceMethod yX8_here, Cond.selects RX8 yX8_here yX8_here, Cond.code yX8_here cX8_here 1 (some .int), Cond.methodLink RX8 92 yX8_meaning, Cond.static yX8_meaning, Cond.code yX8_meaning cX8_meaning 1 (some .int), Cond.methodLink RX8 110 yX8_readItem, Cond.instanceMethod yX8_readItem, Cond.selects RX8 yX8_readItem yX8_readItem, Cond.code yX8_readItem cX8_readItem 5 none, Cond.methodLink RX8 102 yX8_due, Cond.instanceMethod yX8_due, Cond.selects RX8 yX8_due yX8_due, Cond.code yX8_due cX8_due 3 (some .int)]
def wsL_law_r15 : List Cond := [Cond.methodLink RX8 106 yX8_number, Cond.instanceMethod yX8_number, Cond.selects RX8 yX8_number yX8_number, Cond.code yX8_number cX8_number 3 (some .int), Cond.methodLink RX8 113 yX8_anew, Cond.instanceMethod yX8_anew, Cond.selects RX8 yX8_anew yX8_anew, Cond.code yX8_anew cX8_anew 3 (some .int), Cond.methodLink RL 29 yX7_piece, Cond.instanceMethod yX7_piece, Cond.selects RX7 yX7_piece yX7_piece, Cond.code yX7_piece cX7_piece 3 (some .int), Cond.fieldLink RX7 107 "ForeRain$Moment" "water" "[I", Cond.fieldLink RX7 111 "ForeRain$Told" "wide" "[I", Cond.fieldLink RX7 114 "ForeRain$Told" "cloth" "[I", Cond.fieldLink RX7 117 "ForeRain$Moment" "age" "[I", Cond.fieldLink RX7 120 "ForeRain$Moment" "smells" "[Z", Cond.fieldLink RX7 123 "ForeRain$Moment" "place" "[I", Cond.methodLink RX7 103 yX7_isPiece, Cond.instanceMethod yX7_isPiece, Cond.selects RX7 yX7_isPiece yX7_isPiece, Cond.code yX7_isPiece cX7_isPiece 2 (some .boolean), Cond.fieldLink RX7 215 "ForeRain$Told" "pieces" "I", Cond.methodLink RL 33 yX8_piece]
def wsL_law_r16 : List Cond := [Cond.instanceMethod yX8_piece, Cond.selects RX8 yX8_piece yX8_piece, Cond.code yX8_piece cX8_piece 3 (some .int), Cond.methodLink RX8 116 yX8_isPiece, Cond.instanceMethod yX8_isPiece, Cond.selects RX8 yX8_isPiece yX8_isPiece, Cond.code yX8_isPiece cX8_isPiece 2 (some .boolean), Cond.methodLink RL 34 yX7_spot, Cond.instanceMethod yX7_spot, Cond.selects RX7 yX7_spot yX7_spot, Cond.code yX7_spot cX7_spot 3 (some .int), Cond.fieldLink RX7 129 "ForeRain$Told" "room" "[I", Cond.fieldLink RX7 132 "ForeRain$Told" "wind" "[I", Cond.methodLink RX7 126 yX7_isSpot, Cond.instanceMethod yX7_isSpot, Cond.selects RX7 yX7_isSpot yX7_isSpot, Cond.code yX7_isSpot cX7_isSpot 2 (some .boolean), Cond.fieldLink RX7 209 "ForeRain$Told" "spots" "I", Cond.methodLink RX7 135 yX3_pieceAt, Cond.instanceMethod yX3_pieceAt, Cond.selects RX3 yX3_pieceAt yX3_pieceAt, Cond.code yX3_pieceAt cX3_pieceAt 3 (some .int), Cond.methodLink RL 37 yX8_spot, Cond.instanceMethod yX8_spot]
def wsL_law_r17 : List Cond := [Cond.selects RX8 yX8_spot yX8_spot, Cond.code yX8_spot cX8_spot 3 (some .int), Cond.methodLink RX8 120 yX8_isSpot, Cond.instanceMethod yX8_isSpot, Cond.selects RX8 yX8_isSpot yX8_isSpot, Cond.code yX8_isSpot cX8_isSpot 2 (some .boolean), Cond.methodLink RX8 123 yX8_pieceOn, Cond.instanceMethod yX8_pieceOn, Cond.selects RX8 yX8_pieceOn yX8_pieceOn, Cond.code yX8_pieceOn cX8_pieceOn 4 (some .int), Cond.methodLink RL 38 yX7_sky, Cond.instanceMethod yX7_sky, Cond.selects RX7 yX7_sky yX7_sky, Cond.code yX7_sky cX7_sky 2 (some .int), Cond.constant RX7 142 (-1000000), Cond.methodLink RX7 139 yX6_skyIn, Cond.instanceMethod yX6_skyIn, Cond.selects RX6 yX6_skyIn yX6_skyIn, Cond.code yX6_skyIn cX6_skyIn 2 (some .int), Cond.methodLink RL 42 yX8_sky, Cond.instanceMethod yX8_sky, Cond.selects RX8 yX8_sky yX8_sky, Cond.code yX8_sky cX8_sky 2 (some .int), Cond.constant RX8 129 (-1000000)]
def wsL_law_r18 : List Cond := [Cond.methodLink RX8 126 yX8_skyAt, Cond.instanceMethod yX8_skyAt, Cond.selects RX8 yX8_skyAt yX8_skyAt, Cond.code yX8_skyAt cX8_skyAt 2 (some .int), Cond.methodLink RL 43 yX7_hang, Cond.instanceMethod yX7_hang, Cond.selects RX7 yX7_hang yX7_hang, Cond.code yX7_hang cX7_hang 3 (some .int), Cond.methodLink RX7 143 yX6_fits, Cond.instanceMethod yX6_fits, Cond.selects RX6 yX6_fits yX6_fits, Cond.code yX6_fits cX6_fits 3 (some .boolean), Cond.methodLink RL 46 yX8_hang, Cond.instanceMethod yX8_hang, Cond.selects RX8 yX8_hang yX8_hang, Cond.code yX8_hang cX8_hang 3 (some .int), Cond.methodLink RL 47 yX7_rack, Cond.instanceMethod yX7_rack, Cond.selects RX7 yX7_rack yX7_rack, Cond.code yX7_rack cX7_rack 2 (some .int), Cond.methodLink RX7 147 yX3_onRack, Cond.instanceMethod yX3_onRack, Cond.selects RX3 yX3_onRack yX3_onRack, Cond.code yX3_onRack cX3_onRack 3 (some .int)]
def wsL_law_r19 : List Cond := [Cond.methodLink RL 50 yX8_rack, Cond.instanceMethod yX8_rack, Cond.selects RX8 yX8_rack yX8_rack, Cond.code yX8_rack cX8_rack 2 (some .int), Cond.methodLink RX8 130 yX8_rackedNow, Cond.instanceMethod yX8_rackedNow, Cond.selects RX8 yX8_rackedNow yX8_rackedNow, Cond.code yX8_rackedNow cX8_rackedNow 3 (some .int), Cond.methodLink RL 51 yX7_basket, Cond.instanceMethod yX7_basket, Cond.selects RX7 yX7_basket yX7_basket, Cond.code yX7_basket cX7_basket 2 (some .int), Cond.methodLink RL 54 yX8_basket, Cond.instanceMethod yX8_basket, Cond.selects RX8 yX8_basket yX8_basket, Cond.code yX8_basket cX8_basket 2 (some .int), Cond.methodLink RL 55 yX7_go, Cond.instanceMethod yX7_go, Cond.selects RX7 yX7_go yX7_go, Cond.code yX7_go cX7_go 4 (some .int), Cond.fieldLink RX7 150 "ForeRain$Moment" "step" "I", Cond.methodLink RX7 153 yX3_pass, Cond.instanceMethod yX3_pass, Cond.selects RX3 yX3_pass yX3_pass]
def wsL_law_r20 : List Cond := [Cond.code yX3_pass cX3_pass 5 (some .int), Cond.methodLink RX3 46 Lib.Math.max.name, Cond.static Lib.Math.max.name, Cond.code Lib.Math.max.name Lib.Math.max.code 2 (some .int), Cond.methodLink RX3 42 yX6_skyIn, Cond.methodLink RX3 52 yX3_hangs, Cond.instanceMethod yX3_hangs, Cond.selects RX3 yX3_hangs yX3_hangs, Cond.code yX3_hangs cX3_hangs 2 (some .boolean), Cond.fieldLink RX3 73 "ForeRain$Told" "spots" "I", Cond.methodLink RX3 56 yX6_soaked, Cond.instanceMethod yX6_soaked, Cond.selects RX6 yX6_soaked yX6_soaked, Cond.code yX6_soaked cX6_soaked 5 (some .int), Cond.methodLink RX6 50 Lib.Math.min.name, Cond.methodLink RX3 60 yX3_pull, Cond.instanceMethod yX3_pull, Cond.selects RX3 yX3_pull yX3_pull, Cond.code yX3_pull cX3_pull 3 (some .int), Cond.fieldLink RX3 67 "ForeRain$Told" "wind" "[I", Cond.fieldLink RX3 70 "ForeRain$Told" "cloth" "[I", Cond.methodLink RX3 63 yX3_grow, Cond.instanceMethod yX3_grow, Cond.selects RX3 yX3_grow yX3_grow]
def wsL_law_r21 : List Cond := [Cond.code yX3_grow cX3_grow 2 none, Cond.methodLink RL 58 yX8_go, Cond.instanceMethod yX8_go, Cond.selects RX8 yX8_go yX8_go, Cond.code yX8_go cX8_go 4 (some .int), Cond.methodLink RX8 137 yX8_goStep, Cond.instanceMethod yX8_goStep, Cond.selects RX8 yX8_goStep yX8_goStep, Cond.code yX8_goStep cX8_goStep 7 (some .int), Cond.methodLink RX8 133 yX8_losesOn, Cond.instanceMethod yX8_losesOn, Cond.selects RX8 yX8_losesOn yX8_losesOn, Cond.code yX8_losesOn cX8_losesOn 6 (some .int), Cond.methodLink RL 59 yX7_now, Cond.instanceMethod yX7_now, Cond.selects RX7 yX7_now yX7_now, Cond.code yX7_now cX7_now 2 (some .int), Cond.fieldLink RX7 156 "ForeRain$Moment" "damp" "I", Cond.methodLink RX7 159 yX3_allWater, Cond.instanceMethod yX3_allWater, Cond.selects RX3 yX3_allWater yX3_allWater, Cond.code yX3_allWater cX3_allWater 3 (some .int), Cond.methodLink RX7 162 yX3_onLine, Cond.instanceMethod yX3_onLine]
def wsL_law_r22 : List Cond := [Cond.selects RX3 yX3_onLine yX3_onLine, Cond.code yX3_onLine cX3_onLine 3 (some .int), Cond.methodLink RX7 165 yX3_howManyDry, Cond.instanceMethod yX3_howManyDry, Cond.selects RX3 yX3_howManyDry yX3_howManyDry, Cond.code yX3_howManyDry cX3_howManyDry 3 (some .int), Cond.methodLink RX7 168 yX3_howManySmell, Cond.instanceMethod yX3_howManySmell, Cond.selects RX3 yX3_howManySmell yX3_howManySmell, Cond.code yX3_howManySmell cX3_howManySmell 3 (some .int), Cond.methodLink RL 62 yX8_now, Cond.instanceMethod yX8_now, Cond.selects RX8 yX8_now yX8_now, Cond.code yX8_now cX8_now 6 (some .int), Cond.methodLink RX8 140 yX8_allWater, Cond.instanceMethod yX8_allWater, Cond.selects RX8 yX8_allWater yX8_allWater, Cond.code yX8_allWater cX8_allWater 4 (some .int), Cond.methodLink RL 63 yX7_anew, Cond.instanceMethod yX7_anew, Cond.selects RX7 yX7_anew yX7_anew, Cond.code yX7_anew cX7_anew 2 (some .int), Cond.methodLink RL 66 yX8_anew, Cond.methodLink RL 67 yX7_when]
def wsL_law_r23 : List Cond := [Cond.instanceMethod yX7_when, Cond.selects RX7 yX7_when yX7_when, Cond.code yX7_when cX7_when 2 (some .int), Cond.methodLink RX7 171 yX7_firstOrLast, Cond.instanceMethod yX7_firstOrLast, Cond.selects RX7 yX7_firstOrLast yX7_firstOrLast, Cond.code yX7_firstOrLast cX7_firstOrLast 7 (some .int), Cond.methodLink RX7 206 yX3_copy, Cond.instanceMethod yX3_copy, Cond.selects RX3 yX3_copy yX3_copy, Cond.code yX3_copy cX3_copy 3 none, Cond.methodLink RL 70 yX8_when, Cond.instanceMethod yX8_when, Cond.selects RX8 yX8_when yX8_when, Cond.code yX8_when cX8_when 3 (some .int), Cond.methodLink RX8 143 yX8_copy, Cond.instanceMethod yX8_copy, Cond.selects RX8 yX8_copy yX8_copy, Cond.code yX8_copy cX8_copy 4 none, Cond.methodLink RL 71 yX7_damp, Cond.instanceMethod yX7_damp, Cond.selects RX7 yX7_damp yX7_damp, Cond.code yX7_damp cX7_damp 5 (some .int), Cond.methodLink RL 75 yX8_damp]
def wsL_law_r24 : List Cond := [Cond.instanceMethod yX8_damp, Cond.selects RX8 yX8_damp yX8_damp, Cond.code yX8_damp cX8_damp 8 (some .int), Cond.methodLink RL 76 yX7_where, Cond.instanceMethod yX7_where, Cond.selects RX7 yX7_where yX7_where, Cond.code yX7_where cX7_where 3 (some .int), Cond.fieldLink RX7 179 "ForeRain$Hanging" "least" "I", Cond.fieldLink RX7 182 "ForeRain$Hanging" "best" "[I", Cond.methodLink RX7 175 yX1_search, Cond.instanceMethod yX1_search, Cond.selects RX1 yX1_search yX1_search, Cond.code yX1_search cX1_search 3 none, Cond.fieldLink RX1 41 "ForeRain$Hanging" "steps" "I", Cond.constant RX1 45 (1000000), Cond.fieldLink RX1 46 "ForeRain$Hanging" "least" "I", Cond.methodLink RX1 49 yX1_findLowest, Cond.instanceMethod yX1_findLowest, Cond.selects RX1 yX1_findLowest yX1_findLowest, Cond.code yX1_findLowest cX1_findLowest 4 none, Cond.fieldLink RX1 56 "ForeRain$Told" "pieces" "I", Cond.fieldLink RX1 61 "ForeRain$Moment" "water" "[I", Cond.fieldLink RX1 66 "ForeRain$Told" "spots" "I", Cond.methodLink RX1 77 Lib.Math.min.name]
def wsL_law_r25 : List Cond := [Cond.methodLink RX1 69 yX6_fits, Cond.methodLink RX1 73 yX1_withoutDamp, Cond.instanceMethod yX1_withoutDamp, Cond.selects RX1 yX1_withoutDamp yX1_withoutDamp, Cond.code yX1_withoutDamp cX1_withoutDamp 4 (some .int), Cond.fieldLink RX1 86 "ForeRain$Moment" "place" "[I", Cond.fieldLink RX1 89 "ForeRain$Moment" "damp" "I", Cond.methodLink RX1 82 yX3_copy, Cond.methodLink RX1 92 yX3_pass, Cond.methodLink RX1 52 yX1_tryFrom, Cond.static yX1_tryFrom, Cond.code yX1_tryFrom cX1_tryFrom 6 none, Cond.methodLink RX1 96 yX1_weigh, Cond.instanceMethod yX1_weigh, Cond.selects RX1 yX1_weigh yX1_weigh, Cond.code yX1_weigh cX1_weigh 2 none, Cond.methodLink RX1 102 arraycopyName, Cond.methodLink RX1 99 yX3_allWater, Cond.methodLink RL 79 yX8_where, Cond.instanceMethod yX8_where, Cond.selects RX8 yX8_where yX8_where, Cond.code yX8_where cX8_where 8 (some .int), Cond.methodLink RX8 147 yX8_isPlaced, Cond.instanceMethod yX8_isPlaced]
def wsL_law_r26 : List Cond := [Cond.selects RX8 yX8_isPlaced yX8_isPlaced, Cond.code yX8_isPlaced cX8_isPlaced 6 (some .boolean), Cond.methodLink RL 80 yX7_order, Cond.instanceMethod yX7_order, Cond.selects RX7 yX7_order yX7_order, Cond.code yX7_order cX7_order 3 (some .int), Cond.fieldLink RX7 186 "ForeRain$TakingIn" "least" "I", Cond.fieldLink RX7 187 "ForeRain$TakingIn" "hung" "I", Cond.fieldLink RX7 190 "ForeRain$TakingIn" "best" "[I", Cond.methodLink RX7 185 yX5_search, Cond.instanceMethod yX5_search, Cond.selects RX5 yX5_search yX5_search, Cond.code yX5_search cX5_search 3 none, Cond.fieldLink RX5 30 "ForeRain$TakingIn" "rain" "I", Cond.fieldLink RX5 40 "ForeRain$TakingIn" "hung" "I", Cond.constant RX5 43 (1000000), Cond.fieldLink RX5 44 "ForeRain$TakingIn" "least" "I", Cond.methodLink RX5 34 yX3_onLine, Cond.methodLink RX5 47 yX3_allWater, Cond.methodLink RX5 50 yX5_tryFrom, Cond.static yX5_tryFrom, Cond.code yX5_tryFrom cX5_tryFrom 6 none, Cond.fieldLink RX5 58 "ForeRain$Told" "pieces" "I", Cond.fieldLink RX5 67 "ForeRain$Moment" "water" "[I"]
def wsL_law_r27 : List Cond := [Cond.methodLink RX5 54 yX5_weigh, Cond.instanceMethod yX5_weigh, Cond.selects RX5 yX5_weigh yX5_weigh, Cond.code yX5_weigh cX5_weigh 2 none, Cond.methodLink RX5 74 arraycopyName, Cond.methodLink RX5 63 yX3_hangs, Cond.methodLink RX5 70 yX6_soaked, Cond.methodLink RL 83 yX8_order, Cond.instanceMethod yX8_order, Cond.selects RX8 yX8_order yX8_order, Cond.code yX8_order cX8_order 10 (some .int), Cond.methodLink RX8 150 yX8_hanging, Cond.instanceMethod yX8_hanging, Cond.selects RX8 yX8_hanging yX8_hanging, Cond.code yX8_hanging cX8_hanging 3 (some .int), Cond.methodLink RX8 153 yX8_bitsIn, Cond.static yX8_bitsIn, Cond.code yX8_bitsIn cX8_bitsIn 3 (some .int), Cond.methodLink RX8 156 yX8_isRow, Cond.instanceMethod yX8_isRow, Cond.selects RX8 yX8_isRow yX8_isRow, Cond.code yX8_isRow cX8_isRow 7 (some .boolean), Cond.methodLink RX8 159 yX8_waterBy, Cond.instanceMethod yX8_waterBy]
def wsL_law_r28 : List Cond := [Cond.selects RX8 yX8_waterBy yX8_waterBy, Cond.code yX8_waterBy cX8_waterBy 7 (some .int), Cond.methodLink RL 84 yX7_odds, Cond.instanceMethod yX7_odds, Cond.selects RX7 yX7_odds yX7_odds, Cond.code yX7_odds cX7_odds 6 (some .long), Cond.constantLong RX7 191 (-1), Cond.constantLong RX7 193 (-2), Cond.methodLink RX7 195 yX7_stepsWithoutRain, Cond.instanceMethod yX7_stepsWithoutRain, Cond.selects RX7 yX7_stepsWithoutRain yX7_stepsWithoutRain, Cond.code yX7_stepsWithoutRain cX7_stepsWithoutRain 2 (some .int), Cond.methodLink RX7 212 yX3_wetOnLine, Cond.instanceMethod yX3_wetOnLine, Cond.selects RX3 yX3_wetOnLine yX3_wetOnLine, Cond.code yX3_wetOnLine cX3_wetOnLine 3 (some .int), Cond.methodLink RX7 198 yX7_commonDivisor, Cond.static yX7_commonDivisor, Cond.code yX7_commonDivisor cX7_commonDivisor 3 (some .int), Cond.methodLink RX7 202 yX7_power, Cond.static yX7_power, Cond.code yX7_power cX7_power 5 (some .long), Cond.methodLink RL 88 yX8_odds, Cond.instanceMethod yX8_odds]
def wsL_law_r29 : List Cond := [Cond.selects RX8 yX8_odds yX8_odds, Cond.code yX8_odds cX8_odds 13 (some .long), Cond.constantLong RX8 162 (-1), Cond.constantLong RX8 164 (-2), Cond.methodLink RX8 166 yX8_isDry, Cond.instanceMethod yX8_isDry, Cond.selects RX8 yX8_isDry yX8_isDry, Cond.code yX8_isDry cX8_isDry 5 (some .boolean), Cond.methodLink RX8 170 yX8_common, Cond.static yX8_common, Cond.code yX8_common cX8_common 10 (some .long), Cond.methodLink RL 89 yX7_roomFor, Cond.instanceMethod yX7_roomFor, Cond.selects RX7 yX7_roomFor yX7_roomFor, Cond.code yX7_roomFor cX7_roomFor 3 (some .int), Cond.methodLink RL 92 yX8_roomFor, Cond.instanceMethod yX8_roomFor, Cond.selects RX8 yX8_roomFor yX8_roomFor, Cond.code yX8_roomFor cX8_roomFor 6 (some .int), Cond.methodLink RL 93 yX7_pegs, Cond.instanceMethod yX7_pegs, Cond.selects RX7 yX7_pegs yX7_pegs, Cond.code yX7_pegs cX7_pegs 5 (some .int), Cond.methodLink RL 96 yX8_pegs]
def wsL_law_r30 : List Cond := [Cond.instanceMethod yX8_pegs, Cond.selects RX8 yX8_pegs yX8_pegs, Cond.code yX8_pegs cX8_pegs 4 (some .int), Cond.methodLink RL 97 yX7_coins, Cond.instanceMethod yX7_coins, Cond.selects RX7 yX7_coins yX7_coins, Cond.code yX7_coins cX7_coins 4 (some .int), Cond.methodLink RL 100 yX8_coins, Cond.instanceMethod yX8_coins, Cond.selects RX8 yX8_coins yX8_coins, Cond.code yX8_coins cX8_coins 4 (some .int), Cond.methodLink RL 101 yX7_held, Cond.instanceMethod yX7_held, Cond.selects RX7 yX7_held yX7_held, Cond.code yX7_held cX7_held 4 (some .int), Cond.fieldLink RX7 218 "ForeRain$Days" "number" "I", Cond.methodLink RX7 221 yX0_add, Cond.instanceMethod yX0_add, Cond.selects RX0 yX0_add yX0_add, Cond.code yX0_add cX0_add 4 none, Cond.fieldLink RX0 19 "ForeRain$Days" "number" "I", Cond.methodLink RX0 23 yX0_addOf, Cond.instanceMethod yX0_addOf, Cond.selects RX0 yX0_addOf yX0_addOf]
def wsL_law_r31 : List Cond := [Cond.code yX0_addOf cX0_addOf 4 none, Cond.methodLink RL 105 yX8_held, Cond.instanceMethod yX8_held, Cond.selects RX8 yX8_held yX8_held, Cond.code yX8_held cX8_held 4 (some .int), Cond.fieldLink RX8 174 "ForeRainModel" "days" "I", Cond.methodLink RL 106 yX7_right, Cond.instanceMethod yX7_right, Cond.selects RX7 yX7_right yX7_right, Cond.code yX7_right cX7_right 2 (some .int), Cond.fieldLink RX7 225 "ForeRain$Days" "rights" "[I", Cond.methodLink RL 109 yX8_right, Cond.instanceMethod yX8_right, Cond.selects RX8 yX8_right yX8_right, Cond.code yX8_right cX8_right 2 (some .int), Cond.methodLink RX8 177 yX8_rightOf, Cond.instanceMethod yX8_rightOf, Cond.selects RX8 yX8_rightOf yX8_rightOf, Cond.code yX8_rightOf cX8_rightOf 4 (some .int), Cond.methodLink RL 110 yX7_better, Cond.instanceMethod yX7_better, Cond.selects RX7 yX7_better yX7_better, Cond.code yX7_better cX7_better 1 (some .int), Cond.methodLink RL 113 yX8_better]
def wsL_law_r32 : List Cond := [Cond.instanceMethod yX8_better, Cond.selects RX8 yX8_better yX8_better, Cond.code yX8_better cX8_better 1 (some .int), Cond.methodLink RL 114 yX7_trust, Cond.instanceMethod yX7_trust, Cond.selects RX7 yX7_trust yX7_trust, Cond.code yX7_trust cX7_trust 5 (some .int), Cond.fieldLink RX7 228 "ForeRain$Days" "saidRain" "[I", Cond.fieldLink RX7 231 "ForeRain$Days" "rainCame" "[I", Cond.methodLink RL 117 yX8_trust, Cond.instanceMethod yX8_trust, Cond.selects RX8 yX8_trust yX8_trust, Cond.code yX8_trust cX8_trust 6 (some .int), Cond.methodLink RL 118 yX7_mark, Cond.instanceMethod yX7_mark, Cond.selects RX7 yX7_mark yX7_mark, Cond.code yX7_mark cX7_mark 3 (some .int), Cond.methodLink RX7 234 yX2_as, Cond.instanceMethod yX2_as, Cond.selects RX2 yX2_as yX2_as, Cond.code yX2_as cX2_as 3 (some .int), Cond.methodLink RX2 17 yX2_asWet, Cond.instanceMethod yX2_asWet, Cond.selects RX2 yX2_asWet yX2_asWet]
def wsL_law_r33 : List Cond := [Cond.code yX2_asWet cX2_asWet 2 (some .int), Cond.fieldLink RX2 36 "ForeRain$Marks" "trace" "J", Cond.constantLong RX2 46 (10), Cond.methodLink RX2 33 yX2_asPiece, Cond.instanceMethod yX2_asPiece, Cond.selects RX2 yX2_asPiece yX2_asPiece, Cond.code yX2_asPiece cX2_asPiece 2 (some .int), Cond.fieldLink RX2 40 "ForeRain$Moment" "water" "[I", Cond.methodLink RX2 21 yX2_asDrying, Cond.instanceMethod yX2_asDrying, Cond.selects RX2 yX2_asDrying yX2_asDrying, Cond.code yX2_asDrying cX2_asDrying 2 (some .int), Cond.constantLong RX2 48 (100), Cond.fieldLink RX2 50 "ForeRain$Told" "cloth" "[I", Cond.methodLink RX2 24 yX2_asRainedOn, Cond.instanceMethod yX2_asRainedOn, Cond.selects RX2 yX2_asRainedOn yX2_asRainedOn, Cond.code yX2_asRainedOn cX2_asRainedOn 2 (some .int), Cond.constantLong RX2 55 (1000), Cond.fieldLink RX2 57 "ForeRain$Told" "wide" "[I", Cond.methodLink RX2 27 yX2_asSmelling, Cond.instanceMethod yX2_asSmelling, Cond.selects RX2 yX2_asSmelling yX2_asSmelling, Cond.code yX2_asSmelling cX2_asSmelling 2 (some .int)]
def wsL_law_r34 : List Cond := [Cond.constantLong RX2 60 (10000), Cond.fieldLink RX2 62 "ForeRain$Moment" "age" "[I", Cond.methodLink RX2 30 yX2_asFrozen, Cond.instanceMethod yX2_asFrozen, Cond.selects RX2 yX2_asFrozen yX2_asFrozen, Cond.code yX2_asFrozen cX2_asFrozen 2 (some .int), Cond.constantLong RX2 65 (100000), Cond.fieldLink RX2 67 "ForeRain$Moment" "step" "I", Cond.methodLink RL 121 yX8_mark, Cond.instanceMethod yX8_mark, Cond.selects RX8 yX8_mark yX8_mark, Cond.code yX8_mark cX8_mark 4 (some .int), Cond.fieldLink RX8 180 "ForeRainModel" "trace" "J", Cond.constantLong RX8 184 (11), Cond.constantLong RX8 186 (101), Cond.constantLong RX8 188 (1011), Cond.constantLong RX8 190 (10101), Cond.constantLong RX8 192 (100001), Cond.methodLink RL 122 yX7_keep, Cond.instanceMethod yX7_keep, Cond.selects RX7 yX7_keep yX7_keep, Cond.code yX7_keep cX7_keep 2 (some .int), Cond.methodLink RL 125 yX8_keep, Cond.instanceMethod yX8_keep]
def wsL_law_r35 : List Cond := [Cond.selects RX8 yX8_keep yX8_keep, Cond.code yX8_keep cX8_keep 2 (some .int), Cond.methodLink RL 126 yX7_back, Cond.instanceMethod yX7_back, Cond.selects RX7 yX7_back yX7_back, Cond.code yX7_back cX7_back 2 (some .int), Cond.methodLink RL 129 yX8_back, Cond.instanceMethod yX8_back, Cond.selects RX8 yX8_back yX8_back, Cond.code yX8_back cX8_back 2 (some .int), Cond.methodLink RL 130 yX7_count, Cond.instanceMethod yX7_count, Cond.selects RX7 yX7_count yX7_count, Cond.code yX7_count cX7_count 2 (some .int), Cond.fieldLink RX7 237 "ForeRain$Told" "steps" "I", Cond.methodLink RL 133 yX8_count, Cond.instanceMethod yX8_count, Cond.selects RX8 yX8_count yX8_count, Cond.code yX8_count cX8_count 2 (some .int), Cond.methodLink RL 134 yX7_trace, Cond.instanceMethod yX7_trace, Cond.selects RX7 yX7_trace yX7_trace, Cond.code yX7_trace cX7_trace 1 (some .long), Cond.fieldLink RX7 240 "ForeRain$Marks" "trace" "J"]
def wsL_law_r36 : List Cond := [Cond.methodLink RL 138 yX8_trace, Cond.instanceMethod yX8_trace, Cond.selects RX8 yX8_trace yX8_trace, Cond.code yX8_trace cX8_trace 1 (some .long)]
def wsL_law : List Cond := (wsL_law_r1 ++ (wsL_law_r2 ++ (wsL_law_r3 ++ (wsL_law_r4 ++ (wsL_law_r5 ++ (wsL_law_r6 ++ (wsL_law_r7 ++ (wsL_law_r8 ++ (wsL_law_r9 ++ (wsL_law_r10 ++ (wsL_law_r11 ++ (wsL_law_r12 ++ (wsL_law_r13 ++ (wsL_law_r14 ++ (wsL_law_r15 ++ (wsL_law_r16 ++ (wsL_law_r17 ++ (wsL_law_r18 ++ (wsL_law_r19 ++ (wsL_law_r20 ++ (wsL_law_r21 ++ (wsL_law_r22 ++ (wsL_law_r23 ++ (wsL_law_r24 ++ (wsL_law_r25 ++ (wsL_law_r26 ++ (wsL_law_r27 ++ (wsL_law_r28 ++ (wsL_law_r29 ++ (wsL_law_r30 ++ (wsL_law_r31 ++ (wsL_law_r32 ++ (wsL_law_r33 ++ (wsL_law_r34 ++ (wsL_law_r35 ++ wsL_law_r36))))))))))))))))))))))))))))))))))) ++ wsX70 ++ wsX80 ++ wsX40 ++ wsX60 ++ wsX30 ++ wsX10 ++ wsX50 ++ wsX00 ++ wsX20 ++ ([] : List Cond)
set_option maxRecDepth 20000 in
theorem wsL_law_in : ∀ w ∈ wsL_law, w ∈ lw_tbl := fun w h => (goodIn_p wsL_law [69, 72, 77, 83, 174, 217, 258, 292, 315, 789, 362, 365, 369, 873, 876, 373, 377, 881, 381, 385, 389, 393, 397, 402, 406, 410, 413, 417, 422, 426, 430, 436, 440, 443, 446, 451, 454, 457, 460, 464, 474, 478, 483, 488, 493, 497, 504, 885, 889, 893, 896, 900, 904, 908, 912, 508, 512, 916, 920, 516, 520, 524, 924, 928, 932, 528, 532, 936, 940, 538, 542, 945, 546, 550, 949, 953, 554, 957, 558, 562, 566, 570, 575, 580, 584, 961, 965, 969, 588, 592, 596, 600, 604, 973, 977, 608, 612, 616, 620, 982, 986, 624, 990, 628, 632, 637, 642, 648, 652, 994, 998, 658, 662, 668, 672, 1002, 1006, 1009, 1013, 1017, 679, 685, 689, 692, 695, 1021, 1027, 1030, 699, 1034, 703, 1038, 707, 1042, 711, 715, 719, 1046, 723, 1050, 1054, 727, 1058, 731, 1062, 735, 739, 743, 748, 752, 757, 762, 767, 1066, 772, 1075, 776, 1079, 780, 1083, 784, 1087] (by decide +kernel) (by decide +kernel) w h).1
theorem inlX0 : ∀ w ∈ wsX00, w ∈ wsL_law := fun _ h => List.mem_append_left _ (List.mem_append_left _ (List.mem_append_right _ h))
theorem inX0 : ∀ w ∈ wsX00, w ∈ lw_tbl := fun w h => wsL_law_in w (inlX0 w h)
theorem inlX1 : ∀ w ∈ wsX10, w ∈ wsL_law := fun _ h => List.mem_append_left _ (List.mem_append_left _ (List.mem_append_left _ (List.mem_append_left _ (List.mem_append_right _ h))))
theorem inX1 : ∀ w ∈ wsX10, w ∈ lw_tbl := fun w h => wsL_law_in w (inlX1 w h)
theorem inlX2 : ∀ w ∈ wsX20, w ∈ wsL_law := fun _ h => List.mem_append_left _ (List.mem_append_right _ h)
theorem inX2 : ∀ w ∈ wsX20, w ∈ lw_tbl := fun w h => wsL_law_in w (inlX2 w h)
theorem inlX3 : ∀ w ∈ wsX30, w ∈ wsL_law := fun _ h => List.mem_append_left _ (List.mem_append_left _ (List.mem_append_left _ (List.mem_append_left _ (List.mem_append_left _ (List.mem_append_right _ h)))))
theorem inX3 : ∀ w ∈ wsX30, w ∈ lw_tbl := fun w h => wsL_law_in w (inlX3 w h)
theorem inlX4 : ∀ w ∈ wsX40, w ∈ wsL_law := fun _ h => List.mem_append_left _ (List.mem_append_left _ (List.mem_append_left _ (List.mem_append_left _ (List.mem_append_left _ (List.mem_append_left _ (List.mem_append_left _ (List.mem_append_right _ h)))))))
theorem inX4 : ∀ w ∈ wsX40, w ∈ lw_tbl := fun w h => wsL_law_in w (inlX4 w h)
theorem inlX5 : ∀ w ∈ wsX50, w ∈ wsL_law := fun _ h => List.mem_append_left _ (List.mem_append_left _ (List.mem_append_left _ (List.mem_append_right _ h)))
theorem inX5 : ∀ w ∈ wsX50, w ∈ lw_tbl := fun w h => wsL_law_in w (inlX5 w h)
theorem inlX6 : ∀ w ∈ wsX60, w ∈ wsL_law := fun _ h => List.mem_append_left _ (List.mem_append_left _ (List.mem_append_left _ (List.mem_append_left _ (List.mem_append_left _ (List.mem_append_left _ (List.mem_append_right _ h))))))
theorem inX6 : ∀ w ∈ wsX60, w ∈ lw_tbl := fun w h => wsL_law_in w (inlX6 w h)
theorem inlX7 : ∀ w ∈ wsX70, w ∈ wsL_law := fun _ h => List.mem_append_left _ (List.mem_append_left _ (List.mem_append_left _ (List.mem_append_left _ (List.mem_append_left _ (List.mem_append_left _ (List.mem_append_left _ (List.mem_append_left _ (List.mem_append_left _ (List.mem_append_right _ h)))))))))
theorem inX7 : ∀ w ∈ wsX70, w ∈ lw_tbl := fun w h => wsL_law_in w (inlX7 w h)
theorem inlX8 : ∀ w ∈ wsX80, w ∈ wsL_law := fun _ h => List.mem_append_left _ (List.mem_append_left _ (List.mem_append_left _ (List.mem_append_left _ (List.mem_append_left _ (List.mem_append_left _ (List.mem_append_left _ (List.mem_append_left _ (List.mem_append_right _ h))))))))
theorem inX8 : ∀ w ∈ wsX80, w ∈ lw_tbl := fun w h => wsL_law_in w (inlX8 w h)
theorem inJ9 : ∀ w ∈ wsJ90, w ∈ lw_tbl := by decide +kernel
theorem inJ0 : ∀ w ∈ wsJ00, w ∈ lw_tbl := by decide +kernel
theorem inJ1 : ∀ w ∈ wsJ10, w ∈ lw_tbl := by decide +kernel
theorem inJ2 : ∀ w ∈ wsJ20, w ∈ lw_tbl := by decide +kernel
theorem inJ10 : ∀ w ∈ wsJ100, w ∈ lw_tbl := by decide +kernel
theorem inJ3 : ∀ w ∈ wsJ30, w ∈ lw_tbl := by decide +kernel
set_option maxRecDepth 20000 in
theorem ggL_law_X7_init : GoodIn wsL_law wsX7_init := goodIn_r _ [9, 10, 11, 12, 13, 14, 15, 16, 17, 18, 19, 20, 21, 22, 23, 24, 25, 26, 27, 28, 29, 30, 31, 32, 33, 34, 35, 36, 37, 38, 39, 40, 41, 42, 43, 44, 45, 46, 47, 48, 49, 50, 51, 52, 53, 54, 55, 56, 57, 58, 59, 60, 61, 62, 63, 64, 65, 66, 67, 68, 69, 70, 71, 72, 73, 74, 75, 76, 77, 78, 79, 80, 81, 82, 83, 84, 85, 86, 87, 88, 89, 90, 91, 92, 93, 94, 95, 96, 97, 98, 99, 100, 101, 102, 103, 104, 880, 881, 882, 883, 884, 885, 886, 887, 844, 845, 846, 847, 848, 849, 850, 851, 852, 853, 888, 889, 890, 891, 892, 893, 894, 895, 896, 897, 898, 899, 900, 901, 902, 903, 904, 905, 906, 907, 908, 909, 910, 911, 912, 913, 914, 915, 916, 917, 918, 919, 920, 921, 922, 923, 924, 925, 926, 927, 928] (by decide +kernel) (by decide +kernel)
set_option maxRecDepth 20000 in
theorem gL_law_X7_init : GoodIn wsL_law (wsX7_init) := ggL_law_X7_init
set_option maxRecDepth 20000 in
theorem ggL_law_X8_init : GoodIn wsL_law wsX8_init := goodIn_r _ [107, 108, 11, 12, 48, 109, 55, 110, 111, 112, 113, 114, 115, 116, 117, 118, 119, 27, 120, 121, 122, 123, 124, 125, 126, 854, 855, 856, 857, 858, 859, 860, 861, 862, 863, 864, 865, 866, 867, 868, 869, 870, 871, 872, 873, 874, 875, 876, 877, 878, 879] (by decide +kernel) (by decide +kernel)
set_option maxRecDepth 20000 in
theorem gL_law_X8_init : GoodIn wsL_law (wsX8_init) := ggL_law_X8_init
set_option maxRecDepth 20000 in
theorem ggL_law_X7_type : GoodIn wsL_law wsX7_type := goodIn_r _ [130, 16, 131, 132, 133, 2, 134, 135, 136, 137, 15, 138, 139, 49, 844, 845, 846, 847, 848, 849, 850, 851, 852, 853, 880, 881, 882, 883, 884, 885, 886, 887] (by decide +kernel) (by decide +kernel)
set_option maxRecDepth 20000 in
theorem gL_law_X7_type : GoodIn wsL_law (wsV RL 15 RX7 yX7_type wsX7_type) := goodIn_app (goodIn_of _ (by decide +kernel)) ggL_law_X7_type
set_option maxRecDepth 20000 in
theorem ggL_law_X8_type : GoodIn wsL_law wsX8_type := goodIn_r _ [143, 144, 109, 145, 146, 147, 5, 148, 854, 855, 856, 857, 858, 859, 860, 861, 862, 863, 864, 865, 866, 867, 868, 869, 870, 871, 872, 873, 874, 875, 876, 877, 878, 879] (by decide +kernel) (by decide +kernel)
set_option maxRecDepth 20000 in
theorem gL_law_X8_type : GoodIn wsL_law (wsV RL 19 RX8 yX8_type wsX8_type) := goodIn_app (goodIn_of _ (by decide +kernel)) ggL_law_X8_type
set_option maxRecDepth 20000 in
theorem ggL_law_X7_clear : GoodIn wsL_law wsX7_clear := goodIn_r _ [152, 16, 153, 154, 155, 15, 156, 139, 844, 845, 846, 847, 848, 849, 850, 851, 852, 853, 880, 881, 882, 883, 884, 885, 886, 887] (by decide +kernel) (by decide +kernel)
set_option maxRecDepth 20000 in
theorem gL_law_X7_clear : GoodIn wsL_law (wsV RL 20 RX7 yX7_clear wsX7_clear) := goodIn_app (goodIn_of _ (by decide +kernel)) ggL_law_X7_clear
set_option maxRecDepth 20000 in
theorem ggL_law_X8_clear : GoodIn wsL_law wsX8_clear := goodIn_r _ [160, 144, 854, 855, 856, 857, 858, 859, 860, 861, 862, 863, 864, 865, 866, 867, 868, 869, 870, 871, 872, 873, 874, 875, 876, 877, 878, 879] (by decide +kernel) (by decide +kernel)
set_option maxRecDepth 20000 in
theorem gL_law_X8_clear : GoodIn wsL_law (wsV RL 24 RX8 yX8_clear wsX8_clear) := goodIn_app (goodIn_of _ (by decide +kernel)) ggL_law_X8_clear
set_option maxRecDepth 20000 in
theorem ggL_law_X7_day : GoodIn wsL_law wsX7_day := goodIn_r _ [164, 16, 20, 165, 24, 28, 166, 167, 168, 15, 169, 51, 170, 171, 172, 173, 174, 175, 19, 176, 177, 178, 179, 180, 181, 182, 183, 139, 49, 184, 185, 186, 187, 188, 133, 2, 134, 189, 190, 191, 192, 193, 194, 195, 196, 197, 198, 199, 200, 201, 202, 203, 204, 205, 206, 207, 208, 209, 210, 211, 212, 213, 214, 215, 216, 217, 218, 219, 220, 221, 222, 223, 224, 225, 226, 227, 228, 229, 230, 231, 232, 233, 234, 235, 236, 237, 238, 239, 240, 241, 242, 243, 244, 245, 246, 247, 248, 249, 250, 251, 252, 253, 254, 255, 256, 257, 258, 259, 260, 261, 262, 263, 264, 265, 266, 267, 268, 269, 270, 271, 272, 273, 274, 275, 276, 277, 278, 279, 280, 281, 282, 283, 284, 285, 286, 287, 288, 289, 290, 291, 292, 293, 294, 295, 56, 296, 297, 298, 299, 57, 58, 59, 60, 61, 153, 154, 155, 156, 300, 301, 302, 23, 303, 304, 305, 70, 306, 66, 307, 67, 68, 69, 844, 845, 846, 847, 848, 849, 850, 851, 852, 853, 880, 881, 882, 883, 884, 885, 886, 887, 888, 889, 890, 891, 892, 893, 894, 895, 896, 897, 898, 899, 900, 901, 902, 903] (by decide +kernel) (by decide +kernel)
set_option maxRecDepth 20000 in
theorem gL_law_X7_day : GoodIn wsL_law (wsV RL 25 RX7 yX7_day wsX7_day) := goodIn_app (goodIn_of _ (by decide +kernel)) ggL_law_X7_day
set_option maxRecDepth 20000 in
theorem ggL_law_X8_day : GoodIn wsL_law wsX8_day := goodIn_r _ [311, 312, 313, 110, 114, 117, 314, 111, 112, 113, 115, 116, 118, 120, 144, 315, 316, 317, 5, 318, 319, 320, 321, 322, 323, 324, 109, 146, 147, 148, 325, 326, 327, 328, 329, 330, 331, 332, 333, 334, 335, 336, 337, 338, 339, 340, 341, 342, 343, 119, 854, 855, 856, 857, 858, 859, 860, 861, 862, 863, 864, 865, 866, 867, 868, 869, 870, 871, 872, 873, 874, 875, 876, 877, 878, 879] (by decide +kernel) (by decide +kernel)
set_option maxRecDepth 20000 in
theorem gL_law_X8_day : GoodIn wsL_law (wsV RL 28 RX8 yX8_day wsX8_day) := goodIn_app (goodIn_of _ (by decide +kernel)) ggL_law_X8_day
set_option maxRecDepth 20000 in
theorem ggL_law_X7_piece : GoodIn wsL_law wsX7_piece := goodIn_r _ [347, 24, 348, 20, 349, 350, 351, 352, 353, 354, 355, 356, 2, 357, 358, 132, 133, 134, 844, 845, 846, 847, 848, 849, 850, 851, 852, 853, 897, 898, 899, 900, 901, 902, 903, 888, 889, 890, 891, 892, 893, 894, 895, 896] (by decide +kernel) (by decide +kernel)
set_option maxRecDepth 20000 in
theorem gL_law_X7_piece : GoodIn wsL_law (wsV RL 29 RX7 yX7_piece wsX7_piece) := goodIn_app (goodIn_of _ (by decide +kernel)) ggL_law_X7_piece
set_option maxRecDepth 20000 in
theorem ggL_law_X8_piece : GoodIn wsL_law wsX8_piece := goodIn_r _ [362, 119, 112, 113, 363, 364, 365, 5, 366, 110, 146, 147, 148, 854, 855, 856, 857, 858, 859, 860, 861, 862, 863, 864, 865, 866, 867, 868, 869, 870, 871, 872, 873, 874, 875, 876, 877, 878, 879] (by decide +kernel) (by decide +kernel)
set_option maxRecDepth 20000 in
theorem gL_law_X8_piece : GoodIn wsL_law (wsV RL 33 RX8 yX8_piece wsX8_piece) := goodIn_app (goodIn_of _ (by decide +kernel)) ggL_law_X8_piece
set_option maxRecDepth 20000 in
theorem ggL_law_X7_spot : GoodIn wsL_law wsX7_spot := goodIn_r _ [370, 20, 371, 372, 24, 373, 374, 375, 2, 376, 377, 132, 133, 134, 378, 379, 380, 23, 381, 70, 306, 68, 844, 845, 846, 847, 848, 849, 850, 851, 852, 853, 888, 889, 890, 891, 892, 893, 894, 895, 896, 897, 898, 899, 900, 901, 902, 903] (by decide +kernel) (by decide +kernel)
set_option maxRecDepth 20000 in
theorem gL_law_X7_spot : GoodIn wsL_law (wsV RL 34 RX7 yX7_spot wsX7_spot) := goodIn_app (goodIn_of _ (by decide +kernel)) ggL_law_X7_spot
set_option maxRecDepth 20000 in
theorem ggL_law_X8_spot : GoodIn wsL_law wsX8_spot := goodIn_r _ [385, 115, 116, 386, 387, 388, 5, 389, 114, 146, 147, 148, 390, 391, 392, 393, 110, 119, 854, 855, 856, 857, 858, 859, 860, 861, 862, 863, 864, 865, 866, 867, 868, 869, 870, 871, 872, 873, 874, 875, 876, 877, 878, 879] (by decide +kernel) (by decide +kernel)
set_option maxRecDepth 20000 in
theorem gL_law_X8_spot : GoodIn wsL_law (wsV RL 37 RX8 yX8_spot wsX8_spot) := goodIn_app (goodIn_of _ (by decide +kernel)) ggL_law_X8_spot
set_option maxRecDepth 20000 in
theorem ggL_law_X7_sky : GoodIn wsL_law wsX7_sky := goodIn_r _ [397, 20, 398, 132, 133, 2, 134, 399, 400, 401, 19, 402, 179, 61, 844, 845, 846, 847, 848, 849, 850, 851, 852, 853, 888, 889, 890, 891, 892, 893, 894, 895, 896] (by decide +kernel) (by decide +kernel)
set_option maxRecDepth 20000 in
theorem gL_law_X7_sky : GoodIn wsL_law (wsV RL 38 RX7 yX7_sky wsX7_sky) := goodIn_app (goodIn_of _ (by decide +kernel)) ggL_law_X7_sky
set_option maxRecDepth 20000 in
theorem ggL_law_X8_sky : GoodIn wsL_law wsX8_sky := goodIn_r _ [406, 407, 146, 147, 5, 148, 408, 409, 410, 411, 117, 118, 854, 855, 856, 857, 858, 859, 860, 861, 862, 863, 864, 865, 866, 867, 868, 869, 870, 871, 872, 873, 874, 875, 876, 877, 878, 879] (by decide +kernel) (by decide +kernel)
set_option maxRecDepth 20000 in
theorem gL_law_X8_sky : GoodIn wsL_law (wsV RL 42 RX8 yX8_sky wsX8_sky) := goodIn_app (goodIn_of _ (by decide +kernel)) ggL_law_X8_sky
set_option maxRecDepth 20000 in
theorem ggL_law_X7_hang : GoodIn wsL_law wsX7_hang := goodIn_r _ [415, 24, 20, 353, 354, 355, 356, 2, 357, 358, 132, 133, 134, 373, 374, 375, 376, 377, 378, 379, 380, 23, 381, 70, 306, 68, 416, 417, 418, 19, 419, 57, 59, 844, 845, 846, 847, 848, 849, 850, 851, 852, 853, 897, 898, 899, 900, 901, 902, 903, 888, 889, 890, 891, 892, 893, 894, 895, 896] (by decide +kernel) (by decide +kernel)
set_option maxRecDepth 20000 in
theorem gL_law_X7_hang : GoodIn wsL_law (wsV RL 43 RX7 yX7_hang wsX7_hang) := goodIn_app (goodIn_of _ (by decide +kernel)) ggL_law_X7_hang
set_option maxRecDepth 20000 in
theorem ggL_law_X8_hang : GoodIn wsL_law wsX8_hang := goodIn_r _ [423, 112, 115, 119, 363, 364, 365, 5, 366, 110, 146, 147, 148, 386, 387, 388, 389, 114, 390, 391, 392, 393, 854, 855, 856, 857, 858, 859, 860, 861, 862, 863, 864, 865, 866, 867, 868, 869, 870, 871, 872, 873, 874, 875, 876, 877, 878, 879] (by decide +kernel) (by decide +kernel)
set_option maxRecDepth 20000 in
theorem gL_law_X8_hang : GoodIn wsL_law (wsV RL 46 RX8 yX8_hang wsX8_hang) := goodIn_app (goodIn_of _ (by decide +kernel)) ggL_law_X8_hang
set_option maxRecDepth 20000 in
theorem ggL_law_X7_rack : GoodIn wsL_law wsX7_rack := goodIn_r _ [427, 24, 353, 354, 355, 356, 2, 357, 20, 358, 132, 133, 134, 428, 429, 430, 23, 431, 70, 306, 68, 844, 845, 846, 847, 848, 849, 850, 851, 852, 853, 897, 898, 899, 900, 901, 902, 903, 888, 889, 890, 891, 892, 893, 894, 895, 896] (by decide +kernel) (by decide +kernel)
set_option maxRecDepth 20000 in
theorem gL_law_X7_rack : GoodIn wsL_law (wsV RL 47 RX7 yX7_rack wsX7_rack) := goodIn_app (goodIn_of _ (by decide +kernel)) ggL_law_X7_rack
set_option maxRecDepth 20000 in
theorem ggL_law_X8_rack : GoodIn wsL_law wsX8_rack := goodIn_r _ [435, 119, 363, 364, 365, 5, 366, 110, 146, 147, 148, 436, 437, 438, 439, 854, 855, 856, 857, 858, 859, 860, 861, 862, 863, 864, 865, 866, 867, 868, 869, 870, 871, 872, 873, 874, 875, 876, 877, 878, 879] (by decide +kernel) (by decide +kernel)
set_option maxRecDepth 20000 in
theorem gL_law_X8_rack : GoodIn wsL_law (wsV RL 50 RX8 yX8_rack wsX8_rack) := goodIn_app (goodIn_of _ (by decide +kernel)) ggL_law_X8_rack
set_option maxRecDepth 20000 in
theorem ggL_law_X7_basket : GoodIn wsL_law wsX7_basket := goodIn_r _ [443, 24, 353, 354, 355, 356, 2, 357, 20, 358, 132, 133, 134, 844, 845, 846, 847, 848, 849, 850, 851, 852, 853, 897, 898, 899, 900, 901, 902, 903, 888, 889, 890, 891, 892, 893, 894, 895, 896] (by decide +kernel) (by decide +kernel)
set_option maxRecDepth 20000 in
theorem gL_law_X7_basket : GoodIn wsL_law (wsV RL 51 RX7 yX7_basket wsX7_basket) := goodIn_app (goodIn_of _ (by decide +kernel)) ggL_law_X7_basket
set_option maxRecDepth 20000 in
theorem ggL_law_X8_basket : GoodIn wsL_law wsX8_basket := goodIn_r _ [447, 119, 363, 364, 365, 5, 366, 110, 146, 147, 148, 854, 855, 856, 857, 858, 859, 860, 861, 862, 863, 864, 865, 866, 867, 868, 869, 870, 871, 872, 873, 874, 875, 876, 877, 878, 879] (by decide +kernel) (by decide +kernel)
set_option maxRecDepth 20000 in
theorem gL_law_X8_basket : GoodIn wsL_law (wsV RL 54 RX8 yX8_basket wsX8_basket) := goodIn_app (goodIn_of _ (by decide +kernel)) ggL_law_X8_basket
set_option maxRecDepth 20000 in
theorem ggL_law_X7_go : GoodIn wsL_law wsX7_go := goodIn_r _ [451, 24, 452, 132, 133, 2, 134, 453, 454, 455, 23, 456, 70, 304, 306, 66, 68, 457, 458, 204, 459, 305, 460, 400, 401, 19, 402, 179, 61, 461, 462, 463, 464, 465, 466, 467, 468, 469, 56, 57, 470, 203, 205, 471, 472, 473, 474, 475, 476, 477, 478, 479, 480, 67, 69, 844, 845, 846, 847, 848, 849, 850, 851, 852, 853, 897, 898, 899, 900, 901, 902, 903, 888, 889, 890, 891, 892, 893, 894, 895, 896] (by decide +kernel) (by decide +kernel)
set_option maxRecDepth 20000 in
theorem gL_law_X7_go : GoodIn wsL_law (wsV RL 55 RX7 yX7_go wsX7_go) := goodIn_app (goodIn_of _ (by decide +kernel)) ggL_law_X7_go
set_option maxRecDepth 20000 in
theorem ggL_law_X8_go : GoodIn wsL_law wsX8_go := goodIn_r _ [484, 119, 146, 147, 5, 148, 485, 486, 487, 488, 110, 408, 409, 410, 411, 117, 118, 489, 490, 491, 492, 112, 111, 116, 113, 854, 855, 856, 857, 858, 859, 860, 861, 862, 863, 864, 865, 866, 867, 868, 869, 870, 871, 872, 873, 874, 875, 876, 877, 878, 879] (by decide +kernel) (by decide +kernel)
set_option maxRecDepth 20000 in
theorem gL_law_X8_go : GoodIn wsL_law (wsV RL 58 RX8 yX8_go wsX8_go) := goodIn_app (goodIn_of _ (by decide +kernel)) ggL_law_X8_go
set_option maxRecDepth 20000 in
theorem ggL_law_X7_now : GoodIn wsL_law wsX7_now := goodIn_r _ [496, 24, 452, 497, 498, 499, 500, 23, 501, 70, 306, 66, 502, 503, 504, 505, 461, 462, 463, 464, 68, 465, 133, 2, 134, 506, 507, 508, 509, 510, 511, 512, 513, 69, 844, 845, 846, 847, 848, 849, 850, 851, 852, 853, 897, 898, 899, 900, 901, 902, 903, 888, 889, 890, 891, 892, 893, 894, 895, 896] (by decide +kernel) (by decide +kernel)
set_option maxRecDepth 20000 in
theorem gL_law_X7_now : GoodIn wsL_law (wsV RL 59 RX7 yX7_now wsX7_now) := goodIn_app (goodIn_of _ (by decide +kernel)) ggL_law_X7_now
set_option maxRecDepth 20000 in
theorem ggL_law_X8_now : GoodIn wsL_law wsX8_now := goodIn_r _ [517, 110, 119, 518, 519, 520, 5, 521, 854, 855, 856, 857, 858, 859, 860, 861, 862, 863, 864, 865, 866, 867, 868, 869, 870, 871, 872, 873, 874, 875, 876, 877, 878, 879] (by decide +kernel) (by decide +kernel)
set_option maxRecDepth 20000 in
theorem gL_law_X8_now : GoodIn wsL_law (wsV RL 62 RX8 yX8_now wsX8_now) := goodIn_app (goodIn_of _ (by decide +kernel)) ggL_law_X8_now
set_option maxRecDepth 20000 in
theorem ggL_law_X7_anew : GoodIn wsL_law wsX7_anew := goodIn_r _ [525, 24, 452, 300, 301, 302, 23, 303, 304, 305, 70, 306, 66, 307, 67, 68, 69, 844, 845, 846, 847, 848, 849, 850, 851, 852, 853, 897, 898, 899, 900, 901, 902, 903, 888, 889, 890, 891, 892, 893, 894, 895, 896] (by decide +kernel) (by decide +kernel)
set_option maxRecDepth 20000 in
theorem gL_law_X7_anew : GoodIn wsL_law (wsV RL 63 RX7 yX7_anew wsX7_anew) := goodIn_app (goodIn_of _ (by decide +kernel)) ggL_law_X7_anew
set_option maxRecDepth 20000 in
theorem ggL_law_X8_anew : GoodIn wsL_law wsX8_anew := goodIn_r _ [343, 119, 110, 111, 854, 855, 856, 857, 858, 859, 860, 861, 862, 863, 864, 865, 866, 867, 868, 869, 870, 871, 872, 873, 874, 875, 876, 877, 878, 879] (by decide +kernel) (by decide +kernel)
set_option maxRecDepth 20000 in
theorem gL_law_X8_anew : GoodIn wsL_law (wsV RL 66 RX8 yX8_anew wsX8_anew) := goodIn_app (goodIn_of _ (by decide +kernel)) ggL_law_X8_anew
set_option maxRecDepth 20000 in
theorem ggL_law_X7_when : GoodIn wsL_law wsX7_when := goodIn_r _ [530, 354, 355, 356, 2, 357, 20, 358, 132, 133, 134, 531, 532, 533, 534, 25, 24, 348, 535, 536, 537, 23, 538, 304, 305, 70, 306, 66, 67, 68, 69, 453, 454, 455, 456, 457, 458, 204, 459, 460, 400, 401, 19, 402, 179, 61, 461, 462, 463, 464, 465, 466, 467, 468, 469, 56, 57, 470, 203, 205, 471, 472, 473, 474, 475, 476, 477, 478, 479, 480, 844, 845, 846, 847, 848, 849, 850, 851, 852, 853, 888, 889, 890, 891, 892, 893, 894, 895, 896, 897, 898, 899, 900, 901, 902, 903] (by decide +kernel) (by decide +kernel)
set_option maxRecDepth 20000 in
theorem gL_law_X7_when : GoodIn wsL_law (wsV RL 67 RX7 yX7_when wsX7_when) := goodIn_app (goodIn_of _ (by decide +kernel)) ggL_law_X7_when
set_option maxRecDepth 20000 in
theorem ggL_law_X8_when : GoodIn wsL_law wsX8_when := goodIn_r _ [542, 119, 363, 364, 365, 5, 366, 110, 146, 147, 148, 543, 544, 545, 546, 485, 486, 487, 488, 408, 409, 410, 411, 117, 118, 489, 490, 491, 492, 112, 111, 116, 113, 854, 855, 856, 857, 858, 859, 860, 861, 862, 863, 864, 865, 866, 867, 868, 869, 870, 871, 872, 873, 874, 875, 876, 877, 878, 879] (by decide +kernel) (by decide +kernel)
set_option maxRecDepth 20000 in
theorem gL_law_X8_when : GoodIn wsL_law (wsV RL 70 RX8 yX8_when wsX8_when) := goodIn_app (goodIn_of _ (by decide +kernel)) ggL_law_X8_when
set_option maxRecDepth 20000 in
theorem ggL_law_X7_damp : GoodIn wsL_law wsX7_damp := goodIn_r _ [550, 354, 355, 356, 2, 357, 20, 358, 132, 133, 134, 531, 532, 533, 534, 25, 24, 348, 535, 536, 537, 23, 538, 304, 305, 70, 306, 66, 67, 68, 69, 453, 454, 455, 456, 457, 458, 204, 459, 460, 400, 401, 19, 402, 179, 61, 461, 462, 463, 464, 465, 466, 467, 468, 469, 56, 57, 470, 203, 205, 471, 472, 473, 474, 475, 476, 477, 478, 479, 480, 844, 845, 846, 847, 848, 849, 850, 851, 852, 853, 888, 889, 890, 891, 892, 893, 894, 895, 896, 897, 898, 899, 900, 901, 902, 903] (by decide +kernel) (by decide +kernel)
set_option maxRecDepth 20000 in
theorem gL_law_X7_damp : GoodIn wsL_law (wsV RL 71 RX7 yX7_damp wsX7_damp) := goodIn_app (goodIn_of _ (by decide +kernel)) ggL_law_X7_damp
set_option maxRecDepth 20000 in
theorem ggL_law_X8_damp : GoodIn wsL_law wsX8_damp := goodIn_r _ [554, 119, 363, 364, 365, 5, 366, 110, 146, 147, 148, 543, 544, 545, 546, 485, 486, 487, 488, 408, 409, 410, 411, 117, 118, 489, 490, 491, 492, 112, 111, 116, 113, 854, 855, 856, 857, 858, 859, 860, 861, 862, 863, 864, 865, 866, 867, 868, 869, 870, 871, 872, 873, 874, 875, 876, 877, 878, 879] (by decide +kernel) (by decide +kernel)
set_option maxRecDepth 20000 in
theorem gL_law_X8_damp : GoodIn wsL_law (wsV RL 75 RX8 yX8_damp wsX8_damp) := goodIn_app (goodIn_of _ (by decide +kernel)) ggL_law_X8_damp
set_option maxRecDepth 20000 in
theorem ggL_law_X7_where : GoodIn wsL_law wsX7_where := goodIn_r _ [558, 32, 559, 560, 132, 133, 2, 134, 354, 355, 356, 357, 20, 358, 561, 562, 563, 31, 564, 565, 566, 567, 76, 568, 569, 570, 571, 79, 81, 572, 82, 573, 78, 574, 575, 203, 204, 205, 576, 417, 418, 19, 419, 57, 59, 577, 578, 579, 580, 83, 581, 582, 583, 536, 537, 23, 538, 304, 305, 70, 306, 66, 67, 68, 69, 584, 454, 455, 456, 457, 458, 459, 460, 400, 401, 402, 179, 61, 461, 462, 463, 464, 465, 466, 467, 468, 469, 56, 470, 471, 472, 473, 474, 475, 476, 477, 478, 479, 480, 585, 586, 587, 75, 588, 589, 590, 591, 80, 592, 297, 298, 299, 593, 499, 500, 501, 844, 845, 846, 847, 848, 849, 850, 851, 852, 853, 904, 905, 906, 907, 908, 909, 910, 911, 912, 913, 888, 889, 890, 891, 892, 893, 894, 895, 896, 897, 898, 899, 900, 901, 902, 903] (by decide +kernel) (by decide +kernel)
set_option maxRecDepth 20000 in
theorem gL_law_X7_where : GoodIn wsL_law (wsV RL 76 RX7 yX7_where wsX7_where) := goodIn_app (goodIn_of _ (by decide +kernel)) ggL_law_X7_where
set_option maxRecDepth 20000 in
theorem ggL_law_X8_where : GoodIn wsL_law wsX8_where := goodIn_r _ [597, 110, 114, 119, 121, 122, 146, 147, 5, 148, 598, 599, 600, 601, 112, 115, 543, 544, 545, 546, 485, 486, 487, 488, 408, 409, 410, 411, 117, 118, 489, 490, 491, 492, 111, 116, 113, 518, 519, 520, 521, 854, 855, 856, 857, 858, 859, 860, 861, 862, 863, 864, 865, 866, 867, 868, 869, 870, 871, 872, 873, 874, 875, 876, 877, 878, 879] (by decide +kernel) (by decide +kernel)
set_option maxRecDepth 20000 in
theorem gL_law_X8_where : GoodIn wsL_law (wsV RL 79 RX8 yX8_where wsX8_where) := goodIn_app (goodIn_of _ (by decide +kernel)) ggL_law_X8_where
set_option maxRecDepth 20000 in
theorem ggL_law_X7_order : GoodIn wsL_law wsX7_order := goodIn_r _ [605, 36, 606, 607, 608, 132, 133, 2, 134, 609, 610, 611, 35, 612, 613, 92, 614, 615, 616, 89, 617, 503, 504, 23, 505, 70, 306, 461, 462, 463, 464, 68, 465, 618, 499, 500, 501, 66, 619, 620, 621, 91, 622, 623, 88, 624, 625, 626, 627, 90, 628, 297, 298, 299, 629, 630, 467, 468, 19, 469, 56, 57, 470, 203, 204, 205, 844, 845, 846, 847, 848, 849, 850, 851, 852, 853, 914, 915, 916, 917, 918, 919, 920, 921, 897, 898, 899, 900, 901, 902, 903, 888, 889, 890, 891, 892, 893, 894, 895, 896] (by decide +kernel) (by decide +kernel)
set_option maxRecDepth 20000 in
theorem gL_law_X7_order : GoodIn wsL_law (wsV RL 80 RX7 yX7_order wsX7_order) := goodIn_app (goodIn_of _ (by decide +kernel)) ggL_law_X7_order
set_option maxRecDepth 20000 in
theorem ggL_law_X8_order : GoodIn wsL_law wsX8_order := goodIn_r _ [634, 124, 123, 146, 147, 5, 148, 635, 636, 637, 638, 110, 119, 639, 640, 641, 642, 643, 644, 645, 646, 647, 648, 649, 112, 111, 518, 519, 520, 521, 854, 855, 856, 857, 858, 859, 860, 861, 862, 863, 864, 865, 866, 867, 868, 869, 870, 871, 872, 873, 874, 875, 876, 877, 878, 879] (by decide +kernel) (by decide +kernel)
set_option maxRecDepth 20000 in
theorem gL_law_X8_order : GoodIn wsL_law (wsV RL 83 RX8 yX8_order wsX8_order) := goodIn_app (goodIn_of _ (by decide +kernel)) ggL_law_X8_order
set_option maxRecDepth 20000 in
theorem ggL_law_X7_odds : GoodIn wsL_law wsX7_odds := goodIn_r _ [653, 654, 24, 655, 132, 133, 2, 134, 502, 503, 504, 23, 505, 70, 306, 461, 462, 463, 464, 68, 465, 656, 657, 658, 659, 25, 20, 452, 535, 536, 537, 538, 304, 305, 66, 67, 69, 660, 661, 662, 663, 399, 400, 401, 19, 402, 179, 61, 453, 454, 455, 456, 457, 458, 204, 459, 460, 466, 467, 468, 469, 56, 57, 470, 203, 205, 471, 472, 473, 474, 475, 476, 477, 478, 479, 480, 664, 665, 666, 667, 668, 669, 844, 845, 846, 847, 848, 849, 850, 851, 852, 853, 897, 898, 899, 900, 901, 902, 903, 888, 889, 890, 891, 892, 893, 894, 895, 896] (by decide +kernel) (by decide +kernel)
set_option maxRecDepth 20000 in
theorem gL_law_X7_odds : GoodIn wsL_law (wsV RL 84 RX7 yX7_odds wsX7_odds) := goodIn_app (goodIn_of _ (by decide +kernel)) ggL_law_X7_odds
set_option maxRecDepth 20000 in
theorem ggL_law_X8_odds : GoodIn wsL_law wsX8_odds := goodIn_r _ [673, 674, 675, 119, 146, 147, 5, 148, 635, 636, 637, 638, 110, 543, 544, 545, 546, 676, 677, 678, 679, 408, 409, 410, 411, 117, 118, 485, 486, 487, 488, 489, 490, 491, 492, 112, 111, 116, 113, 680, 681, 682, 854, 855, 856, 857, 858, 859, 860, 861, 862, 863, 864, 865, 866, 867, 868, 869, 870, 871, 872, 873, 874, 875, 876, 877, 878, 879] (by decide +kernel) (by decide +kernel)
set_option maxRecDepth 20000 in
theorem gL_law_X8_odds : GoodIn wsL_law (wsV RL 88 RX8 yX8_odds wsX8_odds) := goodIn_app (goodIn_of _ (by decide +kernel)) ggL_law_X8_odds
set_option maxRecDepth 20000 in
theorem ggL_law_X7_roomFor : GoodIn wsL_law wsX7_roomFor := goodIn_r _ [686, 25, 24, 20, 377, 132, 133, 2, 134, 535, 536, 537, 23, 538, 304, 305, 70, 306, 66, 67, 68, 69, 660, 661, 662, 663, 461, 462, 463, 464, 465, 453, 454, 455, 456, 457, 458, 204, 459, 460, 400, 401, 19, 402, 179, 61, 466, 467, 468, 469, 56, 57, 470, 203, 205, 471, 472, 473, 474, 475, 476, 477, 478, 479, 480, 844, 845, 846, 847, 848, 849, 850, 851, 852, 853, 888, 889, 890, 891, 892, 893, 894, 895, 896, 897, 898, 899, 900, 901, 902, 903] (by decide +kernel) (by decide +kernel)
set_option maxRecDepth 20000 in
theorem gL_law_X7_roomFor : GoodIn wsL_law (wsV RL 89 RX7 yX7_roomFor wsX7_roomFor) := goodIn_app (goodIn_of _ (by decide +kernel)) ggL_law_X7_roomFor
set_option maxRecDepth 20000 in
theorem ggL_law_X8_roomFor : GoodIn wsL_law wsX8_roomFor := goodIn_r _ [690, 114, 119, 146, 147, 5, 148, 543, 544, 545, 546, 390, 391, 392, 393, 110, 485, 486, 487, 488, 408, 409, 410, 411, 117, 118, 489, 490, 491, 492, 112, 111, 116, 113, 854, 855, 856, 857, 858, 859, 860, 861, 862, 863, 864, 865, 866, 867, 868, 869, 870, 871, 872, 873, 874, 875, 876, 877, 878, 879] (by decide +kernel) (by decide +kernel)
set_option maxRecDepth 20000 in
theorem gL_law_X8_roomFor : GoodIn wsL_law (wsV RL 92 RX8 yX8_roomFor wsX8_roomFor) := goodIn_app (goodIn_of _ (by decide +kernel)) ggL_law_X8_roomFor
set_option maxRecDepth 20000 in
theorem ggL_law_X7_pegs : GoodIn wsL_law wsX7_pegs := goodIn_r _ [694, 20, 377, 24, 349, 372, 378, 379, 380, 23, 381, 70, 306, 68, 844, 845, 846, 847, 848, 849, 850, 851, 852, 853, 888, 889, 890, 891, 892, 893, 894, 895, 896, 897, 898, 899, 900, 901, 902, 903] (by decide +kernel) (by decide +kernel)
set_option maxRecDepth 20000 in
theorem gL_law_X7_pegs : GoodIn wsL_law (wsV RL 93 RX7 yX7_pegs wsX7_pegs) := goodIn_app (goodIn_of _ (by decide +kernel)) ggL_law_X7_pegs
set_option maxRecDepth 20000 in
theorem ggL_law_X8_pegs : GoodIn wsL_law wsX8_pegs := goodIn_r _ [698, 114, 112, 116, 390, 391, 392, 5, 393, 110, 119, 854, 855, 856, 857, 858, 859, 860, 861, 862, 863, 864, 865, 866, 867, 868, 869, 870, 871, 872, 873, 874, 875, 876, 877, 878, 879] (by decide +kernel) (by decide +kernel)
set_option maxRecDepth 20000 in
theorem gL_law_X8_pegs : GoodIn wsL_law (wsV RL 96 RX8 yX8_pegs wsX8_pegs) := goodIn_app (goodIn_of _ (by decide +kernel)) ggL_law_X8_pegs
set_option maxRecDepth 20000 in
theorem ggL_law_X7_coins : GoodIn wsL_law wsX7_coins := goodIn_r _ [702, 25, 24, 20, 358, 348, 132, 133, 2, 134, 535, 536, 537, 23, 538, 304, 305, 70, 306, 66, 67, 68, 69, 453, 454, 455, 456, 457, 458, 204, 459, 460, 400, 401, 19, 402, 179, 61, 461, 462, 463, 464, 465, 466, 467, 468, 469, 56, 57, 470, 203, 205, 471, 472, 473, 474, 475, 476, 477, 478, 479, 480, 844, 845, 846, 847, 848, 849, 850, 851, 852, 853, 888, 889, 890, 891, 892, 893, 894, 895, 896, 897, 898, 899, 900, 901, 902, 903] (by decide +kernel) (by decide +kernel)
set_option maxRecDepth 20000 in
theorem gL_law_X7_coins : GoodIn wsL_law (wsV RL 97 RX7 yX7_coins wsX7_coins) := goodIn_app (goodIn_of _ (by decide +kernel)) ggL_law_X7_coins
set_option maxRecDepth 20000 in
theorem ggL_law_X8_coins : GoodIn wsL_law wsX8_coins := goodIn_r _ [706, 110, 119, 146, 147, 5, 148, 543, 544, 545, 546, 485, 486, 487, 488, 408, 409, 410, 411, 117, 118, 489, 490, 491, 492, 112, 111, 116, 113, 854, 855, 856, 857, 858, 859, 860, 861, 862, 863, 864, 865, 866, 867, 868, 869, 870, 871, 872, 873, 874, 875, 876, 877, 878, 879] (by decide +kernel) (by decide +kernel)
set_option maxRecDepth 20000 in
theorem gL_law_X8_coins : GoodIn wsL_law (wsV RL 100 RX8 yX8_coins wsX8_coins) := goodIn_app (goodIn_of _ (by decide +kernel)) ggL_law_X8_coins
set_option maxRecDepth 20000 in
theorem ggL_law_X7_held : GoodIn wsL_law wsX7_held := goodIn_r _ [710, 40, 711, 132, 133, 2, 134, 712, 713, 714, 39, 715, 716, 717, 718, 719, 720, 96, 97, 98, 844, 845, 846, 847, 848, 849, 850, 851, 852, 853, 922, 923, 924, 925] (by decide +kernel) (by decide +kernel)
set_option maxRecDepth 20000 in
theorem gL_law_X7_held : GoodIn wsL_law (wsV RL 101 RX7 yX7_held wsX7_held) := goodIn_app (goodIn_of _ (by decide +kernel)) ggL_law_X7_held
set_option maxRecDepth 20000 in
theorem ggL_law_X8_held : GoodIn wsL_law wsX8_held := goodIn_r _ [724, 725, 125, 126, 146, 147, 5, 148, 854, 855, 856, 857, 858, 859, 860, 861, 862, 863, 864, 865, 866, 867, 868, 869, 870, 871, 872, 873, 874, 875, 876, 877, 878, 879] (by decide +kernel) (by decide +kernel)
set_option maxRecDepth 20000 in
theorem gL_law_X8_held : GoodIn wsL_law (wsV RL 105 RX8 yX8_held wsX8_held) := goodIn_app (goodIn_of _ (by decide +kernel)) ggL_law_X8_held
set_option maxRecDepth 20000 in
theorem ggL_law_X7_right : GoodIn wsL_law wsX7_right := goodIn_r _ [729, 40, 730, 132, 133, 2, 134, 844, 845, 846, 847, 848, 849, 850, 851, 852, 853, 922, 923, 924, 925] (by decide +kernel) (by decide +kernel)
set_option maxRecDepth 20000 in
theorem gL_law_X7_right : GoodIn wsL_law (wsV RL 106 RX7 yX7_right wsX7_right) := goodIn_app (goodIn_of _ (by decide +kernel)) ggL_law_X7_right
set_option maxRecDepth 20000 in
theorem ggL_law_X8_right : GoodIn wsL_law wsX8_right := goodIn_r _ [734, 146, 147, 5, 148, 735, 736, 737, 738, 725, 125, 126, 854, 855, 856, 857, 858, 859, 860, 861, 862, 863, 864, 865, 866, 867, 868, 869, 870, 871, 872, 873, 874, 875, 876, 877, 878, 879] (by decide +kernel) (by decide +kernel)
set_option maxRecDepth 20000 in
theorem gL_law_X8_right : GoodIn wsL_law (wsV RL 109 RX8 yX8_right wsX8_right) := goodIn_app (goodIn_of _ (by decide +kernel)) ggL_law_X8_right
set_option maxRecDepth 20000 in
theorem ggL_law_X7_better : GoodIn wsL_law wsX7_better := goodIn_r _ [742, 40, 711, 730, 844, 845, 846, 847, 848, 849, 850, 851, 852, 853, 922, 923, 924, 925] (by decide +kernel) (by decide +kernel)
set_option maxRecDepth 20000 in
theorem gL_law_X7_better : GoodIn wsL_law (wsV RL 110 RX7 yX7_better wsX7_better) := goodIn_app (goodIn_of _ (by decide +kernel)) ggL_law_X7_better
set_option maxRecDepth 20000 in
theorem ggL_law_X8_better : GoodIn wsL_law wsX8_better := goodIn_r _ [746, 725, 735, 736, 737, 5, 738, 125, 126, 854, 855, 856, 857, 858, 859, 860, 861, 862, 863, 864, 865, 866, 867, 868, 869, 870, 871, 872, 873, 874, 875, 876, 877, 878, 879] (by decide +kernel) (by decide +kernel)
set_option maxRecDepth 20000 in
theorem gL_law_X8_better : GoodIn wsL_law (wsV RL 113 RX8 yX8_better wsX8_better) := goodIn_app (goodIn_of _ (by decide +kernel)) ggL_law_X8_better
set_option maxRecDepth 20000 in
theorem ggL_law_X7_trust : GoodIn wsL_law wsX7_trust := goodIn_r _ [750, 40, 751, 752, 132, 133, 2, 134, 664, 665, 666, 844, 845, 846, 847, 848, 849, 850, 851, 852, 853, 922, 923, 924, 925] (by decide +kernel) (by decide +kernel)
set_option maxRecDepth 20000 in
theorem gL_law_X7_trust : GoodIn wsL_law (wsV RL 114 RX7 yX7_trust wsX7_trust) := goodIn_app (goodIn_of _ (by decide +kernel)) ggL_law_X7_trust
set_option maxRecDepth 20000 in
theorem ggL_law_X8_trust : GoodIn wsL_law wsX8_trust := goodIn_r _ [756, 725, 125, 126, 146, 147, 5, 148, 680, 681, 682, 854, 855, 856, 857, 858, 859, 860, 861, 862, 863, 864, 865, 866, 867, 868, 869, 870, 871, 872, 873, 874, 875, 876, 877, 878, 879] (by decide +kernel) (by decide +kernel)
set_option maxRecDepth 20000 in
theorem gL_law_X8_trust : GoodIn wsL_law (wsV RL 117 RX8 yX8_trust wsX8_trust) := goodIn_app (goodIn_of _ (by decide +kernel)) ggL_law_X8_trust
set_option maxRecDepth 20000 in
theorem ggL_law_X7_mark : GoodIn wsL_law wsX7_mark := goodIn_r _ [760, 44, 398, 132, 133, 2, 134, 354, 355, 356, 357, 20, 358, 761, 762, 763, 43, 764, 765, 766, 767, 768, 769, 770, 771, 772, 773, 774, 104, 775, 776, 777, 778, 779, 780, 103, 781, 782, 783, 784, 785, 786, 787, 788, 789, 790, 791, 792, 793, 794, 795, 796, 797, 798, 799, 844, 845, 846, 847, 848, 849, 850, 851, 852, 853, 888, 889, 890, 891, 892, 893, 894, 895, 896, 926, 927, 928, 897, 898, 899, 900, 901, 902, 903] (by decide +kernel) (by decide +kernel)
set_option maxRecDepth 20000 in
theorem gL_law_X7_mark : GoodIn wsL_law (wsV RL 118 RX7 yX7_mark wsX7_mark) := goodIn_app (goodIn_of _ (by decide +kernel)) ggL_law_X7_mark
set_option maxRecDepth 20000 in
theorem ggL_law_X8_mark : GoodIn wsL_law wsX8_mark := goodIn_r _ [803, 407, 119, 804, 805, 806, 113, 807, 112, 808, 809, 146, 147, 5, 148, 363, 364, 365, 366, 110, 854, 855, 856, 857, 858, 859, 860, 861, 862, 863, 864, 865, 866, 867, 868, 869, 870, 871, 872, 873, 874, 875, 876, 877, 878, 879] (by decide +kernel) (by decide +kernel)
set_option maxRecDepth 20000 in
theorem gL_law_X8_mark : GoodIn wsL_law (wsV RL 121 RX8 yX8_mark wsX8_mark) := goodIn_app (goodIn_of _ (by decide +kernel)) ggL_law_X8_mark
set_option maxRecDepth 20000 in
theorem ggL_law_X7_keep : GoodIn wsL_law wsX7_keep := goodIn_r _ [813, 26, 24, 28, 452, 132, 133, 2, 134, 535, 536, 537, 23, 538, 304, 305, 70, 306, 66, 67, 68, 69, 844, 845, 846, 847, 848, 849, 850, 851, 852, 853, 897, 898, 899, 900, 901, 902, 903, 888, 889, 890, 891, 892, 893, 894, 895, 896] (by decide +kernel) (by decide +kernel)
set_option maxRecDepth 20000 in
theorem gL_law_X7_keep : GoodIn wsL_law (wsV RL 122 RX7 yX7_keep wsX7_keep) := goodIn_app (goodIn_of _ (by decide +kernel)) ggL_law_X7_keep
set_option maxRecDepth 20000 in
theorem ggL_law_X8_keep : GoodIn wsL_law wsX8_keep := goodIn_r _ [817, 120, 119, 146, 147, 5, 148, 543, 544, 545, 546, 854, 855, 856, 857, 858, 859, 860, 861, 862, 863, 864, 865, 866, 867, 868, 869, 870, 871, 872, 873, 874, 875, 876, 877, 878, 879] (by decide +kernel) (by decide +kernel)
set_option maxRecDepth 20000 in
theorem gL_law_X8_keep : GoodIn wsL_law (wsV RL 125 RX8 yX8_keep wsX8_keep) := goodIn_app (goodIn_of _ (by decide +kernel)) ggL_law_X8_keep
set_option maxRecDepth 20000 in
theorem ggL_law_X7_back : GoodIn wsL_law wsX7_back := goodIn_r _ [821, 28, 24, 26, 452, 132, 133, 2, 134, 535, 536, 537, 23, 538, 304, 305, 70, 306, 66, 67, 68, 69, 844, 845, 846, 847, 848, 849, 850, 851, 852, 853, 897, 898, 899, 900, 901, 902, 903, 888, 889, 890, 891, 892, 893, 894, 895, 896] (by decide +kernel) (by decide +kernel)
set_option maxRecDepth 20000 in
theorem gL_law_X7_back : GoodIn wsL_law (wsV RL 126 RX7 yX7_back wsX7_back) := goodIn_app (goodIn_of _ (by decide +kernel)) ggL_law_X7_back
set_option maxRecDepth 20000 in
theorem ggL_law_X8_back : GoodIn wsL_law wsX8_back := goodIn_r _ [825, 120, 119, 146, 147, 5, 148, 543, 544, 545, 546, 854, 855, 856, 857, 858, 859, 860, 861, 862, 863, 864, 865, 866, 867, 868, 869, 870, 871, 872, 873, 874, 875, 876, 877, 878, 879] (by decide +kernel) (by decide +kernel)
set_option maxRecDepth 20000 in
theorem gL_law_X8_back : GoodIn wsL_law (wsV RL 129 RX8 yX8_back wsX8_back) := goodIn_app (goodIn_of _ (by decide +kernel)) ggL_law_X8_back
set_option maxRecDepth 20000 in
theorem ggL_law_X7_count : GoodIn wsL_law wsX7_count := goodIn_r _ [829, 20, 358, 377, 830, 24, 40, 711, 16, 131, 428, 429, 430, 23, 431, 70, 306, 68, 844, 845, 846, 847, 848, 849, 850, 851, 852, 853, 888, 889, 890, 891, 892, 893, 894, 895, 896, 922, 923, 924, 925, 880, 881, 882, 883, 884, 885, 886, 887, 897, 898, 899, 900, 901, 902, 903] (by decide +kernel) (by decide +kernel)
set_option maxRecDepth 20000 in
theorem gL_law_X7_count : GoodIn wsL_law (wsV RL 130 RX7 yX7_count wsX7_count) := goodIn_app (goodIn_of _ (by decide +kernel)) ggL_law_X7_count
set_option maxRecDepth 20000 in
theorem ggL_law_X8_count : GoodIn wsL_law wsX8_count := goodIn_r _ [834, 110, 114, 117, 725, 144, 436, 437, 438, 5, 439, 119, 854, 855, 856, 857, 858, 859, 860, 861, 862, 863, 864, 865, 866, 867, 868, 869, 870, 871, 872, 873, 874, 875, 876, 877, 878, 879] (by decide +kernel) (by decide +kernel)
set_option maxRecDepth 20000 in
theorem gL_law_X8_count : GoodIn wsL_law (wsV RL 133 RX8 yX8_count wsX8_count) := goodIn_app (goodIn_of _ (by decide +kernel)) ggL_law_X8_count
set_option maxRecDepth 20000 in
theorem ggL_law_X7_trace : GoodIn wsL_law wsX7_trace := goodIn_r _ [838, 44, 839, 844, 845, 846, 847, 848, 849, 850, 851, 852, 853, 926, 927, 928] (by decide +kernel) (by decide +kernel)
set_option maxRecDepth 20000 in
theorem gL_law_X7_trace : GoodIn wsL_law (wsV RL 134 RX7 yX7_trace wsX7_trace) := goodIn_app (goodIn_of _ (by decide +kernel)) ggL_law_X7_trace
set_option maxRecDepth 20000 in
theorem ggL_law_X8_trace : GoodIn wsL_law wsX8_trace := goodIn_r _ [843, 804, 854, 855, 856, 857, 858, 859, 860, 861, 862, 863, 864, 865, 866, 867, 868, 869, 870, 871, 872, 873, 874, 875, 876, 877, 878, 879] (by decide +kernel) (by decide +kernel)
set_option maxRecDepth 20000 in
theorem gL_law_X8_trace : GoodIn wsL_law (wsV RL 138 RX8 yX8_trace wsX8_trace) := goodIn_app (goodIn_of _ (by decide +kernel)) ggL_law_X8_trace
theorem dL_law_0 : decode cL_law 0 = .ok (.new 7, 3) := by decide +kernel
theorem dL_law_3 : decode cL_law 3 = .ok (.dup, 1) := by decide +kernel
theorem dL_law_4 : decode cL_law 4 = .ok (.invokespecial 9, 3) := by decide +kernel
theorem dL_law_7 : decode cL_law 7 = .ok (.astore_n 1, 1) := by decide +kernel
theorem dL_law_8 : decode cL_law 8 = .ok (.new 10, 3) := by decide +kernel
theorem dL_law_11 : decode cL_law 11 = .ok (.dup, 1) := by decide +kernel
theorem dL_law_12 : decode cL_law 12 = .ok (.invokespecial 12, 3) := by decide +kernel
theorem dL_law_15 : decode cL_law 15 = .ok (.astore_n 2, 1) := by decide +kernel
theorem dL_law_16 : decode cL_law 16 = .ok (.iconst 0, 1) := by decide +kernel
theorem dL_law_17 : decode cL_law 17 = .ok (.istore_n 3, 1) := by decide +kernel
theorem dL_law_18 : decode cL_law 18 = .ok (.iload_n 3, 1) := by decide +kernel
theorem dL_law_19 : decode cL_law 19 = .ok (.aload_n 0, 1) := by decide +kernel
theorem dL_law_20 : decode cL_law 20 = .ok (.arraylength, 1) := by decide +kernel
theorem dL_law_21 : decode cL_law 21 = .ok (.iconst 5, 1) := by decide +kernel
theorem dL_law_22 : decode cL_law 22 = .ok (.isub, 1) := by decide +kernel
theorem dL_law_23 : decode cL_law 23 = .ok (.if_icmp .gt 936, 3) := by decide +kernel
theorem dL_law_26 : decode cL_law 26 = .ok (.aload_n 0, 1) := by decide +kernel
theorem dL_law_27 : decode cL_law 27 = .ok (.iload_n 3, 1) := by decide +kernel
theorem dL_law_28 : decode cL_law 28 = .ok (.iaload, 1) := by decide +kernel
theorem dL_law_29 : decode cL_law 29 = .ok (.bipush 31, 2) := by decide +kernel
theorem dL_law_31 : decode cL_law 31 = .ok (.iand, 1) := by decide +kernel
theorem dL_law_32 : decode cL_law 32 = .ok (.tableswitch 921 0 28 #[132, 195, 208, 221, 254, 287, 310, 343, 366, 389, 412, 435, 448, 471, 524, 557, 590, 634, 657, 670, 693, 736, 759, 772, 805, 838, 861, 884, 907], 132) := by decide +kernel
theorem dL_law_164 : decode cL_law 164 = .ok (.aload_n 1, 1) := by decide +kernel
theorem dL_law_165 : decode cL_law 165 = .ok (.aload_n 0, 1) := by decide +kernel
theorem dL_law_166 : decode cL_law 166 = .ok (.iload_n 3, 1) := by decide +kernel
theorem dL_law_167 : decode cL_law 167 = .ok (.iconst 1, 1) := by decide +kernel
theorem dL_law_168 : decode cL_law 168 = .ok (.iadd, 1) := by decide +kernel
theorem dL_law_169 : decode cL_law 169 = .ok (.iaload, 1) := by decide +kernel
theorem dL_law_170 : decode cL_law 170 = .ok (.i2l, 1) := by decide +kernel
theorem dL_law_171 : decode cL_law 171 = .ok (.bipush 32, 2) := by decide +kernel
theorem dL_law_173 : decode cL_law 173 = .ok (.lshl, 1) := by decide +kernel
theorem dL_law_174 : decode cL_law 174 = .ok (.aload_n 0, 1) := by decide +kernel
theorem dL_law_175 : decode cL_law 175 = .ok (.iload_n 3, 1) := by decide +kernel
theorem dL_law_176 : decode cL_law 176 = .ok (.iconst 2, 1) := by decide +kernel
theorem dL_law_177 : decode cL_law 177 = .ok (.iadd, 1) := by decide +kernel
theorem dL_law_178 : decode cL_law 178 = .ok (.iaload, 1) := by decide +kernel
theorem dL_law_179 : decode cL_law 179 = .ok (.i2l, 1) := by decide +kernel
theorem dL_law_180 : decode cL_law 180 = .ok (.ldc2_w 13, 3) := by decide +kernel
theorem dL_law_183 : decode cL_law 183 = .ok (.land, 1) := by decide +kernel
theorem dL_law_184 : decode cL_law 184 = .ok (.lor, 1) := by decide +kernel
theorem dL_law_185 : decode cL_law 185 = .ok (.aload_n 0, 1) := by decide +kernel
theorem dL_law_186 : decode cL_law 186 = .ok (.iload_n 3, 1) := by decide +kernel
theorem dL_law_187 : decode cL_law 187 = .ok (.iconst 3, 1) := by decide +kernel
theorem dL_law_188 : decode cL_law 188 = .ok (.iadd, 1) := by decide +kernel
theorem dL_law_189 : decode cL_law 189 = .ok (.iaload, 1) := by decide +kernel
theorem dL_law_190 : decode cL_law 190 = .ok (.invokevirtual 15, 3) := by decide +kernel
theorem dL_law_193 : decode cL_law 193 = .ok (.aload_n 2, 1) := by decide +kernel
theorem dL_law_194 : decode cL_law 194 = .ok (.aload_n 0, 1) := by decide +kernel
theorem dL_law_195 : decode cL_law 195 = .ok (.iload_n 3, 1) := by decide +kernel
theorem dL_law_196 : decode cL_law 196 = .ok (.iconst 1, 1) := by decide +kernel
theorem dL_law_197 : decode cL_law 197 = .ok (.iadd, 1) := by decide +kernel
theorem dL_law_198 : decode cL_law 198 = .ok (.iaload, 1) := by decide +kernel
theorem dL_law_199 : decode cL_law 199 = .ok (.i2l, 1) := by decide +kernel
theorem dL_law_200 : decode cL_law 200 = .ok (.bipush 32, 2) := by decide +kernel
theorem dL_law_202 : decode cL_law 202 = .ok (.lshl, 1) := by decide +kernel
theorem dL_law_203 : decode cL_law 203 = .ok (.aload_n 0, 1) := by decide +kernel
theorem dL_law_204 : decode cL_law 204 = .ok (.iload_n 3, 1) := by decide +kernel
theorem dL_law_205 : decode cL_law 205 = .ok (.iconst 2, 1) := by decide +kernel
theorem dL_law_206 : decode cL_law 206 = .ok (.iadd, 1) := by decide +kernel
theorem dL_law_207 : decode cL_law 207 = .ok (.iaload, 1) := by decide +kernel
theorem dL_law_208 : decode cL_law 208 = .ok (.i2l, 1) := by decide +kernel
theorem dL_law_209 : decode cL_law 209 = .ok (.ldc2_w 13, 3) := by decide +kernel
theorem dL_law_212 : decode cL_law 212 = .ok (.land, 1) := by decide +kernel
theorem dL_law_213 : decode cL_law 213 = .ok (.lor, 1) := by decide +kernel
theorem dL_law_214 : decode cL_law 214 = .ok (.aload_n 0, 1) := by decide +kernel
theorem dL_law_215 : decode cL_law 215 = .ok (.iload_n 3, 1) := by decide +kernel
theorem dL_law_216 : decode cL_law 216 = .ok (.iconst 3, 1) := by decide +kernel
theorem dL_law_217 : decode cL_law 217 = .ok (.iadd, 1) := by decide +kernel
theorem dL_law_218 : decode cL_law 218 = .ok (.iaload, 1) := by decide +kernel
theorem dL_law_219 : decode cL_law 219 = .ok (.invokevirtual 19, 3) := by decide +kernel
theorem dL_law_222 : decode cL_law 222 = .ok (.if_icmp .eq 731, 3) := by decide +kernel
theorem dL_law_225 : decode cL_law 225 = .ok (.iconst 0, 1) := by decide +kernel
theorem dL_law_226 : decode cL_law 226 = .ok (.ireturn, 1) := by decide +kernel
theorem dL_law_227 : decode cL_law 227 = .ok (.aload_n 1, 1) := by decide +kernel
theorem dL_law_228 : decode cL_law 228 = .ok (.invokevirtual 20, 3) := by decide +kernel
theorem dL_law_231 : decode cL_law 231 = .ok (.aload_n 2, 1) := by decide +kernel
theorem dL_law_232 : decode cL_law 232 = .ok (.invokevirtual 24, 3) := by decide +kernel
theorem dL_law_235 : decode cL_law 235 = .ok (.if_icmp .eq 718, 3) := by decide +kernel
theorem dL_law_238 : decode cL_law 238 = .ok (.iconst 0, 1) := by decide +kernel
theorem dL_law_239 : decode cL_law 239 = .ok (.ireturn, 1) := by decide +kernel
theorem dL_law_240 : decode cL_law 240 = .ok (.aload_n 1, 1) := by decide +kernel
theorem dL_law_241 : decode cL_law 241 = .ok (.invokevirtual 25, 3) := by decide +kernel
theorem dL_law_244 : decode cL_law 244 = .ok (.aload_n 2, 1) := by decide +kernel
theorem dL_law_245 : decode cL_law 245 = .ok (.invokevirtual 28, 3) := by decide +kernel
theorem dL_law_248 : decode cL_law 248 = .ok (.if_icmp .eq 705, 3) := by decide +kernel
theorem dL_law_251 : decode cL_law 251 = .ok (.iconst 0, 1) := by decide +kernel
theorem dL_law_252 : decode cL_law 252 = .ok (.ireturn, 1) := by decide +kernel
theorem dL_law_253 : decode cL_law 253 = .ok (.aload_n 1, 1) := by decide +kernel
theorem dL_law_254 : decode cL_law 254 = .ok (.aload_n 0, 1) := by decide +kernel
theorem dL_law_255 : decode cL_law 255 = .ok (.iload_n 3, 1) := by decide +kernel
theorem dL_law_256 : decode cL_law 256 = .ok (.iconst 1, 1) := by decide +kernel
theorem dL_law_257 : decode cL_law 257 = .ok (.iadd, 1) := by decide +kernel
theorem dL_law_258 : decode cL_law 258 = .ok (.iaload, 1) := by decide +kernel
theorem dL_law_259 : decode cL_law 259 = .ok (.aload_n 0, 1) := by decide +kernel
theorem dL_law_260 : decode cL_law 260 = .ok (.iload_n 3, 1) := by decide +kernel
theorem dL_law_261 : decode cL_law 261 = .ok (.iconst 2, 1) := by decide +kernel
theorem dL_law_262 : decode cL_law 262 = .ok (.iadd, 1) := by decide +kernel
theorem dL_law_263 : decode cL_law 263 = .ok (.iaload, 1) := by decide +kernel
theorem dL_law_264 : decode cL_law 264 = .ok (.invokevirtual 29, 3) := by decide +kernel
theorem dL_law_267 : decode cL_law 267 = .ok (.aload_n 2, 1) := by decide +kernel
theorem dL_law_268 : decode cL_law 268 = .ok (.aload_n 0, 1) := by decide +kernel
theorem dL_law_269 : decode cL_law 269 = .ok (.iload_n 3, 1) := by decide +kernel
theorem dL_law_270 : decode cL_law 270 = .ok (.iconst 1, 1) := by decide +kernel
theorem dL_law_271 : decode cL_law 271 = .ok (.iadd, 1) := by decide +kernel
theorem dL_law_272 : decode cL_law 272 = .ok (.iaload, 1) := by decide +kernel
theorem dL_law_273 : decode cL_law 273 = .ok (.aload_n 0, 1) := by decide +kernel
theorem dL_law_274 : decode cL_law 274 = .ok (.iload_n 3, 1) := by decide +kernel
theorem dL_law_275 : decode cL_law 275 = .ok (.iconst 2, 1) := by decide +kernel
theorem dL_law_276 : decode cL_law 276 = .ok (.iadd, 1) := by decide +kernel
theorem dL_law_277 : decode cL_law 277 = .ok (.iaload, 1) := by decide +kernel
theorem dL_law_278 : decode cL_law 278 = .ok (.invokevirtual 33, 3) := by decide +kernel
theorem dL_law_281 : decode cL_law 281 = .ok (.if_icmp .eq 672, 3) := by decide +kernel
theorem dL_law_284 : decode cL_law 284 = .ok (.iconst 0, 1) := by decide +kernel
theorem dL_law_285 : decode cL_law 285 = .ok (.ireturn, 1) := by decide +kernel
theorem dL_law_286 : decode cL_law 286 = .ok (.aload_n 1, 1) := by decide +kernel
theorem dL_law_287 : decode cL_law 287 = .ok (.aload_n 0, 1) := by decide +kernel
theorem dL_law_288 : decode cL_law 288 = .ok (.iload_n 3, 1) := by decide +kernel
theorem dL_law_289 : decode cL_law 289 = .ok (.iconst 1, 1) := by decide +kernel
theorem dL_law_290 : decode cL_law 290 = .ok (.iadd, 1) := by decide +kernel
theorem dL_law_291 : decode cL_law 291 = .ok (.iaload, 1) := by decide +kernel
theorem dL_law_292 : decode cL_law 292 = .ok (.aload_n 0, 1) := by decide +kernel
theorem dL_law_293 : decode cL_law 293 = .ok (.iload_n 3, 1) := by decide +kernel
theorem dL_law_294 : decode cL_law 294 = .ok (.iconst 2, 1) := by decide +kernel
theorem dL_law_295 : decode cL_law 295 = .ok (.iadd, 1) := by decide +kernel
theorem dL_law_296 : decode cL_law 296 = .ok (.iaload, 1) := by decide +kernel
theorem dL_law_297 : decode cL_law 297 = .ok (.invokevirtual 34, 3) := by decide +kernel
theorem dL_law_300 : decode cL_law 300 = .ok (.aload_n 2, 1) := by decide +kernel
theorem dL_law_301 : decode cL_law 301 = .ok (.aload_n 0, 1) := by decide +kernel
theorem dL_law_302 : decode cL_law 302 = .ok (.iload_n 3, 1) := by decide +kernel
theorem dL_law_303 : decode cL_law 303 = .ok (.iconst 1, 1) := by decide +kernel
theorem dL_law_304 : decode cL_law 304 = .ok (.iadd, 1) := by decide +kernel
theorem dL_law_305 : decode cL_law 305 = .ok (.iaload, 1) := by decide +kernel
theorem dL_law_306 : decode cL_law 306 = .ok (.aload_n 0, 1) := by decide +kernel
theorem dL_law_307 : decode cL_law 307 = .ok (.iload_n 3, 1) := by decide +kernel
theorem dL_law_308 : decode cL_law 308 = .ok (.iconst 2, 1) := by decide +kernel
theorem dL_law_309 : decode cL_law 309 = .ok (.iadd, 1) := by decide +kernel
theorem dL_law_310 : decode cL_law 310 = .ok (.iaload, 1) := by decide +kernel
theorem dL_law_311 : decode cL_law 311 = .ok (.invokevirtual 37, 3) := by decide +kernel
theorem dL_law_314 : decode cL_law 314 = .ok (.if_icmp .eq 639, 3) := by decide +kernel
theorem dL_law_317 : decode cL_law 317 = .ok (.iconst 0, 1) := by decide +kernel
theorem dL_law_318 : decode cL_law 318 = .ok (.ireturn, 1) := by decide +kernel
theorem dL_law_319 : decode cL_law 319 = .ok (.aload_n 1, 1) := by decide +kernel
theorem dL_law_320 : decode cL_law 320 = .ok (.aload_n 0, 1) := by decide +kernel
theorem dL_law_321 : decode cL_law 321 = .ok (.iload_n 3, 1) := by decide +kernel
theorem dL_law_322 : decode cL_law 322 = .ok (.iconst 1, 1) := by decide +kernel
theorem dL_law_323 : decode cL_law 323 = .ok (.iadd, 1) := by decide +kernel
theorem dL_law_324 : decode cL_law 324 = .ok (.iaload, 1) := by decide +kernel
theorem dL_law_325 : decode cL_law 325 = .ok (.invokevirtual 38, 3) := by decide +kernel
theorem dL_law_328 : decode cL_law 328 = .ok (.aload_n 2, 1) := by decide +kernel
theorem dL_law_329 : decode cL_law 329 = .ok (.aload_n 0, 1) := by decide +kernel
theorem dL_law_330 : decode cL_law 330 = .ok (.iload_n 3, 1) := by decide +kernel
theorem dL_law_331 : decode cL_law 331 = .ok (.iconst 1, 1) := by decide +kernel
theorem dL_law_332 : decode cL_law 332 = .ok (.iadd, 1) := by decide +kernel
theorem dL_law_333 : decode cL_law 333 = .ok (.iaload, 1) := by decide +kernel
theorem dL_law_334 : decode cL_law 334 = .ok (.invokevirtual 42, 3) := by decide +kernel
theorem dL_law_337 : decode cL_law 337 = .ok (.if_icmp .eq 616, 3) := by decide +kernel
theorem dL_law_340 : decode cL_law 340 = .ok (.iconst 0, 1) := by decide +kernel
theorem dL_law_341 : decode cL_law 341 = .ok (.ireturn, 1) := by decide +kernel
theorem dL_law_342 : decode cL_law 342 = .ok (.aload_n 1, 1) := by decide +kernel
theorem dL_law_343 : decode cL_law 343 = .ok (.aload_n 0, 1) := by decide +kernel
theorem dL_law_344 : decode cL_law 344 = .ok (.iload_n 3, 1) := by decide +kernel
theorem dL_law_345 : decode cL_law 345 = .ok (.iconst 1, 1) := by decide +kernel
theorem dL_law_346 : decode cL_law 346 = .ok (.iadd, 1) := by decide +kernel
theorem dL_law_347 : decode cL_law 347 = .ok (.iaload, 1) := by decide +kernel
theorem dL_law_348 : decode cL_law 348 = .ok (.aload_n 0, 1) := by decide +kernel
theorem dL_law_349 : decode cL_law 349 = .ok (.iload_n 3, 1) := by decide +kernel
theorem dL_law_350 : decode cL_law 350 = .ok (.iconst 2, 1) := by decide +kernel
theorem dL_law_351 : decode cL_law 351 = .ok (.iadd, 1) := by decide +kernel
theorem dL_law_352 : decode cL_law 352 = .ok (.iaload, 1) := by decide +kernel
theorem dL_law_353 : decode cL_law 353 = .ok (.invokevirtual 43, 3) := by decide +kernel
theorem dL_law_356 : decode cL_law 356 = .ok (.aload_n 2, 1) := by decide +kernel
theorem dL_law_357 : decode cL_law 357 = .ok (.aload_n 0, 1) := by decide +kernel
theorem dL_law_358 : decode cL_law 358 = .ok (.iload_n 3, 1) := by decide +kernel
theorem dL_law_359 : decode cL_law 359 = .ok (.iconst 1, 1) := by decide +kernel
theorem dL_law_360 : decode cL_law 360 = .ok (.iadd, 1) := by decide +kernel
theorem dL_law_361 : decode cL_law 361 = .ok (.iaload, 1) := by decide +kernel
theorem dL_law_362 : decode cL_law 362 = .ok (.aload_n 0, 1) := by decide +kernel
theorem dL_law_363 : decode cL_law 363 = .ok (.iload_n 3, 1) := by decide +kernel
theorem dL_law_364 : decode cL_law 364 = .ok (.iconst 2, 1) := by decide +kernel
theorem dL_law_365 : decode cL_law 365 = .ok (.iadd, 1) := by decide +kernel
theorem dL_law_366 : decode cL_law 366 = .ok (.iaload, 1) := by decide +kernel
theorem dL_law_367 : decode cL_law 367 = .ok (.invokevirtual 46, 3) := by decide +kernel
theorem dL_law_370 : decode cL_law 370 = .ok (.if_icmp .eq 583, 3) := by decide +kernel
theorem dL_law_373 : decode cL_law 373 = .ok (.iconst 0, 1) := by decide +kernel
theorem dL_law_374 : decode cL_law 374 = .ok (.ireturn, 1) := by decide +kernel
theorem dL_law_375 : decode cL_law 375 = .ok (.aload_n 1, 1) := by decide +kernel
theorem dL_law_376 : decode cL_law 376 = .ok (.aload_n 0, 1) := by decide +kernel
theorem dL_law_377 : decode cL_law 377 = .ok (.iload_n 3, 1) := by decide +kernel
theorem dL_law_378 : decode cL_law 378 = .ok (.iconst 1, 1) := by decide +kernel
theorem dL_law_379 : decode cL_law 379 = .ok (.iadd, 1) := by decide +kernel
theorem dL_law_380 : decode cL_law 380 = .ok (.iaload, 1) := by decide +kernel
theorem dL_law_381 : decode cL_law 381 = .ok (.invokevirtual 47, 3) := by decide +kernel
theorem dL_law_384 : decode cL_law 384 = .ok (.aload_n 2, 1) := by decide +kernel
theorem dL_law_385 : decode cL_law 385 = .ok (.aload_n 0, 1) := by decide +kernel
theorem dL_law_386 : decode cL_law 386 = .ok (.iload_n 3, 1) := by decide +kernel
theorem dL_law_387 : decode cL_law 387 = .ok (.iconst 1, 1) := by decide +kernel
theorem dL_law_388 : decode cL_law 388 = .ok (.iadd, 1) := by decide +kernel
theorem dL_law_389 : decode cL_law 389 = .ok (.iaload, 1) := by decide +kernel
theorem dL_law_390 : decode cL_law 390 = .ok (.invokevirtual 50, 3) := by decide +kernel
theorem dL_law_393 : decode cL_law 393 = .ok (.if_icmp .eq 560, 3) := by decide +kernel
theorem dL_law_396 : decode cL_law 396 = .ok (.iconst 0, 1) := by decide +kernel
theorem dL_law_397 : decode cL_law 397 = .ok (.ireturn, 1) := by decide +kernel
theorem dL_law_398 : decode cL_law 398 = .ok (.aload_n 1, 1) := by decide +kernel
theorem dL_law_399 : decode cL_law 399 = .ok (.aload_n 0, 1) := by decide +kernel
theorem dL_law_400 : decode cL_law 400 = .ok (.iload_n 3, 1) := by decide +kernel
theorem dL_law_401 : decode cL_law 401 = .ok (.iconst 1, 1) := by decide +kernel
theorem dL_law_402 : decode cL_law 402 = .ok (.iadd, 1) := by decide +kernel
theorem dL_law_403 : decode cL_law 403 = .ok (.iaload, 1) := by decide +kernel
theorem dL_law_404 : decode cL_law 404 = .ok (.invokevirtual 51, 3) := by decide +kernel
theorem dL_law_407 : decode cL_law 407 = .ok (.aload_n 2, 1) := by decide +kernel
theorem dL_law_408 : decode cL_law 408 = .ok (.aload_n 0, 1) := by decide +kernel
theorem dL_law_409 : decode cL_law 409 = .ok (.iload_n 3, 1) := by decide +kernel
theorem dL_law_410 : decode cL_law 410 = .ok (.iconst 1, 1) := by decide +kernel
theorem dL_law_411 : decode cL_law 411 = .ok (.iadd, 1) := by decide +kernel
theorem dL_law_412 : decode cL_law 412 = .ok (.iaload, 1) := by decide +kernel
theorem dL_law_413 : decode cL_law 413 = .ok (.invokevirtual 54, 3) := by decide +kernel
theorem dL_law_416 : decode cL_law 416 = .ok (.if_icmp .eq 537, 3) := by decide +kernel
theorem dL_law_419 : decode cL_law 419 = .ok (.iconst 0, 1) := by decide +kernel
theorem dL_law_420 : decode cL_law 420 = .ok (.ireturn, 1) := by decide +kernel
theorem dL_law_421 : decode cL_law 421 = .ok (.aload_n 1, 1) := by decide +kernel
theorem dL_law_422 : decode cL_law 422 = .ok (.aload_n 0, 1) := by decide +kernel
theorem dL_law_423 : decode cL_law 423 = .ok (.iload_n 3, 1) := by decide +kernel
theorem dL_law_424 : decode cL_law 424 = .ok (.iconst 1, 1) := by decide +kernel
theorem dL_law_425 : decode cL_law 425 = .ok (.iadd, 1) := by decide +kernel
theorem dL_law_426 : decode cL_law 426 = .ok (.iaload, 1) := by decide +kernel
theorem dL_law_427 : decode cL_law 427 = .ok (.invokevirtual 55, 3) := by decide +kernel
theorem dL_law_430 : decode cL_law 430 = .ok (.aload_n 2, 1) := by decide +kernel
theorem dL_law_431 : decode cL_law 431 = .ok (.aload_n 0, 1) := by decide +kernel
theorem dL_law_432 : decode cL_law 432 = .ok (.iload_n 3, 1) := by decide +kernel
theorem dL_law_433 : decode cL_law 433 = .ok (.iconst 1, 1) := by decide +kernel
theorem dL_law_434 : decode cL_law 434 = .ok (.iadd, 1) := by decide +kernel
theorem dL_law_435 : decode cL_law 435 = .ok (.iaload, 1) := by decide +kernel
theorem dL_law_436 : decode cL_law 436 = .ok (.invokevirtual 58, 3) := by decide +kernel
theorem dL_law_439 : decode cL_law 439 = .ok (.if_icmp .eq 514, 3) := by decide +kernel
theorem dL_law_442 : decode cL_law 442 = .ok (.iconst 0, 1) := by decide +kernel
theorem dL_law_443 : decode cL_law 443 = .ok (.ireturn, 1) := by decide +kernel
theorem dL_law_444 : decode cL_law 444 = .ok (.aload_n 1, 1) := by decide +kernel
theorem dL_law_445 : decode cL_law 445 = .ok (.aload_n 0, 1) := by decide +kernel
theorem dL_law_446 : decode cL_law 446 = .ok (.iload_n 3, 1) := by decide +kernel
theorem dL_law_447 : decode cL_law 447 = .ok (.iconst 1, 1) := by decide +kernel
theorem dL_law_448 : decode cL_law 448 = .ok (.iadd, 1) := by decide +kernel
theorem dL_law_449 : decode cL_law 449 = .ok (.iaload, 1) := by decide +kernel
theorem dL_law_450 : decode cL_law 450 = .ok (.invokevirtual 59, 3) := by decide +kernel
theorem dL_law_453 : decode cL_law 453 = .ok (.aload_n 2, 1) := by decide +kernel
theorem dL_law_454 : decode cL_law 454 = .ok (.aload_n 0, 1) := by decide +kernel
theorem dL_law_455 : decode cL_law 455 = .ok (.iload_n 3, 1) := by decide +kernel
theorem dL_law_456 : decode cL_law 456 = .ok (.iconst 1, 1) := by decide +kernel
theorem dL_law_457 : decode cL_law 457 = .ok (.iadd, 1) := by decide +kernel
theorem dL_law_458 : decode cL_law 458 = .ok (.iaload, 1) := by decide +kernel
theorem dL_law_459 : decode cL_law 459 = .ok (.invokevirtual 62, 3) := by decide +kernel
theorem dL_law_462 : decode cL_law 462 = .ok (.if_icmp .eq 491, 3) := by decide +kernel
theorem dL_law_465 : decode cL_law 465 = .ok (.iconst 0, 1) := by decide +kernel
theorem dL_law_466 : decode cL_law 466 = .ok (.ireturn, 1) := by decide +kernel
theorem dL_law_467 : decode cL_law 467 = .ok (.aload_n 1, 1) := by decide +kernel
theorem dL_law_468 : decode cL_law 468 = .ok (.invokevirtual 63, 3) := by decide +kernel
theorem dL_law_471 : decode cL_law 471 = .ok (.aload_n 2, 1) := by decide +kernel
theorem dL_law_472 : decode cL_law 472 = .ok (.invokevirtual 66, 3) := by decide +kernel
theorem dL_law_475 : decode cL_law 475 = .ok (.if_icmp .eq 478, 3) := by decide +kernel
theorem dL_law_478 : decode cL_law 478 = .ok (.iconst 0, 1) := by decide +kernel
theorem dL_law_479 : decode cL_law 479 = .ok (.ireturn, 1) := by decide +kernel
theorem dL_law_480 : decode cL_law 480 = .ok (.aload_n 1, 1) := by decide +kernel
theorem dL_law_481 : decode cL_law 481 = .ok (.aload_n 0, 1) := by decide +kernel
theorem dL_law_482 : decode cL_law 482 = .ok (.iload_n 3, 1) := by decide +kernel
theorem dL_law_483 : decode cL_law 483 = .ok (.iconst 1, 1) := by decide +kernel
theorem dL_law_484 : decode cL_law 484 = .ok (.iadd, 1) := by decide +kernel
theorem dL_law_485 : decode cL_law 485 = .ok (.iaload, 1) := by decide +kernel
theorem dL_law_486 : decode cL_law 486 = .ok (.invokevirtual 67, 3) := by decide +kernel
theorem dL_law_489 : decode cL_law 489 = .ok (.aload_n 2, 1) := by decide +kernel
theorem dL_law_490 : decode cL_law 490 = .ok (.aload_n 0, 1) := by decide +kernel
theorem dL_law_491 : decode cL_law 491 = .ok (.iload_n 3, 1) := by decide +kernel
theorem dL_law_492 : decode cL_law 492 = .ok (.iconst 1, 1) := by decide +kernel
theorem dL_law_493 : decode cL_law 493 = .ok (.iadd, 1) := by decide +kernel
theorem dL_law_494 : decode cL_law 494 = .ok (.iaload, 1) := by decide +kernel
theorem dL_law_495 : decode cL_law 495 = .ok (.invokevirtual 70, 3) := by decide +kernel
theorem dL_law_498 : decode cL_law 498 = .ok (.if_icmp .eq 455, 3) := by decide +kernel
theorem dL_law_501 : decode cL_law 501 = .ok (.iconst 0, 1) := by decide +kernel
theorem dL_law_502 : decode cL_law 502 = .ok (.ireturn, 1) := by decide +kernel
theorem dL_law_503 : decode cL_law 503 = .ok (.aload_n 1, 1) := by decide +kernel
theorem dL_law_504 : decode cL_law 504 = .ok (.aload_n 0, 1) := by decide +kernel
theorem dL_law_505 : decode cL_law 505 = .ok (.iload_n 3, 1) := by decide +kernel
theorem dL_law_506 : decode cL_law 506 = .ok (.iconst 1, 1) := by decide +kernel
theorem dL_law_507 : decode cL_law 507 = .ok (.iadd, 1) := by decide +kernel
theorem dL_law_508 : decode cL_law 508 = .ok (.iaload, 1) := by decide +kernel
theorem dL_law_509 : decode cL_law 509 = .ok (.aload_n 0, 1) := by decide +kernel
theorem dL_law_510 : decode cL_law 510 = .ok (.iload_n 3, 1) := by decide +kernel
theorem dL_law_511 : decode cL_law 511 = .ok (.iconst 2, 1) := by decide +kernel
theorem dL_law_512 : decode cL_law 512 = .ok (.iadd, 1) := by decide +kernel
theorem dL_law_513 : decode cL_law 513 = .ok (.iaload, 1) := by decide +kernel
theorem dL_law_514 : decode cL_law 514 = .ok (.aload_n 0, 1) := by decide +kernel
theorem dL_law_515 : decode cL_law 515 = .ok (.iload_n 3, 1) := by decide +kernel
theorem dL_law_516 : decode cL_law 516 = .ok (.iconst 3, 1) := by decide +kernel
theorem dL_law_517 : decode cL_law 517 = .ok (.iadd, 1) := by decide +kernel
theorem dL_law_518 : decode cL_law 518 = .ok (.iaload, 1) := by decide +kernel
theorem dL_law_519 : decode cL_law 519 = .ok (.aload_n 0, 1) := by decide +kernel
theorem dL_law_520 : decode cL_law 520 = .ok (.iload_n 3, 1) := by decide +kernel
theorem dL_law_521 : decode cL_law 521 = .ok (.iconst 4, 1) := by decide +kernel
theorem dL_law_522 : decode cL_law 522 = .ok (.iadd, 1) := by decide +kernel
theorem dL_law_523 : decode cL_law 523 = .ok (.iaload, 1) := by decide +kernel
theorem dL_law_524 : decode cL_law 524 = .ok (.invokevirtual 71, 3) := by decide +kernel
theorem dL_law_527 : decode cL_law 527 = .ok (.aload_n 2, 1) := by decide +kernel
theorem dL_law_528 : decode cL_law 528 = .ok (.aload_n 0, 1) := by decide +kernel
theorem dL_law_529 : decode cL_law 529 = .ok (.iload_n 3, 1) := by decide +kernel
theorem dL_law_530 : decode cL_law 530 = .ok (.iconst 1, 1) := by decide +kernel
theorem dL_law_531 : decode cL_law 531 = .ok (.iadd, 1) := by decide +kernel
theorem dL_law_532 : decode cL_law 532 = .ok (.iaload, 1) := by decide +kernel
theorem dL_law_533 : decode cL_law 533 = .ok (.aload_n 0, 1) := by decide +kernel
theorem dL_law_534 : decode cL_law 534 = .ok (.iload_n 3, 1) := by decide +kernel
theorem dL_law_535 : decode cL_law 535 = .ok (.iconst 2, 1) := by decide +kernel
theorem dL_law_536 : decode cL_law 536 = .ok (.iadd, 1) := by decide +kernel
theorem dL_law_537 : decode cL_law 537 = .ok (.iaload, 1) := by decide +kernel
theorem dL_law_538 : decode cL_law 538 = .ok (.aload_n 0, 1) := by decide +kernel
theorem dL_law_539 : decode cL_law 539 = .ok (.iload_n 3, 1) := by decide +kernel
theorem dL_law_540 : decode cL_law 540 = .ok (.iconst 3, 1) := by decide +kernel
theorem dL_law_541 : decode cL_law 541 = .ok (.iadd, 1) := by decide +kernel
theorem dL_law_542 : decode cL_law 542 = .ok (.iaload, 1) := by decide +kernel
theorem dL_law_543 : decode cL_law 543 = .ok (.aload_n 0, 1) := by decide +kernel
theorem dL_law_544 : decode cL_law 544 = .ok (.iload_n 3, 1) := by decide +kernel
theorem dL_law_545 : decode cL_law 545 = .ok (.iconst 4, 1) := by decide +kernel
theorem dL_law_546 : decode cL_law 546 = .ok (.iadd, 1) := by decide +kernel
theorem dL_law_547 : decode cL_law 547 = .ok (.iaload, 1) := by decide +kernel
theorem dL_law_548 : decode cL_law 548 = .ok (.invokevirtual 75, 3) := by decide +kernel
theorem dL_law_551 : decode cL_law 551 = .ok (.if_icmp .eq 402, 3) := by decide +kernel
theorem dL_law_554 : decode cL_law 554 = .ok (.iconst 0, 1) := by decide +kernel
theorem dL_law_555 : decode cL_law 555 = .ok (.ireturn, 1) := by decide +kernel
theorem dL_law_556 : decode cL_law 556 = .ok (.aload_n 1, 1) := by decide +kernel
theorem dL_law_557 : decode cL_law 557 = .ok (.aload_n 0, 1) := by decide +kernel
theorem dL_law_558 : decode cL_law 558 = .ok (.iload_n 3, 1) := by decide +kernel
theorem dL_law_559 : decode cL_law 559 = .ok (.iconst 1, 1) := by decide +kernel
theorem dL_law_560 : decode cL_law 560 = .ok (.iadd, 1) := by decide +kernel
theorem dL_law_561 : decode cL_law 561 = .ok (.iaload, 1) := by decide +kernel
theorem dL_law_562 : decode cL_law 562 = .ok (.aload_n 0, 1) := by decide +kernel
theorem dL_law_563 : decode cL_law 563 = .ok (.iload_n 3, 1) := by decide +kernel
theorem dL_law_564 : decode cL_law 564 = .ok (.iconst 2, 1) := by decide +kernel
theorem dL_law_565 : decode cL_law 565 = .ok (.iadd, 1) := by decide +kernel
theorem dL_law_566 : decode cL_law 566 = .ok (.iaload, 1) := by decide +kernel
theorem dL_law_567 : decode cL_law 567 = .ok (.invokevirtual 76, 3) := by decide +kernel
theorem dL_law_570 : decode cL_law 570 = .ok (.aload_n 2, 1) := by decide +kernel
theorem dL_law_571 : decode cL_law 571 = .ok (.aload_n 0, 1) := by decide +kernel
theorem dL_law_572 : decode cL_law 572 = .ok (.iload_n 3, 1) := by decide +kernel
theorem dL_law_573 : decode cL_law 573 = .ok (.iconst 1, 1) := by decide +kernel
theorem dL_law_574 : decode cL_law 574 = .ok (.iadd, 1) := by decide +kernel
theorem dL_law_575 : decode cL_law 575 = .ok (.iaload, 1) := by decide +kernel
theorem dL_law_576 : decode cL_law 576 = .ok (.aload_n 0, 1) := by decide +kernel
theorem dL_law_577 : decode cL_law 577 = .ok (.iload_n 3, 1) := by decide +kernel
theorem dL_law_578 : decode cL_law 578 = .ok (.iconst 2, 1) := by decide +kernel
theorem dL_law_579 : decode cL_law 579 = .ok (.iadd, 1) := by decide +kernel
theorem dL_law_580 : decode cL_law 580 = .ok (.iaload, 1) := by decide +kernel
theorem dL_law_581 : decode cL_law 581 = .ok (.invokevirtual 79, 3) := by decide +kernel
theorem dL_law_584 : decode cL_law 584 = .ok (.if_icmp .eq 369, 3) := by decide +kernel
theorem dL_law_587 : decode cL_law 587 = .ok (.iconst 0, 1) := by decide +kernel
theorem dL_law_588 : decode cL_law 588 = .ok (.ireturn, 1) := by decide +kernel
theorem dL_law_589 : decode cL_law 589 = .ok (.aload_n 1, 1) := by decide +kernel
theorem dL_law_590 : decode cL_law 590 = .ok (.aload_n 0, 1) := by decide +kernel
theorem dL_law_591 : decode cL_law 591 = .ok (.iload_n 3, 1) := by decide +kernel
theorem dL_law_592 : decode cL_law 592 = .ok (.iconst 1, 1) := by decide +kernel
theorem dL_law_593 : decode cL_law 593 = .ok (.iadd, 1) := by decide +kernel
theorem dL_law_594 : decode cL_law 594 = .ok (.iaload, 1) := by decide +kernel
theorem dL_law_595 : decode cL_law 595 = .ok (.aload_n 0, 1) := by decide +kernel
theorem dL_law_596 : decode cL_law 596 = .ok (.iload_n 3, 1) := by decide +kernel
theorem dL_law_597 : decode cL_law 597 = .ok (.iconst 2, 1) := by decide +kernel
theorem dL_law_598 : decode cL_law 598 = .ok (.iadd, 1) := by decide +kernel
theorem dL_law_599 : decode cL_law 599 = .ok (.iaload, 1) := by decide +kernel
theorem dL_law_600 : decode cL_law 600 = .ok (.invokevirtual 80, 3) := by decide +kernel
theorem dL_law_603 : decode cL_law 603 = .ok (.aload_n 2, 1) := by decide +kernel
theorem dL_law_604 : decode cL_law 604 = .ok (.aload_n 0, 1) := by decide +kernel
theorem dL_law_605 : decode cL_law 605 = .ok (.iload_n 3, 1) := by decide +kernel
theorem dL_law_606 : decode cL_law 606 = .ok (.iconst 1, 1) := by decide +kernel
theorem dL_law_607 : decode cL_law 607 = .ok (.iadd, 1) := by decide +kernel
theorem dL_law_608 : decode cL_law 608 = .ok (.iaload, 1) := by decide +kernel
theorem dL_law_609 : decode cL_law 609 = .ok (.aload_n 0, 1) := by decide +kernel
theorem dL_law_610 : decode cL_law 610 = .ok (.iload_n 3, 1) := by decide +kernel
theorem dL_law_611 : decode cL_law 611 = .ok (.iconst 2, 1) := by decide +kernel
theorem dL_law_612 : decode cL_law 612 = .ok (.iadd, 1) := by decide +kernel
theorem dL_law_613 : decode cL_law 613 = .ok (.iaload, 1) := by decide +kernel
theorem dL_law_614 : decode cL_law 614 = .ok (.invokevirtual 83, 3) := by decide +kernel
theorem dL_law_617 : decode cL_law 617 = .ok (.if_icmp .eq 336, 3) := by decide +kernel
theorem dL_law_620 : decode cL_law 620 = .ok (.iconst 0, 1) := by decide +kernel
theorem dL_law_621 : decode cL_law 621 = .ok (.ireturn, 1) := by decide +kernel
theorem dL_law_622 : decode cL_law 622 = .ok (.aload_n 1, 1) := by decide +kernel
theorem dL_law_623 : decode cL_law 623 = .ok (.aload_n 0, 1) := by decide +kernel
theorem dL_law_624 : decode cL_law 624 = .ok (.iload_n 3, 1) := by decide +kernel
theorem dL_law_625 : decode cL_law 625 = .ok (.iconst 1, 1) := by decide +kernel
theorem dL_law_626 : decode cL_law 626 = .ok (.iadd, 1) := by decide +kernel
theorem dL_law_627 : decode cL_law 627 = .ok (.iaload, 1) := by decide +kernel
theorem dL_law_628 : decode cL_law 628 = .ok (.aload_n 0, 1) := by decide +kernel
theorem dL_law_629 : decode cL_law 629 = .ok (.iload_n 3, 1) := by decide +kernel
theorem dL_law_630 : decode cL_law 630 = .ok (.iconst 2, 1) := by decide +kernel
theorem dL_law_631 : decode cL_law 631 = .ok (.iadd, 1) := by decide +kernel
theorem dL_law_632 : decode cL_law 632 = .ok (.iaload, 1) := by decide +kernel
theorem dL_law_633 : decode cL_law 633 = .ok (.aload_n 0, 1) := by decide +kernel
theorem dL_law_634 : decode cL_law 634 = .ok (.iload_n 3, 1) := by decide +kernel
theorem dL_law_635 : decode cL_law 635 = .ok (.iconst 3, 1) := by decide +kernel
theorem dL_law_636 : decode cL_law 636 = .ok (.iadd, 1) := by decide +kernel
theorem dL_law_637 : decode cL_law 637 = .ok (.iaload, 1) := by decide +kernel
theorem dL_law_638 : decode cL_law 638 = .ok (.invokevirtual 84, 3) := by decide +kernel
theorem dL_law_641 : decode cL_law 641 = .ok (.aload_n 2, 1) := by decide +kernel
theorem dL_law_642 : decode cL_law 642 = .ok (.aload_n 0, 1) := by decide +kernel
theorem dL_law_643 : decode cL_law 643 = .ok (.iload_n 3, 1) := by decide +kernel
theorem dL_law_644 : decode cL_law 644 = .ok (.iconst 1, 1) := by decide +kernel
theorem dL_law_645 : decode cL_law 645 = .ok (.iadd, 1) := by decide +kernel
theorem dL_law_646 : decode cL_law 646 = .ok (.iaload, 1) := by decide +kernel
theorem dL_law_647 : decode cL_law 647 = .ok (.aload_n 0, 1) := by decide +kernel
theorem dL_law_648 : decode cL_law 648 = .ok (.iload_n 3, 1) := by decide +kernel
theorem dL_law_649 : decode cL_law 649 = .ok (.iconst 2, 1) := by decide +kernel
theorem dL_law_650 : decode cL_law 650 = .ok (.iadd, 1) := by decide +kernel
theorem dL_law_651 : decode cL_law 651 = .ok (.iaload, 1) := by decide +kernel
theorem dL_law_652 : decode cL_law 652 = .ok (.aload_n 0, 1) := by decide +kernel
theorem dL_law_653 : decode cL_law 653 = .ok (.iload_n 3, 1) := by decide +kernel
theorem dL_law_654 : decode cL_law 654 = .ok (.iconst 3, 1) := by decide +kernel
theorem dL_law_655 : decode cL_law 655 = .ok (.iadd, 1) := by decide +kernel
theorem dL_law_656 : decode cL_law 656 = .ok (.iaload, 1) := by decide +kernel
theorem dL_law_657 : decode cL_law 657 = .ok (.invokevirtual 88, 3) := by decide +kernel
theorem dL_law_660 : decode cL_law 660 = .ok (.lcmp, 1) := by decide +kernel
theorem dL_law_661 : decode cL_law 661 = .ok (.ifCond .eq 292, 3) := by decide +kernel
theorem dL_law_664 : decode cL_law 664 = .ok (.iconst 0, 1) := by decide +kernel
theorem dL_law_665 : decode cL_law 665 = .ok (.ireturn, 1) := by decide +kernel
theorem dL_law_666 : decode cL_law 666 = .ok (.aload_n 1, 1) := by decide +kernel
theorem dL_law_667 : decode cL_law 667 = .ok (.aload_n 0, 1) := by decide +kernel
theorem dL_law_668 : decode cL_law 668 = .ok (.iload_n 3, 1) := by decide +kernel
theorem dL_law_669 : decode cL_law 669 = .ok (.iconst 1, 1) := by decide +kernel
theorem dL_law_670 : decode cL_law 670 = .ok (.iadd, 1) := by decide +kernel
theorem dL_law_671 : decode cL_law 671 = .ok (.iaload, 1) := by decide +kernel
theorem dL_law_672 : decode cL_law 672 = .ok (.invokevirtual 89, 3) := by decide +kernel
theorem dL_law_675 : decode cL_law 675 = .ok (.aload_n 2, 1) := by decide +kernel
theorem dL_law_676 : decode cL_law 676 = .ok (.aload_n 0, 1) := by decide +kernel
theorem dL_law_677 : decode cL_law 677 = .ok (.iload_n 3, 1) := by decide +kernel
theorem dL_law_678 : decode cL_law 678 = .ok (.iconst 1, 1) := by decide +kernel
theorem dL_law_679 : decode cL_law 679 = .ok (.iadd, 1) := by decide +kernel
theorem dL_law_680 : decode cL_law 680 = .ok (.iaload, 1) := by decide +kernel
theorem dL_law_681 : decode cL_law 681 = .ok (.invokevirtual 92, 3) := by decide +kernel
theorem dL_law_684 : decode cL_law 684 = .ok (.if_icmp .eq 269, 3) := by decide +kernel
theorem dL_law_687 : decode cL_law 687 = .ok (.iconst 0, 1) := by decide +kernel
theorem dL_law_688 : decode cL_law 688 = .ok (.ireturn, 1) := by decide +kernel
theorem dL_law_689 : decode cL_law 689 = .ok (.aload_n 1, 1) := by decide +kernel
theorem dL_law_690 : decode cL_law 690 = .ok (.invokevirtual 93, 3) := by decide +kernel
theorem dL_law_693 : decode cL_law 693 = .ok (.aload_n 2, 1) := by decide +kernel
theorem dL_law_694 : decode cL_law 694 = .ok (.invokevirtual 96, 3) := by decide +kernel
theorem dL_law_697 : decode cL_law 697 = .ok (.if_icmp .eq 256, 3) := by decide +kernel
theorem dL_law_700 : decode cL_law 700 = .ok (.iconst 0, 1) := by decide +kernel
theorem dL_law_701 : decode cL_law 701 = .ok (.ireturn, 1) := by decide +kernel
theorem dL_law_702 : decode cL_law 702 = .ok (.aload_n 1, 1) := by decide +kernel
theorem dL_law_703 : decode cL_law 703 = .ok (.aload_n 0, 1) := by decide +kernel
theorem dL_law_704 : decode cL_law 704 = .ok (.iload_n 3, 1) := by decide +kernel
theorem dL_law_705 : decode cL_law 705 = .ok (.iconst 1, 1) := by decide +kernel
theorem dL_law_706 : decode cL_law 706 = .ok (.iadd, 1) := by decide +kernel
theorem dL_law_707 : decode cL_law 707 = .ok (.iaload, 1) := by decide +kernel
theorem dL_law_708 : decode cL_law 708 = .ok (.invokevirtual 97, 3) := by decide +kernel
theorem dL_law_711 : decode cL_law 711 = .ok (.aload_n 2, 1) := by decide +kernel
theorem dL_law_712 : decode cL_law 712 = .ok (.aload_n 0, 1) := by decide +kernel
theorem dL_law_713 : decode cL_law 713 = .ok (.iload_n 3, 1) := by decide +kernel
theorem dL_law_714 : decode cL_law 714 = .ok (.iconst 1, 1) := by decide +kernel
theorem dL_law_715 : decode cL_law 715 = .ok (.iadd, 1) := by decide +kernel
theorem dL_law_716 : decode cL_law 716 = .ok (.iaload, 1) := by decide +kernel
theorem dL_law_717 : decode cL_law 717 = .ok (.invokevirtual 100, 3) := by decide +kernel
theorem dL_law_720 : decode cL_law 720 = .ok (.if_icmp .eq 233, 3) := by decide +kernel
theorem dL_law_723 : decode cL_law 723 = .ok (.iconst 0, 1) := by decide +kernel
theorem dL_law_724 : decode cL_law 724 = .ok (.ireturn, 1) := by decide +kernel
theorem dL_law_725 : decode cL_law 725 = .ok (.aload_n 1, 1) := by decide +kernel
theorem dL_law_726 : decode cL_law 726 = .ok (.aload_n 0, 1) := by decide +kernel
theorem dL_law_727 : decode cL_law 727 = .ok (.iload_n 3, 1) := by decide +kernel
theorem dL_law_728 : decode cL_law 728 = .ok (.iconst 1, 1) := by decide +kernel
theorem dL_law_729 : decode cL_law 729 = .ok (.iadd, 1) := by decide +kernel
theorem dL_law_730 : decode cL_law 730 = .ok (.iaload, 1) := by decide +kernel
theorem dL_law_731 : decode cL_law 731 = .ok (.aload_n 0, 1) := by decide +kernel
theorem dL_law_732 : decode cL_law 732 = .ok (.iload_n 3, 1) := by decide +kernel
theorem dL_law_733 : decode cL_law 733 = .ok (.iconst 2, 1) := by decide +kernel
theorem dL_law_734 : decode cL_law 734 = .ok (.iadd, 1) := by decide +kernel
theorem dL_law_735 : decode cL_law 735 = .ok (.iaload, 1) := by decide +kernel
theorem dL_law_736 : decode cL_law 736 = .ok (.aload_n 0, 1) := by decide +kernel
theorem dL_law_737 : decode cL_law 737 = .ok (.iload_n 3, 1) := by decide +kernel
theorem dL_law_738 : decode cL_law 738 = .ok (.iconst 3, 1) := by decide +kernel
theorem dL_law_739 : decode cL_law 739 = .ok (.iadd, 1) := by decide +kernel
theorem dL_law_740 : decode cL_law 740 = .ok (.iaload, 1) := by decide +kernel
theorem dL_law_741 : decode cL_law 741 = .ok (.invokevirtual 101, 3) := by decide +kernel
theorem dL_law_744 : decode cL_law 744 = .ok (.aload_n 2, 1) := by decide +kernel
theorem dL_law_745 : decode cL_law 745 = .ok (.aload_n 0, 1) := by decide +kernel
theorem dL_law_746 : decode cL_law 746 = .ok (.iload_n 3, 1) := by decide +kernel
theorem dL_law_747 : decode cL_law 747 = .ok (.iconst 1, 1) := by decide +kernel
theorem dL_law_748 : decode cL_law 748 = .ok (.iadd, 1) := by decide +kernel
theorem dL_law_749 : decode cL_law 749 = .ok (.iaload, 1) := by decide +kernel
theorem dL_law_750 : decode cL_law 750 = .ok (.aload_n 0, 1) := by decide +kernel
theorem dL_law_751 : decode cL_law 751 = .ok (.iload_n 3, 1) := by decide +kernel
theorem dL_law_752 : decode cL_law 752 = .ok (.iconst 2, 1) := by decide +kernel
theorem dL_law_753 : decode cL_law 753 = .ok (.iadd, 1) := by decide +kernel
theorem dL_law_754 : decode cL_law 754 = .ok (.iaload, 1) := by decide +kernel
theorem dL_law_755 : decode cL_law 755 = .ok (.aload_n 0, 1) := by decide +kernel
theorem dL_law_756 : decode cL_law 756 = .ok (.iload_n 3, 1) := by decide +kernel
theorem dL_law_757 : decode cL_law 757 = .ok (.iconst 3, 1) := by decide +kernel
theorem dL_law_758 : decode cL_law 758 = .ok (.iadd, 1) := by decide +kernel
theorem dL_law_759 : decode cL_law 759 = .ok (.iaload, 1) := by decide +kernel
theorem dL_law_760 : decode cL_law 760 = .ok (.invokevirtual 105, 3) := by decide +kernel
theorem dL_law_763 : decode cL_law 763 = .ok (.if_icmp .eq 190, 3) := by decide +kernel
theorem dL_law_766 : decode cL_law 766 = .ok (.iconst 0, 1) := by decide +kernel
theorem dL_law_767 : decode cL_law 767 = .ok (.ireturn, 1) := by decide +kernel
theorem dL_law_768 : decode cL_law 768 = .ok (.aload_n 1, 1) := by decide +kernel
theorem dL_law_769 : decode cL_law 769 = .ok (.aload_n 0, 1) := by decide +kernel
theorem dL_law_770 : decode cL_law 770 = .ok (.iload_n 3, 1) := by decide +kernel
theorem dL_law_771 : decode cL_law 771 = .ok (.iconst 1, 1) := by decide +kernel
theorem dL_law_772 : decode cL_law 772 = .ok (.iadd, 1) := by decide +kernel
theorem dL_law_773 : decode cL_law 773 = .ok (.iaload, 1) := by decide +kernel
theorem dL_law_774 : decode cL_law 774 = .ok (.invokevirtual 106, 3) := by decide +kernel
theorem dL_law_777 : decode cL_law 777 = .ok (.aload_n 2, 1) := by decide +kernel
theorem dL_law_778 : decode cL_law 778 = .ok (.aload_n 0, 1) := by decide +kernel
theorem dL_law_779 : decode cL_law 779 = .ok (.iload_n 3, 1) := by decide +kernel
theorem dL_law_780 : decode cL_law 780 = .ok (.iconst 1, 1) := by decide +kernel
theorem dL_law_781 : decode cL_law 781 = .ok (.iadd, 1) := by decide +kernel
theorem dL_law_782 : decode cL_law 782 = .ok (.iaload, 1) := by decide +kernel
theorem dL_law_783 : decode cL_law 783 = .ok (.invokevirtual 109, 3) := by decide +kernel
theorem dL_law_786 : decode cL_law 786 = .ok (.if_icmp .eq 167, 3) := by decide +kernel
theorem dL_law_789 : decode cL_law 789 = .ok (.iconst 0, 1) := by decide +kernel
theorem dL_law_790 : decode cL_law 790 = .ok (.ireturn, 1) := by decide +kernel
theorem dL_law_791 : decode cL_law 791 = .ok (.aload_n 1, 1) := by decide +kernel
theorem dL_law_792 : decode cL_law 792 = .ok (.invokevirtual 110, 3) := by decide +kernel
theorem dL_law_795 : decode cL_law 795 = .ok (.aload_n 2, 1) := by decide +kernel
theorem dL_law_796 : decode cL_law 796 = .ok (.invokevirtual 113, 3) := by decide +kernel
theorem dL_law_799 : decode cL_law 799 = .ok (.if_icmp .eq 154, 3) := by decide +kernel
theorem dL_law_802 : decode cL_law 802 = .ok (.iconst 0, 1) := by decide +kernel
theorem dL_law_803 : decode cL_law 803 = .ok (.ireturn, 1) := by decide +kernel
theorem dL_law_804 : decode cL_law 804 = .ok (.aload_n 1, 1) := by decide +kernel
theorem dL_law_805 : decode cL_law 805 = .ok (.aload_n 0, 1) := by decide +kernel
theorem dL_law_806 : decode cL_law 806 = .ok (.iload_n 3, 1) := by decide +kernel
theorem dL_law_807 : decode cL_law 807 = .ok (.iconst 1, 1) := by decide +kernel
theorem dL_law_808 : decode cL_law 808 = .ok (.iadd, 1) := by decide +kernel
theorem dL_law_809 : decode cL_law 809 = .ok (.iaload, 1) := by decide +kernel
theorem dL_law_810 : decode cL_law 810 = .ok (.aload_n 0, 1) := by decide +kernel
theorem dL_law_811 : decode cL_law 811 = .ok (.iload_n 3, 1) := by decide +kernel
theorem dL_law_812 : decode cL_law 812 = .ok (.iconst 2, 1) := by decide +kernel
theorem dL_law_813 : decode cL_law 813 = .ok (.iadd, 1) := by decide +kernel
theorem dL_law_814 : decode cL_law 814 = .ok (.iaload, 1) := by decide +kernel
theorem dL_law_815 : decode cL_law 815 = .ok (.invokevirtual 114, 3) := by decide +kernel
theorem dL_law_818 : decode cL_law 818 = .ok (.aload_n 2, 1) := by decide +kernel
theorem dL_law_819 : decode cL_law 819 = .ok (.aload_n 0, 1) := by decide +kernel
theorem dL_law_820 : decode cL_law 820 = .ok (.iload_n 3, 1) := by decide +kernel
theorem dL_law_821 : decode cL_law 821 = .ok (.iconst 1, 1) := by decide +kernel
theorem dL_law_822 : decode cL_law 822 = .ok (.iadd, 1) := by decide +kernel
theorem dL_law_823 : decode cL_law 823 = .ok (.iaload, 1) := by decide +kernel
theorem dL_law_824 : decode cL_law 824 = .ok (.aload_n 0, 1) := by decide +kernel
theorem dL_law_825 : decode cL_law 825 = .ok (.iload_n 3, 1) := by decide +kernel
theorem dL_law_826 : decode cL_law 826 = .ok (.iconst 2, 1) := by decide +kernel
theorem dL_law_827 : decode cL_law 827 = .ok (.iadd, 1) := by decide +kernel
theorem dL_law_828 : decode cL_law 828 = .ok (.iaload, 1) := by decide +kernel
theorem dL_law_829 : decode cL_law 829 = .ok (.invokevirtual 117, 3) := by decide +kernel
theorem dL_law_832 : decode cL_law 832 = .ok (.if_icmp .eq 121, 3) := by decide +kernel
theorem dL_law_835 : decode cL_law 835 = .ok (.iconst 0, 1) := by decide +kernel
theorem dL_law_836 : decode cL_law 836 = .ok (.ireturn, 1) := by decide +kernel
theorem dL_law_837 : decode cL_law 837 = .ok (.aload_n 1, 1) := by decide +kernel
theorem dL_law_838 : decode cL_law 838 = .ok (.aload_n 0, 1) := by decide +kernel
theorem dL_law_839 : decode cL_law 839 = .ok (.iload_n 3, 1) := by decide +kernel
theorem dL_law_840 : decode cL_law 840 = .ok (.iconst 1, 1) := by decide +kernel
theorem dL_law_841 : decode cL_law 841 = .ok (.iadd, 1) := by decide +kernel
theorem dL_law_842 : decode cL_law 842 = .ok (.iaload, 1) := by decide +kernel
theorem dL_law_843 : decode cL_law 843 = .ok (.aload_n 0, 1) := by decide +kernel
theorem dL_law_844 : decode cL_law 844 = .ok (.iload_n 3, 1) := by decide +kernel
theorem dL_law_845 : decode cL_law 845 = .ok (.iconst 2, 1) := by decide +kernel
theorem dL_law_846 : decode cL_law 846 = .ok (.iadd, 1) := by decide +kernel
theorem dL_law_847 : decode cL_law 847 = .ok (.iaload, 1) := by decide +kernel
theorem dL_law_848 : decode cL_law 848 = .ok (.invokevirtual 118, 3) := by decide +kernel
theorem dL_law_851 : decode cL_law 851 = .ok (.aload_n 2, 1) := by decide +kernel
theorem dL_law_852 : decode cL_law 852 = .ok (.aload_n 0, 1) := by decide +kernel
theorem dL_law_853 : decode cL_law 853 = .ok (.iload_n 3, 1) := by decide +kernel
theorem dL_law_854 : decode cL_law 854 = .ok (.iconst 1, 1) := by decide +kernel
theorem dL_law_855 : decode cL_law 855 = .ok (.iadd, 1) := by decide +kernel
theorem dL_law_856 : decode cL_law 856 = .ok (.iaload, 1) := by decide +kernel
theorem dL_law_857 : decode cL_law 857 = .ok (.aload_n 0, 1) := by decide +kernel
theorem dL_law_858 : decode cL_law 858 = .ok (.iload_n 3, 1) := by decide +kernel
theorem dL_law_859 : decode cL_law 859 = .ok (.iconst 2, 1) := by decide +kernel
theorem dL_law_860 : decode cL_law 860 = .ok (.iadd, 1) := by decide +kernel
theorem dL_law_861 : decode cL_law 861 = .ok (.iaload, 1) := by decide +kernel
theorem dL_law_862 : decode cL_law 862 = .ok (.invokevirtual 121, 3) := by decide +kernel
theorem dL_law_865 : decode cL_law 865 = .ok (.if_icmp .eq 88, 3) := by decide +kernel
theorem dL_law_868 : decode cL_law 868 = .ok (.iconst 0, 1) := by decide +kernel
theorem dL_law_869 : decode cL_law 869 = .ok (.ireturn, 1) := by decide +kernel
theorem dL_law_870 : decode cL_law 870 = .ok (.aload_n 1, 1) := by decide +kernel
theorem dL_law_871 : decode cL_law 871 = .ok (.aload_n 0, 1) := by decide +kernel
theorem dL_law_872 : decode cL_law 872 = .ok (.iload_n 3, 1) := by decide +kernel
theorem dL_law_873 : decode cL_law 873 = .ok (.iconst 1, 1) := by decide +kernel
theorem dL_law_874 : decode cL_law 874 = .ok (.iadd, 1) := by decide +kernel
theorem dL_law_875 : decode cL_law 875 = .ok (.iaload, 1) := by decide +kernel
theorem dL_law_876 : decode cL_law 876 = .ok (.invokevirtual 122, 3) := by decide +kernel
theorem dL_law_879 : decode cL_law 879 = .ok (.aload_n 2, 1) := by decide +kernel
theorem dL_law_880 : decode cL_law 880 = .ok (.aload_n 0, 1) := by decide +kernel
theorem dL_law_881 : decode cL_law 881 = .ok (.iload_n 3, 1) := by decide +kernel
theorem dL_law_882 : decode cL_law 882 = .ok (.iconst 1, 1) := by decide +kernel
theorem dL_law_883 : decode cL_law 883 = .ok (.iadd, 1) := by decide +kernel
theorem dL_law_884 : decode cL_law 884 = .ok (.iaload, 1) := by decide +kernel
theorem dL_law_885 : decode cL_law 885 = .ok (.invokevirtual 125, 3) := by decide +kernel
theorem dL_law_888 : decode cL_law 888 = .ok (.if_icmp .eq 65, 3) := by decide +kernel
theorem dL_law_891 : decode cL_law 891 = .ok (.iconst 0, 1) := by decide +kernel
theorem dL_law_892 : decode cL_law 892 = .ok (.ireturn, 1) := by decide +kernel
theorem dL_law_893 : decode cL_law 893 = .ok (.aload_n 1, 1) := by decide +kernel
theorem dL_law_894 : decode cL_law 894 = .ok (.aload_n 0, 1) := by decide +kernel
theorem dL_law_895 : decode cL_law 895 = .ok (.iload_n 3, 1) := by decide +kernel
theorem dL_law_896 : decode cL_law 896 = .ok (.iconst 1, 1) := by decide +kernel
theorem dL_law_897 : decode cL_law 897 = .ok (.iadd, 1) := by decide +kernel
theorem dL_law_898 : decode cL_law 898 = .ok (.iaload, 1) := by decide +kernel
theorem dL_law_899 : decode cL_law 899 = .ok (.invokevirtual 126, 3) := by decide +kernel
theorem dL_law_902 : decode cL_law 902 = .ok (.aload_n 2, 1) := by decide +kernel
theorem dL_law_903 : decode cL_law 903 = .ok (.aload_n 0, 1) := by decide +kernel
theorem dL_law_904 : decode cL_law 904 = .ok (.iload_n 3, 1) := by decide +kernel
theorem dL_law_905 : decode cL_law 905 = .ok (.iconst 1, 1) := by decide +kernel
theorem dL_law_906 : decode cL_law 906 = .ok (.iadd, 1) := by decide +kernel
theorem dL_law_907 : decode cL_law 907 = .ok (.iaload, 1) := by decide +kernel
theorem dL_law_908 : decode cL_law 908 = .ok (.invokevirtual 129, 3) := by decide +kernel
theorem dL_law_911 : decode cL_law 911 = .ok (.if_icmp .eq 42, 3) := by decide +kernel
theorem dL_law_914 : decode cL_law 914 = .ok (.iconst 0, 1) := by decide +kernel
theorem dL_law_915 : decode cL_law 915 = .ok (.ireturn, 1) := by decide +kernel
theorem dL_law_916 : decode cL_law 916 = .ok (.aload_n 1, 1) := by decide +kernel
theorem dL_law_917 : decode cL_law 917 = .ok (.aload_n 0, 1) := by decide +kernel
theorem dL_law_918 : decode cL_law 918 = .ok (.iload_n 3, 1) := by decide +kernel
theorem dL_law_919 : decode cL_law 919 = .ok (.iconst 1, 1) := by decide +kernel
theorem dL_law_920 : decode cL_law 920 = .ok (.iadd, 1) := by decide +kernel
theorem dL_law_921 : decode cL_law 921 = .ok (.iaload, 1) := by decide +kernel
theorem dL_law_922 : decode cL_law 922 = .ok (.invokevirtual 130, 3) := by decide +kernel
theorem dL_law_925 : decode cL_law 925 = .ok (.aload_n 2, 1) := by decide +kernel
theorem dL_law_926 : decode cL_law 926 = .ok (.aload_n 0, 1) := by decide +kernel
theorem dL_law_927 : decode cL_law 927 = .ok (.iload_n 3, 1) := by decide +kernel
theorem dL_law_928 : decode cL_law 928 = .ok (.iconst 1, 1) := by decide +kernel
theorem dL_law_929 : decode cL_law 929 = .ok (.iadd, 1) := by decide +kernel
theorem dL_law_930 : decode cL_law 930 = .ok (.iaload, 1) := by decide +kernel
theorem dL_law_931 : decode cL_law 931 = .ok (.invokevirtual 133, 3) := by decide +kernel
theorem dL_law_934 : decode cL_law 934 = .ok (.if_icmp .eq 19, 3) := by decide +kernel
theorem dL_law_937 : decode cL_law 937 = .ok (.iconst 0, 1) := by decide +kernel
theorem dL_law_938 : decode cL_law 938 = .ok (.ireturn, 1) := by decide +kernel
theorem dL_law_939 : decode cL_law 939 = .ok (.aload_n 1, 1) := by decide +kernel
theorem dL_law_940 : decode cL_law 940 = .ok (.invokevirtual 134, 3) := by decide +kernel
theorem dL_law_943 : decode cL_law 943 = .ok (.aload_n 2, 1) := by decide +kernel
theorem dL_law_944 : decode cL_law 944 = .ok (.invokevirtual 138, 3) := by decide +kernel
theorem dL_law_947 : decode cL_law 947 = .ok (.lcmp, 1) := by decide +kernel
theorem dL_law_948 : decode cL_law 948 = .ok (.ifCond .eq 5, 3) := by decide +kernel
theorem dL_law_951 : decode cL_law 951 = .ok (.iconst 0, 1) := by decide +kernel
theorem dL_law_952 : decode cL_law 952 = .ok (.ireturn, 1) := by decide +kernel
theorem dL_law_953 : decode cL_law 953 = .ok (.iinc 3 5, 3) := by decide +kernel
theorem dL_law_956 : decode cL_law 956 = .ok (.goto (-938), 3) := by decide +kernel
theorem dL_law_959 : decode cL_law 959 = .ok (.iconst 1, 1) := by decide +kernel
theorem dL_law_960 : decode cL_law 960 = .ok (.ireturn, 1) := by decide +kernel
