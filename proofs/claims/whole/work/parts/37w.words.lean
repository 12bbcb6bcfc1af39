/-- the code of NoSuchElementException(String): its link stands at index 13 -/
def rNse : ByteArray := ⟨#[0x2a, 0x2b, 0xb7, 0x00, 0x0d, 0xb1]⟩
def vx_atX (own : String) (ic : Nat) (X : String) (ix : Nat) (rx : ByteArray) (names : List String) : List Cond := (Bundle.ownAtomsX own ic X ix rx names).filter vx_no
def wsX5_feedB : List Cond := .code yX5_feed cX5_feed 7 (some .int) :: ((wsX5_feed_r1 ++ wsX5_feed_r2) ++ wsX50 ++ wsX40 ++ (vx_atX RX5 57 "java/util/NoSuchElementException" 13 rNse ["java/lang/RuntimeException", "java/lang/Exception"]).filter goodWord ++ (vx_atS RX5 72 "java/lang/IllegalStateException" ["java/lang/RuntimeException", "java/lang/Exception"]).filter goodWord)
def wsX5_clearB : List Cond := .code yX5_clear cX5_clear 4 (some .int) :: ([.classLink RX5 53 "java/util/NoSuchElementException", .initialized "java/util/NoSuchElementException", .fieldLink RX5 14 "TextAligner" "pattern" "LTextAligner$SignRow;", .fieldLink RX5 18 "TextAligner" "text" "LTextAligner$SignRow;", .methodLink RX5 76 yX4_size, .instanceMethod yX4_size, .selects RX4 yX4_size yX4_size, .initialized RX4, .code yX4_size cX4_size 1 (some .int), .fieldLink RX4 13 "TextAligner$SignRow" "size" "I", .methodLink RX5 79 yX4_becomeEmpty, .instanceMethod yX4_becomeEmpty, .selects RX4 yX4_becomeEmpty yX4_becomeEmpty, .code yX4_becomeEmpty cX4_becomeEmpty 1 none] ++ wsX50 ++ wsX40 ++ (vx_atX RX5 57 "java/util/NoSuchElementException" 13 rNse ["java/lang/RuntimeException", "java/lang/Exception"]).filter goodWord)
def wsX5_foundB : List Cond := .code yX5_found cX5_found 3 (some .int) :: ((wsX5_found_r1 ++ (wsX5_found_r2 ++ (wsX5_found_r3 ++ wsX5_found_r4))) ++ wsX50 ++ wsX00 ++ wsX30 ++ wsX40 ++ (vx_atX RX5 57 "java/util/NoSuchElementException" 13 rNse ["java/lang/RuntimeException", "java/lang/Exception"]).filter goodWord ++ (vx_atS RX5 86 "java/lang/IllegalArgumentException" ["java/lang/RuntimeException", "java/lang/Exception"]).filter goodWord)
def wsX5_stepB : List Cond := .code yX5_step cX5_step 3 (some .int) :: ((wsX5_step_r1 ++ (wsX5_step_r2 ++ (wsX5_step_r3 ++ wsX5_step_r4))) ++ wsX50 ++ wsX00 ++ wsX30 ++ wsX40 ++ (vx_atX RX5 57 "java/util/NoSuchElementException" 13 rNse ["java/lang/RuntimeException", "java/lang/Exception"]).filter goodWord)
def wsX5_scoreB : List Cond := .code yX5_score cX5_score 5 (some .int) :: ([.classLink RX5 53 "java/util/NoSuchElementException", .initialized "java/util/NoSuchElementException", .classLink RX5 82 "java/lang/IllegalArgumentException", .initialized "java/lang/IllegalArgumentException", .fieldLink RX5 24 "TextAligner" "scoring" "LTextAligner$Scoring;", .methodLink RX5 125 yX2_ofKinds, .instanceMethod yX2_ofKinds, .selects RX2 yX2_ofKinds yX2_ofKinds, .initialized RX2, .code yX2_ofKinds cX2_ofKinds 3 (some .int), .fieldLink RX2 11 "TextAligner$Scoring" "table" "[[I", .methodLink RX5 129 yX2_putForKinds, .instanceMethod yX2_putForKinds, .selects RX2 yX2_putForKinds yX2_putForKinds, .code yX2_putForKinds cX2_putForKinds 4 none] ++ wsX50 ++ wsX20 ++ (vx_atX RX5 57 "java/util/NoSuchElementException" 13 rNse ["java/lang/RuntimeException", "java/lang/Exception"]).filter goodWord ++ (vx_atS RX5 86 "java/lang/IllegalArgumentException" ["java/lang/RuntimeException", "java/lang/Exception"]).filter goodWord)
set_option maxRecDepth 20000 in
theorem ggX5_feedB_X5_signsIn : GoodIn wsX5_feedB wsX5_signsIn := goodIn_r _ [10] (by decide +kernel) (by decide +kernel)
set_option maxRecDepth 20000 in
theorem gX5_feedB_X5_signsIn : GoodIn wsX5_feedB (va_wsS RX5 60 yX5_signsIn wsX5_signsIn) := goodIn_app (goodIn_of _ (by decide +kernel)) ggX5_feedB_X5_signsIn
set_option maxRecDepth 20000 in
theorem ggX5_feedB_X4_room : GoodIn wsX5_feedB wsX4_room := goodIn_r _ [15, 16, 17, 33, 34] (by decide +kernel) (by decide +kernel)
set_option maxRecDepth 20000 in
theorem gX5_feedB_X4_room : GoodIn wsX5_feedB (wsV RX5 64 RX4 yX4_room wsX4_room) := goodIn_app (goodIn_of _ (by decide +kernel)) ggX5_feedB_X4_room
set_option maxRecDepth 20000 in
theorem ggX5_feedB_X4_takeSignsOf : GoodIn wsX5_feedB wsX4_takeSignsOf := goodIn_r _ [21, 17, 16, 33, 34] (by decide +kernel) (by decide +kernel)
set_option maxRecDepth 20000 in
theorem gX5_feedB_X4_takeSignsOf : GoodIn wsX5_feedB (wsV RX5 73 RX4 yX4_takeSignsOf wsX4_takeSignsOf) := goodIn_app (goodIn_of _ (by decide +kernel)) ggX5_feedB_X4_takeSignsOf
set_option maxRecDepth 20000 in
theorem ggX5_feedB_X4_size : GoodIn wsX5_feedB wsX4_size := goodIn_r _ [25, 17, 33, 34] (by decide +kernel) (by decide +kernel)
set_option maxRecDepth 20000 in
theorem gX5_feedB_X4_size : GoodIn wsX5_feedB (wsV RX5 76 RX4 yX4_size wsX4_size) := goodIn_app (goodIn_of _ (by decide +kernel)) ggX5_feedB_X4_size
set_option maxRecDepth 20000 in
theorem ggX5_clearB_X4_size : GoodIn wsX5_clearB wsX4_size := goodIn_r _ [9, 10, 22, 23] (by decide +kernel) (by decide +kernel)
set_option maxRecDepth 20000 in
theorem gX5_clearB_X4_size : GoodIn wsX5_clearB (wsV RX5 76 RX4 yX4_size wsX4_size) := goodIn_app (goodIn_of _ (by decide +kernel)) ggX5_clearB_X4_size
set_option maxRecDepth 20000 in
theorem ggX5_clearB_X4_becomeEmpty : GoodIn wsX5_clearB wsX4_becomeEmpty := goodIn_r _ [14, 10, 22, 23] (by decide +kernel) (by decide +kernel)
set_option maxRecDepth 20000 in
theorem gX5_clearB_X4_becomeEmpty : GoodIn wsX5_clearB (wsV RX5 79 RX4 yX4_becomeEmpty wsX4_becomeEmpty) := goodIn_app (goodIn_of _ (by decide +kernel)) ggX5_clearB_X4_becomeEmpty
set_option maxRecDepth 20000 in
theorem ggX5_foundB_X0_size : GoodIn wsX5_foundB wsX0_size := goodIn_r _ [11, 12, 89, 90, 91, 92, 93, 94, 95, 96] (by decide +kernel) (by decide +kernel)
set_option maxRecDepth 20000 in
theorem gX5_foundB_X0_size : GoodIn wsX5_foundB (wsV RX5 93 RX0 yX0_size wsX0_size) := goodIn_app (goodIn_of _ (by decide +kernel)) ggX5_foundB_X0_size
set_option maxRecDepth 20000 in
theorem ggX5_foundB_X0_endOf : GoodIn wsX5_foundB wsX0_endOf := goodIn_r _ [16, 17, 89, 90, 91, 92, 93, 94, 95, 96] (by decide +kernel) (by decide +kernel)
set_option maxRecDepth 20000 in
theorem gX5_foundB_X0_endOf : GoodIn wsX5_foundB (wsV RX5 96 RX0 yX0_endOf wsX0_endOf) := goodIn_app (goodIn_of _ (by decide +kernel)) ggX5_foundB_X0_endOf
set_option maxRecDepth 20000 in
theorem ggX5_foundB_X0_distanceOf : GoodIn wsX5_foundB wsX0_distanceOf := goodIn_r _ [21, 22, 89, 90, 91, 92, 93, 94, 95, 96] (by decide +kernel) (by decide +kernel)
set_option maxRecDepth 20000 in
theorem gX5_foundB_X0_distanceOf : GoodIn wsX5_foundB (wsV RX5 99 RX0 yX0_distanceOf wsX0_distanceOf) := goodIn_app (goodIn_of _ (by decide +kernel)) ggX5_foundB_X0_distanceOf
set_option maxRecDepth 20000 in
theorem ggX5_foundB_X0_startOf : GoodIn wsX5_foundB wsX0_startOf := goodIn_r _ [26, 27, 89, 90, 91, 92, 93, 94, 95, 96] (by decide +kernel) (by decide +kernel)
set_option maxRecDepth 20000 in
theorem gX5_foundB_X0_startOf : GoodIn wsX5_foundB (wsV RX5 102 RX0 yX0_startOf wsX0_startOf) := goodIn_app (goodIn_of _ (by decide +kernel)) ggX5_foundB_X0_startOf
set_option maxRecDepth 20000 in
theorem ggX5_foundB_X5_writeScriptOf : GoodIn wsX5_foundB wsX5_writeScriptOf := goodIn_r _ [32, 33, 6, 5, 34, 35, 36, 10, 37, 38, 39, 40, 41, 42, 43, 23, 24, 25, 26, 27, 13, 14, 15, 16, 17, 44, 45, 46, 47, 48, 49, 50, 51, 52, 53, 54, 55, 56, 57, 58, 59, 60, 61, 62, 63, 64, 65, 66, 67, 68, 69, 70, 71, 72, 73, 74, 75, 76, 77, 82, 83, 84, 85, 86, 87, 88, 89, 90, 91, 92, 93, 94, 95, 96, 97, 98, 99, 100, 101] (by decide +kernel) (by decide +kernel)
set_option maxRecDepth 20000 in
theorem gX5_foundB_X5_writeScriptOf : GoodIn wsX5_foundB (wsV RX5 105 RX5 yX5_writeScriptOf wsX5_writeScriptOf) := goodIn_app (goodIn_of _ (by decide +kernel)) ggX5_foundB_X5_writeScriptOf
set_option maxRecDepth 20000 in
theorem ggX5_foundB_X3_length : GoodIn wsX5_foundB wsX3_length := goodIn_r _ [81, 49, 97, 98, 99] (by decide +kernel) (by decide +kernel)
set_option maxRecDepth 20000 in
theorem gX5_foundB_X3_length : GoodIn wsX5_foundB (wsV RX5 108 RX3 yX3_length wsX3_length) := goodIn_app (goodIn_of _ (by decide +kernel)) ggX5_foundB_X3_length
set_option maxRecDepth 20000 in
theorem ggX5_stepB_X0_size : GoodIn wsX5_stepB wsX0_size := goodIn_r _ [9, 10, 86, 87, 88, 89, 90, 91, 92, 93] (by decide +kernel) (by decide +kernel)
set_option maxRecDepth 20000 in
theorem gX5_stepB_X0_size : GoodIn wsX5_stepB (wsV RX5 93 RX0 yX0_size wsX0_size) := goodIn_app (goodIn_of _ (by decide +kernel)) ggX5_stepB_X0_size
set_option maxRecDepth 20000 in
theorem ggX5_stepB_X5_writeScriptOf : GoodIn wsX5_stepB wsX5_writeScriptOf := goodIn_r _ [15, 16, 4, 3, 17, 18, 19, 8, 20, 21, 22, 23, 24, 25, 26, 27, 28, 29, 30, 31, 32, 33, 34, 35, 36, 37, 38, 39, 40, 41, 42, 43, 44, 45, 46, 47, 48, 49, 50, 51, 52, 53, 54, 55, 56, 57, 58, 59, 60, 61, 62, 63, 64, 65, 66, 67, 68, 69, 70, 79, 80, 81, 82, 83, 84, 85, 86, 87, 88, 89, 90, 91, 92, 93, 94, 95, 96, 97, 98] (by decide +kernel) (by decide +kernel)
set_option maxRecDepth 20000 in
theorem gX5_stepB_X5_writeScriptOf : GoodIn wsX5_stepB (wsV RX5 105 RX5 yX5_writeScriptOf wsX5_writeScriptOf) := goodIn_app (goodIn_of _ (by decide +kernel)) ggX5_stepB_X5_writeScriptOf
set_option maxRecDepth 20000 in
theorem ggX5_stepB_X3_length : GoodIn wsX5_stepB wsX3_length := goodIn_r _ [74, 42, 94, 95, 96] (by decide +kernel) (by decide +kernel)
set_option maxRecDepth 20000 in
theorem gX5_stepB_X3_length : GoodIn wsX5_stepB (wsV RX5 108 RX3 yX3_length wsX3_length) := goodIn_app (goodIn_of _ (by decide +kernel)) ggX5_stepB_X3_length
set_option maxRecDepth 20000 in
theorem ggX5_stepB_X3_stepAt : GoodIn wsX5_stepB wsX3_stepAt := goodIn_r _ [78, 43, 94, 95, 96] (by decide +kernel) (by decide +kernel)
set_option maxRecDepth 20000 in
theorem gX5_stepB_X3_stepAt : GoodIn wsX5_stepB (wsV RX5 115 RX3 yX3_stepAt wsX3_stepAt) := goodIn_app (goodIn_of _ (by decide +kernel)) ggX5_stepB_X3_stepAt
set_option maxRecDepth 20000 in
theorem ggX5_scoreB_X2_ofKinds : GoodIn wsX5_scoreB wsX2_ofKinds := goodIn_r _ [10, 11, 23, 24, 25] (by decide +kernel) (by decide +kernel)
set_option maxRecDepth 20000 in
theorem gX5_scoreB_X2_ofKinds : GoodIn wsX5_scoreB (wsV RX5 125 RX2 yX2_ofKinds wsX2_ofKinds) := goodIn_app (goodIn_of _ (by decide +kernel)) ggX5_scoreB_X2_ofKinds
set_option maxRecDepth 20000 in
theorem ggX5_scoreB_X2_putForKinds : GoodIn wsX5_scoreB wsX2_putForKinds := goodIn_r _ [15, 11, 23, 24, 25] (by decide +kernel) (by decide +kernel)
set_option maxRecDepth 20000 in
theorem gX5_scoreB_X2_putForKinds : GoodIn wsX5_scoreB (wsV RX5 129 RX2 yX2_putForKinds wsX2_putForKinds) := goodIn_app (goodIn_of _ (by decide +kernel)) ggX5_scoreB_X2_putForKinds
