set_option maxRecDepth 20000 in
theorem aiJ0_charAt_5068e : pm_at pm_P 0 = some iJ0_charAt_5068e := rfl
set_option maxRecDepth 20000 in
theorem aiJ0_checkIndex_df160 : pm_at pm_P 1 = some iJ0_checkIndex_df160 := rfl
set_option maxRecDepth 20000 in
theorem aiJ0_coder_7d493 : pm_at pm_P 2 = some iJ0_coder_7d493 := rfl
set_option maxRecDepth 20000 in
theorem aiJ0_isLatin1_aae02 : pm_at pm_P 3 = some iJ0_isLatin1_aae02 := rfl
set_option maxRecDepth 20000 in
theorem aiJ0_length_8abf5 : pm_at pm_P 4 = some iJ0_length_8abf5 := rfl
set_option maxRecDepth 20000 in
theorem aiJ1_charAt_3b067 : pm_at pm_P 5 = some iJ1_charAt_3b067 := rfl
set_option maxRecDepth 20000 in
theorem aiJ3_checkIndex_8e157 : pm_at pm_P 6 = some iJ3_checkIndex_8e157 := rfl
set_option maxRecDepth 20000 in
theorem aiJ6_bitCount_0f7a4 : pm_at pm_P 7 = some iJ6_bitCount_0f7a4 := rfl
set_option maxRecDepth 20000 in
theorem aiJ9_abs_067f4 : pm_at pm_P 8 = some iJ9_abs_067f4 := rfl
set_option maxRecDepth 20000 in
theorem aiJ9_abs_0f7a4 : pm_at pm_P 9 = some iJ9_abs_0f7a4 := rfl
set_option maxRecDepth 20000 in
theorem aiJ9_max_7cf53 : pm_at pm_P 10 = some iJ9_max_7cf53 := rfl
set_option maxRecDepth 20000 in
theorem aiJ9_min_7cf53 : pm_at pm_P 11 = some iJ9_min_7cf53 := rfl
set_option maxRecDepth 20000 in
theorem aiX0_crosses : pm_at pm_P 12 = some iX0_crosses := rfl
set_option maxRecDepth 20000 in
theorem aiX0_init : pm_at pm_P 13 = some iX0_init := rfl
set_option maxRecDepth 20000 in
theorem aiX0_isLeast : pm_at pm_P 14 = some iX0_isLeast := rfl
set_option maxRecDepth 20000 in
theorem aiX0_join : pm_at pm_P 15 = some iX0_join := rfl
set_option maxRecDepth 20000 in
theorem aiX0_joinable : pm_at pm_P 16 = some iX0_joinable := rfl
set_option maxRecDepth 20000 in
theorem aiX0_labelOf : pm_at pm_P 17 = some iX0_labelOf := rfl
set_option maxRecDepth 20000 in
theorem aiX0_start : pm_at pm_P 18 = some iX0_start := rfl
set_option maxRecDepth 20000 in
theorem aiX1_come : pm_at pm_P 19 = some iX1_come := rfl
set_option maxRecDepth 20000 in
theorem aiX1_fill : pm_at pm_P 20 = some iX1_fill := rfl
set_option maxRecDepth 20000 in
theorem aiX1_firstFree : pm_at pm_P 21 = some iX1_firstFree := rfl
set_option maxRecDepth 20000 in
theorem aiX1_init : pm_at pm_P 22 = some iX1_init := rfl
set_option maxRecDepth 20000 in
theorem aiX1_isFree : pm_at pm_P 23 = some iX1_isFree := rfl
set_option maxRecDepth 20000 in
theorem aiX1_nearestFree : pm_at pm_P 24 = some iX1_nearestFree := rfl
set_option maxRecDepth 20000 in
theorem aiX1_spotFor : pm_at pm_P 25 = some iX1_spotFor := rfl
set_option maxRecDepth 20000 in
theorem aiX2_init : pm_at pm_P 26 = some iX2_init := rfl
set_option maxRecDepth 20000 in
theorem aiX2_isDigit : pm_at pm_P 27 = some iX2_isDigit := rfl
set_option maxRecDepth 20000 in
theorem aiX2_isLetter : pm_at pm_P 28 = some iX2_isLetter := rfl
set_option maxRecDepth 20000 in
theorem aiX2_isWord : pm_at pm_P 29 = some iX2_isWord := rfl
set_option maxRecDepth 20000 in
theorem aiX2_readCar : pm_at pm_P 30 = some iX2_readCar := rfl
set_option maxRecDepth 20000 in
theorem aiX2_readDigits : pm_at pm_P 31 = some iX2_readDigits := rfl
set_option maxRecDepth 20000 in
theorem aiX2_readHead : pm_at pm_P 32 = some iX2_readHead := rfl
set_option maxRecDepth 20000 in
theorem aiX2_readJoin : pm_at pm_P 33 = some iX2_readJoin := rfl
set_option maxRecDepth 20000 in
theorem aiX2_readLetters : pm_at pm_P 34 = some iX2_readLetters := rfl
set_option maxRecDepth 20000 in
theorem aiX2_readLine : pm_at pm_P 35 = some iX2_readLine := rfl
set_option maxRecDepth 20000 in
theorem aiX2_readTape : pm_at pm_P 36 = some iX2_readTape := rfl
set_option maxRecDepth 20000 in
theorem aiX2_readToken : pm_at pm_P 37 = some iX2_readToken := rfl
set_option maxRecDepth 20000 in
theorem aiX2_refuse : pm_at pm_P 38 = some iX2_refuse := rfl
set_option maxRecDepth 20000 in
theorem aiX2_takeNumber : pm_at pm_P 39 = some iX2_takeNumber := rfl
set_option maxRecDepth 20000 in
theorem aiX2_takeSemicolon : pm_at pm_P 40 = some iX2_takeSemicolon := rfl
set_option maxRecDepth 20000 in
theorem aiX2_takeWord : pm_at pm_P 41 = some iX2_takeWord := rfl
set_option maxRecDepth 20000 in
theorem aiX3_fill : pm_at pm_P 42 = some iX3_fill := rfl
set_option maxRecDepth 20000 in
theorem aiX3_init : pm_at pm_P 43 = some iX3_init := rfl
set_option maxRecDepth 20000 in
theorem aiX4_begin : pm_at pm_P 44 = some iX4_begin := rfl
set_option maxRecDepth 20000 in
theorem aiX4_holds : pm_at pm_P 45 = some iX4_holds := rfl
set_option maxRecDepth 20000 in
theorem aiX4_init : pm_at pm_P 46 = some iX4_init := rfl
set_option maxRecDepth 20000 in
theorem aiX5_addAct : pm_at pm_P 47 = some iX5_addAct := rfl
set_option maxRecDepth 20000 in
theorem aiX5_addCar : pm_at pm_P 48 = some iX5_addCar := rfl
set_option maxRecDepth 20000 in
theorem aiX5_addJoin : pm_at pm_P 49 = some iX5_addJoin := rfl
set_option maxRecDepth 20000 in
theorem aiX5_clear : pm_at pm_P 50 = some iX5_clear := rfl
set_option maxRecDepth 20000 in
theorem aiX5_doAct : pm_at pm_P 51 = some iX5_doAct := rfl
set_option maxRecDepth 20000 in
theorem aiX5_init : pm_at pm_P 52 = some iX5_init := rfl
set_option maxRecDepth 20000 in
theorem aiX5_keepActs : pm_at pm_P 53 = some iX5_keepActs := rfl
set_option maxRecDepth 20000 in
theorem aiX5_take : pm_at pm_P 54 = some iX5_take := rfl
set_option maxRecDepth 20000 in
theorem aiX6_add : pm_at pm_P 55 = some iX6_add := rfl
set_option maxRecDepth 20000 in
theorem aiX6_init : pm_at pm_P 56 = some iX6_init := rfl
set_option maxRecDepth 20000 in
theorem aiX7_addLimb : pm_at pm_P 57 = some iX7_addLimb := rfl
set_option maxRecDepth 20000 in
theorem aiX7_begin : pm_at pm_P 58 = some iX7_begin := rfl
set_option maxRecDepth 20000 in
theorem aiX7_bring : pm_at pm_P 59 = some iX7_bring := rfl
set_option maxRecDepth 20000 in
theorem aiX7_clearLimbs : pm_at pm_P 60 = some iX7_clearLimbs := rfl
set_option maxRecDepth 20000 in
theorem aiX7_codeNumber : pm_at pm_P 61 = some iX7_codeNumber := rfl
set_option maxRecDepth 20000 in
theorem aiX7_decode : pm_at pm_P 62 = some iX7_decode := rfl
set_option maxRecDepth 20000 in
theorem aiX7_hang : pm_at pm_P 63 = some iX7_hang := rfl
