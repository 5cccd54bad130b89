set_option maxRecDepth 20000 in
theorem aiX7_hangByLimbs : pm_at pm_P 64 = some iX7_hangByLimbs := rfl
set_option maxRecDepth 20000 in
theorem aiX7_hangingFrom : pm_at pm_P 65 = some iX7_hangingFrom := rfl
set_option maxRecDepth 20000 in
theorem aiX7_init : pm_at pm_P 66 = some iX7_init := rfl
set_option maxRecDepth 20000 in
theorem aiX7_leastUnwritten : pm_at pm_P 67 = some iX7_leastUnwritten := rfl
set_option maxRecDepth 20000 in
theorem aiX7_leastWithOneLimb : pm_at pm_P 68 = some iX7_leastWithOneLimb := rfl
set_option maxRecDepth 20000 in
theorem aiX7_limbsTo : pm_at pm_P 69 = some iX7_limbsTo := rfl
set_option maxRecDepth 20000 in
theorem aiX7_lowestBit : pm_at pm_P 70 = some iX7_lowestBit := rfl
set_option maxRecDepth 20000 in
theorem aiX7_regainGrains : pm_at pm_P 71 = some iX7_regainGrains := rfl
set_option maxRecDepth 20000 in
theorem aiX7_search : pm_at pm_P 72 = some iX7_search := rfl
set_option maxRecDepth 20000 in
theorem aiX7_turnedPairs : pm_at pm_P 73 = some iX7_turnedPairs := rfl
set_option maxRecDepth 20000 in
theorem aiX7_walk : pm_at pm_P 74 = some iX7_walk := rfl
set_option maxRecDepth 20000 in
theorem aiX7_wishByOrder : pm_at pm_P 75 = some iX7_wishByOrder := rfl
set_option maxRecDepth 20000 in
theorem aiX8_above : pm_at pm_P 76 = some iX8_above := rfl
set_option maxRecDepth 20000 in
theorem aiX8_across : pm_at pm_P 77 = some iX8_across := rfl
set_option maxRecDepth 20000 in
theorem aiX8_actAndCountLost : pm_at pm_P 78 = some iX8_actAndCountLost := rfl
set_option maxRecDepth 20000 in
theorem aiX8_anew : pm_at pm_P 79 = some iX8_anew := rfl
set_option maxRecDepth 20000 in
theorem aiX8_ask : pm_at pm_P 80 = some iX8_ask := rfl
set_option maxRecDepth 20000 in
theorem aiX8_astride : pm_at pm_P 81 = some iX8_astride := rfl
set_option maxRecDepth 20000 in
theorem aiX8_back : pm_at pm_P 82 = some iX8_back := rfl
set_option maxRecDepth 20000 in
theorem aiX8_blame : pm_at pm_P 83 = some iX8_blame := rfl
set_option maxRecDepth 20000 in
theorem aiX8_block : pm_at pm_P 84 = some iX8_block := rfl
set_option maxRecDepth 20000 in
theorem aiX8_blocks : pm_at pm_P 85 = some iX8_blocks := rfl
set_option maxRecDepth 20000 in
theorem aiX8_breaks : pm_at pm_P 86 = some iX8_breaks := rfl
set_option maxRecDepth 20000 in
theorem aiX8_burnt : pm_at pm_P 87 = some iX8_burnt := rfl
set_option maxRecDepth 20000 in
theorem aiX8_by : pm_at pm_P 88 = some iX8_by := rfl
set_option maxRecDepth 20000 in
theorem aiX8_car : pm_at pm_P 89 = some iX8_car := rfl
set_option maxRecDepth 20000 in
theorem aiX8_chain : pm_at pm_P 90 = some iX8_chain := rfl
set_option maxRecDepth 20000 in
theorem aiX8_chance : pm_at pm_P 91 = some iX8_chance := rfl
set_option maxRecDepth 20000 in
theorem aiX8_code : pm_at pm_P 92 = some iX8_code := rfl
set_option maxRecDepth 20000 in
theorem aiX8_count : pm_at pm_P 93 = some iX8_count := rfl
set_option maxRecDepth 20000 in
theorem aiX8_crossed : pm_at pm_P 94 = some iX8_crossed := rfl
set_option maxRecDepth 20000 in
theorem aiX8_crossesFirst : pm_at pm_P 95 = some iX8_crossesFirst := rfl
set_option maxRecDepth 20000 in
theorem aiX8_crossesSecond : pm_at pm_P 96 = some iX8_crossesSecond := rfl
set_option maxRecDepth 20000 in
theorem aiX8_cut : pm_at pm_P 97 = some iX8_cut := rfl
set_option maxRecDepth 20000 in
theorem aiX8_depth : pm_at pm_P 98 = some iX8_depth := rfl
set_option maxRecDepth 20000 in
theorem aiX8_drawSet : pm_at pm_P 99 = some iX8_drawSet := rfl
set_option maxRecDepth 20000 in
theorem aiX8_drawn : pm_at pm_P 100 = some iX8_drawn := rfl
set_option maxRecDepth 20000 in
theorem aiX8_end : pm_at pm_P 101 = some iX8_end := rfl
set_option maxRecDepth 20000 in
theorem aiX8_ends : pm_at pm_P 102 = some iX8_ends := rfl
set_option maxRecDepth 20000 in
theorem aiX8_everyCar : pm_at pm_P 103 = some iX8_everyCar := rfl
set_option maxRecDepth 20000 in
theorem aiX8_far : pm_at pm_P 104 = some iX8_far := rfl
set_option maxRecDepth 20000 in
theorem aiX8_fault : pm_at pm_P 105 = some iX8_fault := rfl
set_option maxRecDepth 20000 in
theorem aiX8_feed : pm_at pm_P 106 = some iX8_feed := rfl
set_option maxRecDepth 20000 in
theorem aiX8_fences : pm_at pm_P 107 = some iX8_fences := rfl
set_option maxRecDepth 20000 in
theorem aiX8_fits : pm_at pm_P 108 = some iX8_fits := rfl
set_option maxRecDepth 20000 in
theorem aiX8_fitting : pm_at pm_P 109 = some iX8_fitting := rfl
set_option maxRecDepth 20000 in
theorem aiX8_free : pm_at pm_P 110 = some iX8_free := rfl
set_option maxRecDepth 20000 in
theorem aiX8_gain : pm_at pm_P 111 = some iX8_gain := rfl
set_option maxRecDepth 20000 in
theorem aiX8_gets : pm_at pm_P 112 = some iX8_gets := rfl
set_option maxRecDepth 20000 in
theorem aiX8_hangTree : pm_at pm_P 113 = some iX8_hangTree := rfl
set_option maxRecDepth 20000 in
theorem aiX8_hasCar : pm_at pm_P 114 = some iX8_hasCar := rfl
set_option maxRecDepth 20000 in
theorem aiX8_hasNumber : pm_at pm_P 115 = some iX8_hasNumber := rfl
set_option maxRecDepth 20000 in
theorem aiX8_hasPair : pm_at pm_P 116 = some iX8_hasPair := rfl
set_option maxRecDepth 20000 in
theorem aiX8_hasPlace : pm_at pm_P 117 = some iX8_hasPlace := rfl
set_option maxRecDepth 20000 in
theorem aiX8_hasStreet : pm_at pm_P 118 = some iX8_hasStreet := rfl
set_option maxRecDepth 20000 in
theorem aiX8_holder : pm_at pm_P 119 = some iX8_holder := rfl
set_option maxRecDepth 20000 in
theorem aiX8_hole : pm_at pm_P 120 = some iX8_hole := rfl
set_option maxRecDepth 20000 in
theorem aiX8_image : pm_at pm_P 121 = some iX8_image := rfl
set_option maxRecDepth 20000 in
theorem aiX8_init : pm_at pm_P 122 = some iX8_init := rfl
set_option maxRecDepth 20000 in
theorem aiX8_inversions : pm_at pm_P 123 = some iX8_inversions := rfl
set_option maxRecDepth 20000 in
theorem aiX8_isAsSeen : pm_at pm_P 124 = some iX8_isAsSeen := rfl
set_option maxRecDepth 20000 in
theorem aiX8_isLawful : pm_at pm_P 125 = some iX8_isLawful := rfl
set_option maxRecDepth 20000 in
theorem aiX8_isSeed : pm_at pm_P 126 = some iX8_isSeed := rfl
set_option maxRecDepth 20000 in
theorem aiX8_isSlot : pm_at pm_P 127 = some iX8_isSlot := rfl
set_option maxRecDepth 20000 in
theorem aiX8_isTallied : pm_at pm_P 128 = some iX8_isTallied := rfl
