set_option maxRecDepth 20000 in
theorem aiX9_in : pm_at pm_P 261 = some iX9_in := rfl
set_option maxRecDepth 20000 in
theorem aiX9_init : pm_at pm_P 262 = some iX9_init := rfl
set_option maxRecDepth 20000 in
theorem aiX9_inversions : pm_at pm_P 263 = some iX9_inversions := rfl
set_option maxRecDepth 20000 in
theorem aiX9_is : pm_at pm_P 264 = some iX9_is := rfl
set_option maxRecDepth 20000 in
theorem aiX9_isBit : pm_at pm_P 265 = some iX9_isBit := rfl
set_option maxRecDepth 20000 in
theorem aiX9_isByte : pm_at pm_P 266 = some iX9_isByte := rfl
set_option maxRecDepth 20000 in
theorem aiX9_isCar : pm_at pm_P 267 = some iX9_isCar := rfl
set_option maxRecDepth 20000 in
theorem aiX9_isFree : pm_at pm_P 268 = some iX9_isFree := rfl
set_option maxRecDepth 20000 in
theorem aiX9_isGood : pm_at pm_P 269 = some iX9_isGood := rfl
set_option maxRecDepth 20000 in
theorem aiX9_isHalf : pm_at pm_P 270 = some iX9_isHalf := rfl
set_option maxRecDepth 20000 in
theorem aiX9_isJoin : pm_at pm_P 271 = some iX9_isJoin := rfl
set_option maxRecDepth 20000 in
theorem aiX9_isLawful : pm_at pm_P 272 = some iX9_isLawful := rfl
set_option maxRecDepth 20000 in
theorem aiX9_isNode : pm_at pm_P 273 = some iX9_isNode := rfl
set_option maxRecDepth 20000 in
theorem aiX9_isNumber : pm_at pm_P 274 = some iX9_isNumber := rfl
set_option maxRecDepth 20000 in
theorem aiX9_isOver : pm_at pm_P 275 = some iX9_isOver := rfl
set_option maxRecDepth 20000 in
theorem aiX9_isPlace : pm_at pm_P 276 = some iX9_isPlace := rfl
set_option maxRecDepth 20000 in
theorem aiX9_isSeed : pm_at pm_P 277 = some iX9_isSeed := rfl
set_option maxRecDepth 20000 in
theorem aiX9_isSlot : pm_at pm_P 278 = some iX9_isSlot := rfl
set_option maxRecDepth 20000 in
theorem aiX9_isSmall : pm_at pm_P 279 = some iX9_isSmall := rfl
set_option maxRecDepth 20000 in
theorem aiX9_isSo : pm_at pm_P 280 = some iX9_isSo := rfl
set_option maxRecDepth 20000 in
theorem aiX9_isStreet : pm_at pm_P 281 = some iX9_isStreet := rfl
set_option maxRecDepth 20000 in
theorem aiX9_joinLine : pm_at pm_P 282 = some iX9_joinLine := rfl
set_option maxRecDepth 20000 in
theorem aiX9_joins0 : pm_at pm_P 283 = some iX9_joins0 := rfl
set_option maxRecDepth 20000 in
theorem aiX9_kids : pm_at pm_P 284 = some iX9_kids := rfl
set_option maxRecDepth 20000 in
theorem aiX9_kidsOf : pm_at pm_P 285 = some iX9_kidsOf := rfl
set_option maxRecDepth 20000 in
theorem aiX9_label : pm_at pm_P 286 = some iX9_label := rfl
set_option maxRecDepth 20000 in
theorem aiX9_labelAt : pm_at pm_P 287 = some iX9_labelAt := rfl
set_option maxRecDepth 20000 in
theorem aiX9_labelOf : pm_at pm_P 288 = some iX9_labelOf := rfl
set_option maxRecDepth 20000 in
theorem aiX9_labels : pm_at pm_P 289 = some iX9_labels := rfl
set_option maxRecDepth 20000 in
theorem aiX9_law : pm_at pm_P 290 = some iX9_law := rfl
set_option maxRecDepth 20000 in
theorem aiX9_lawful : pm_at pm_P 291 = some iX9_lawful := rfl
set_option maxRecDepth 20000 in
theorem aiX9_laws : pm_at pm_P 292 = some iX9_laws := rfl
set_option maxRecDepth 20000 in
theorem aiX9_lays : pm_at pm_P 293 = some iX9_lays := rfl
set_option maxRecDepth 20000 in
theorem aiX9_laysBlocks : pm_at pm_P 294 = some iX9_laysBlocks := rfl
set_option maxRecDepth 20000 in
theorem aiX9_laysCode : pm_at pm_P 295 = some iX9_laysCode := rfl
set_option maxRecDepth 20000 in
theorem aiX9_laysNow : pm_at pm_P 296 = some iX9_laysNow := rfl
set_option maxRecDepth 20000 in
theorem aiX9_laysSeen : pm_at pm_P 297 = some iX9_laysSeen := rfl
set_option maxRecDepth 20000 in
theorem aiX9_laysSlot : pm_at pm_P 298 = some iX9_laysSlot := rfl
set_option maxRecDepth 20000 in
theorem aiX9_laysTree : pm_at pm_P 299 = some iX9_laysTree := rfl
set_option maxRecDepth 20000 in
theorem aiX9_leaves : pm_at pm_P 300 = some iX9_leaves := rfl
set_option maxRecDepth 20000 in
theorem aiX9_lessOf : pm_at pm_P 301 = some iX9_lessOf := rfl
set_option maxRecDepth 20000 in
theorem aiX9_likes : pm_at pm_P 302 = some iX9_likes := rfl
set_option maxRecDepth 20000 in
theorem aiX9_limbsOf : pm_at pm_P 303 = some iX9_limbsOf := rfl
set_option maxRecDepth 20000 in
theorem aiX9_lineHere : pm_at pm_P 304 = some iX9_lineHere := rfl
set_option maxRecDepth 20000 in
theorem aiX9_lost : pm_at pm_P 305 = some iX9_lost := rfl
set_option maxRecDepth 20000 in
theorem aiX9_luck : pm_at pm_P 306 = some iX9_luck := rfl
set_option maxRecDepth 20000 in
theorem aiX9_lucky : pm_at pm_P 307 = some iX9_lucky := rfl
set_option maxRecDepth 20000 in
theorem aiX9_may : pm_at pm_P 308 = some iX9_may := rfl
set_option maxRecDepth 20000 in
theorem aiX9_mayJoin : pm_at pm_P 309 = some iX9_mayJoin := rfl
set_option maxRecDepth 20000 in
theorem aiX9_mean : pm_at pm_P 310 = some iX9_mean := rfl
set_option maxRecDepth 20000 in
theorem aiX9_mend : pm_at pm_P 311 = some iX9_mend := rfl
set_option maxRecDepth 20000 in
theorem aiX9_merged : pm_at pm_P 312 = some iX9_merged := rfl
set_option maxRecDepth 20000 in
theorem aiX9_moreOf : pm_at pm_P 313 = some iX9_moreOf := rfl
set_option maxRecDepth 20000 in
theorem aiX9_moved : pm_at pm_P 314 = some iX9_moved := rfl
set_option maxRecDepth 20000 in
theorem aiX9_next : pm_at pm_P 315 = some iX9_next := rfl
set_option maxRecDepth 20000 in
theorem aiX9_number : pm_at pm_P 316 = some iX9_number := rfl
set_option maxRecDepth 20000 in
theorem aiX9_number_ : pm_at pm_P 317 = some iX9_number_ := rfl
set_option maxRecDepth 20000 in
theorem aiX9_otherEnd : pm_at pm_P 318 = some iX9_otherEnd := rfl
set_option maxRecDepth 20000 in
theorem aiX9_parent : pm_at pm_P 319 = some iX9_parent := rfl
set_option maxRecDepth 20000 in
theorem aiX9_parks : pm_at pm_P 320 = some iX9_parks := rfl
set_option maxRecDepth 20000 in
theorem aiX9_parksBy : pm_at pm_P 321 = some iX9_parksBy := rfl
set_option maxRecDepth 20000 in
theorem aiX9_partOf : pm_at pm_P 322 = some iX9_partOf := rfl
set_option maxRecDepth 20000 in
theorem aiX9_paste : pm_at pm_P 323 = some iX9_paste := rfl
set_option maxRecDepth 20000 in
theorem aiX9_place : pm_at pm_P 324 = some iX9_place := rfl
set_option maxRecDepth 20000 in
theorem aiX9_places : pm_at pm_P 325 = some iX9_places := rfl
set_option maxRecDepth 20000 in
theorem aiX9_power : pm_at pm_P 326 = some iX9_power := rfl
