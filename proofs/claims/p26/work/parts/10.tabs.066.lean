set_option maxRecDepth 20000 in
theorem aiX8_turned : pm_at pm_P 194 = some iX8_turned := rfl
set_option maxRecDepth 20000 in
theorem aiX8_undo : pm_at pm_P 195 = some iX8_undo := rfl
set_option maxRecDepth 20000 in
theorem aiX8_upset : pm_at pm_P 196 = some iX8_upset := rfl
set_option maxRecDepth 20000 in
theorem aiX8_visit : pm_at pm_P 197 = some iX8_visit := rfl
set_option maxRecDepth 20000 in
theorem aiX8_wants : pm_at pm_P 198 = some iX8_wants := rfl
set_option maxRecDepth 20000 in
theorem aiX8_wish : pm_at pm_P 199 = some iX8_wish := rfl
set_option maxRecDepth 20000 in
theorem aiX8_wishesUpTo : pm_at pm_P 200 = some iX8_wishesUpTo := rfl
set_option maxRecDepth 20000 in
theorem aiX8_worst : pm_at pm_P 201 = some iX8_worst := rfl
set_option maxRecDepth 20000 in
theorem aiX8_worth : pm_at pm_P 202 = some iX8_worth := rfl
set_option maxRecDepth 20000 in
theorem aiX8_write : pm_at pm_P 203 = some iX8_write := rfl
set_option maxRecDepth 20000 in
theorem aiX9_above : pm_at pm_P 204 = some iX9_above := rfl
set_option maxRecDepth 20000 in
theorem aiX9_above0 : pm_at pm_P 205 = some iX9_above0 := rfl
set_option maxRecDepth 20000 in
theorem aiX9_across : pm_at pm_P 206 = some iX9_across := rfl
set_option maxRecDepth 20000 in
theorem aiX9_anew : pm_at pm_P 207 = some iX9_anew := rfl
set_option maxRecDepth 20000 in
theorem aiX9_areTwo : pm_at pm_P 208 = some iX9_areTwo := rfl
set_option maxRecDepth 20000 in
theorem aiX9_ask : pm_at pm_P 209 = some iX9_ask := rfl
set_option maxRecDepth 20000 in
theorem aiX9_asks : pm_at pm_P 210 = some iX9_asks := rfl
set_option maxRecDepth 20000 in
theorem aiX9_astride : pm_at pm_P 211 = some iX9_astride := rfl
set_option maxRecDepth 20000 in
theorem aiX9_back : pm_at pm_P 212 = some iX9_back := rfl
set_option maxRecDepth 20000 in
theorem aiX9_begins : pm_at pm_P 213 = some iX9_begins := rfl
set_option maxRecDepth 20000 in
theorem aiX9_blame : pm_at pm_P 214 = some iX9_blame := rfl
set_option maxRecDepth 20000 in
theorem aiX9_block : pm_at pm_P 215 = some iX9_block := rfl
set_option maxRecDepth 20000 in
theorem aiX9_blockBits : pm_at pm_P 216 = some iX9_blockBits := rfl
set_option maxRecDepth 20000 in
theorem aiX9_blocks : pm_at pm_P 217 = some iX9_blocks := rfl
set_option maxRecDepth 20000 in
theorem aiX9_blocksNow : pm_at pm_P 218 = some iX9_blocksNow := rfl
set_option maxRecDepth 20000 in
theorem aiX9_breaks : pm_at pm_P 219 = some iX9_breaks := rfl
set_option maxRecDepth 20000 in
theorem aiX9_burnt : pm_at pm_P 220 = some iX9_burnt := rfl
set_option maxRecDepth 20000 in
theorem aiX9_by : pm_at pm_P 221 = some iX9_by := rfl
set_option maxRecDepth 20000 in
theorem aiX9_car : pm_at pm_P 222 = some iX9_car := rfl
set_option maxRecDepth 20000 in
theorem aiX9_carLine : pm_at pm_P 223 = some iX9_carLine := rfl
set_option maxRecDepth 20000 in
theorem aiX9_cars : pm_at pm_P 224 = some iX9_cars := rfl
set_option maxRecDepth 20000 in
theorem aiX9_chain : pm_at pm_P 225 = some iX9_chain := rfl
set_option maxRecDepth 20000 in
theorem aiX9_chance : pm_at pm_P 226 = some iX9_chance := rfl
set_option maxRecDepth 20000 in
theorem aiX9_clears : pm_at pm_P 227 = some iX9_clears := rfl
set_option maxRecDepth 20000 in
theorem aiX9_closes : pm_at pm_P 228 = some iX9_closes := rfl
set_option maxRecDepth 20000 in
theorem aiX9_code : pm_at pm_P 229 = some iX9_code := rfl
set_option maxRecDepth 20000 in
theorem aiX9_common : pm_at pm_P 230 = some iX9_common := rfl
set_option maxRecDepth 20000 in
theorem aiX9_copyRow : pm_at pm_P 231 = some iX9_copyRow := rfl
set_option maxRecDepth 20000 in
theorem aiX9_copyStreet : pm_at pm_P 232 = some iX9_copyStreet := rfl
set_option maxRecDepth 20000 in
theorem aiX9_count : pm_at pm_P 233 = some iX9_count := rfl
set_option maxRecDepth 20000 in
theorem aiX9_counts0 : pm_at pm_P 234 = some iX9_counts0 := rfl
set_option maxRecDepth 20000 in
theorem aiX9_crossed : pm_at pm_P 235 = some iX9_crossed := rfl
set_option maxRecDepth 20000 in
theorem aiX9_cut : pm_at pm_P 236 = some iX9_cut := rfl
set_option maxRecDepth 20000 in
theorem aiX9_depth : pm_at pm_P 237 = some iX9_depth := rfl
set_option maxRecDepth 20000 in
theorem aiX9_does : pm_at pm_P 238 = some iX9_does := rfl
set_option maxRecDepth 20000 in
theorem aiX9_drawn : pm_at pm_P 239 = some iX9_drawn := rfl
set_option maxRecDepth 20000 in
theorem aiX9_draws : pm_at pm_P 240 = some iX9_draws := rfl
set_option maxRecDepth 20000 in
theorem aiX9_end : pm_at pm_P 241 = some iX9_end := rfl
set_option maxRecDepth 20000 in
theorem aiX9_ends : pm_at pm_P 242 = some iX9_ends := rfl
set_option maxRecDepth 20000 in
theorem aiX9_fails : pm_at pm_P 243 = some iX9_fails := rfl
set_option maxRecDepth 20000 in
theorem aiX9_far : pm_at pm_P 244 = some iX9_far := rfl
set_option maxRecDepth 20000 in
theorem aiX9_far0 : pm_at pm_P 245 = some iX9_far0 := rfl
set_option maxRecDepth 20000 in
theorem aiX9_fault : pm_at pm_P 246 = some iX9_fault := rfl
set_option maxRecDepth 20000 in
theorem aiX9_feed : pm_at pm_P 247 = some iX9_feed := rfl
set_option maxRecDepth 20000 in
theorem aiX9_fences : pm_at pm_P 248 = some iX9_fences := rfl
set_option maxRecDepth 20000 in
theorem aiX9_findsBy : pm_at pm_P 249 = some iX9_findsBy := rfl
set_option maxRecDepth 20000 in
theorem aiX9_fits : pm_at pm_P 250 = some iX9_fits := rfl
set_option maxRecDepth 20000 in
theorem aiX9_follows : pm_at pm_P 251 = some iX9_follows := rfl
set_option maxRecDepth 20000 in
theorem aiX9_four : pm_at pm_P 252 = some iX9_four := rfl
set_option maxRecDepth 20000 in
theorem aiX9_free : pm_at pm_P 253 = some iX9_free := rfl
set_option maxRecDepth 20000 in
theorem aiX9_gets : pm_at pm_P 254 = some iX9_gets := rfl
set_option maxRecDepth 20000 in
theorem aiX9_getsBy : pm_at pm_P 255 = some iX9_getsBy := rfl
set_option maxRecDepth 20000 in
theorem aiX9_goesOn : pm_at pm_P 256 = some iX9_goesOn := rfl
set_option maxRecDepth 20000 in
theorem aiX9_hasRead : pm_at pm_P 257 = some iX9_hasRead := rfl
set_option maxRecDepth 20000 in
theorem aiX9_holder : pm_at pm_P 258 = some iX9_holder := rfl
set_option maxRecDepth 20000 in
theorem aiX9_hole : pm_at pm_P 259 = some iX9_hole := rfl
set_option maxRecDepth 20000 in
theorem aiX9_image : pm_at pm_P 260 = some iX9_image := rfl
