set_option maxRecDepth 20000 in
theorem aiX8_isTerm : pm_at pm_P 129 = some iX8_isTerm := rfl
set_option maxRecDepth 20000 in
theorem aiX8_isTreeCar : pm_at pm_P 130 = some iX8_isTreeCar := rfl
set_option maxRecDepth 20000 in
theorem aiX8_joinFirst : pm_at pm_P 131 = some iX8_joinFirst := rfl
set_option maxRecDepth 20000 in
theorem aiX8_kids : pm_at pm_P 132 = some iX8_kids := rfl
set_option maxRecDepth 20000 in
theorem aiX8_label : pm_at pm_P 133 = some iX8_label := rfl
set_option maxRecDepth 20000 in
theorem aiX8_labels : pm_at pm_P 134 = some iX8_labels := rfl
set_option maxRecDepth 20000 in
theorem aiX8_law : pm_at pm_P 135 = some iX8_law := rfl
set_option maxRecDepth 20000 in
theorem aiX8_lawful : pm_at pm_P 136 = some iX8_lawful := rfl
set_option maxRecDepth 20000 in
theorem aiX8_lawfulRows : pm_at pm_P 137 = some iX8_lawfulRows := rfl
set_option maxRecDepth 20000 in
theorem aiX8_laws : pm_at pm_P 138 = some iX8_laws := rfl
set_option maxRecDepth 20000 in
theorem aiX8_leaves : pm_at pm_P 139 = some iX8_leaves := rfl
set_option maxRecDepth 20000 in
theorem aiX8_leftAtWorst : pm_at pm_P 140 = some iX8_leftAtWorst := rfl
set_option maxRecDepth 20000 in
theorem aiX8_likeWishes : pm_at pm_P 141 = some iX8_likeWishes := rfl
set_option maxRecDepth 20000 in
theorem aiX8_likes : pm_at pm_P 142 = some iX8_likes := rfl
set_option maxRecDepth 20000 in
theorem aiX8_lost : pm_at pm_P 143 = some iX8_lost := rfl
set_option maxRecDepth 20000 in
theorem aiX8_luck : pm_at pm_P 144 = some iX8_luck := rfl
set_option maxRecDepth 20000 in
theorem aiX8_lucky : pm_at pm_P 145 = some iX8_lucky := rfl
set_option maxRecDepth 20000 in
theorem aiX8_may : pm_at pm_P 146 = some iX8_may := rfl
set_option maxRecDepth 20000 in
theorem aiX8_mean : pm_at pm_P 147 = some iX8_mean := rfl
set_option maxRecDepth 20000 in
theorem aiX8_mend : pm_at pm_P 148 = some iX8_mend := rfl
set_option maxRecDepth 20000 in
theorem aiX8_merged : pm_at pm_P 149 = some iX8_merged := rfl
set_option maxRecDepth 20000 in
theorem aiX8_moved : pm_at pm_P 150 = some iX8_moved := rfl
set_option maxRecDepth 20000 in
theorem aiX8_next : pm_at pm_P 151 = some iX8_next := rfl
set_option maxRecDepth 20000 in
theorem aiX8_parent : pm_at pm_P 152 = some iX8_parent := rfl
set_option maxRecDepth 20000 in
theorem aiX8_park : pm_at pm_P 153 = some iX8_park := rfl
set_option maxRecDepth 20000 in
theorem aiX8_parkAll : pm_at pm_P 154 = some iX8_parkAll := rfl
set_option maxRecDepth 20000 in
theorem aiX8_parkOnRing : pm_at pm_P 155 = some iX8_parkOnRing := rfl
set_option maxRecDepth 20000 in
theorem aiX8_parkSet : pm_at pm_P 156 = some iX8_parkSet := rfl
set_option maxRecDepth 20000 in
theorem aiX8_parkWith : pm_at pm_P 157 = some iX8_parkWith := rfl
set_option maxRecDepth 20000 in
theorem aiX8_paste : pm_at pm_P 158 = some iX8_paste := rfl
set_option maxRecDepth 20000 in
theorem aiX8_place : pm_at pm_P 159 = some iX8_place := rfl
set_option maxRecDepth 20000 in
theorem aiX8_placeBit : pm_at pm_P 160 = some iX8_placeBit := rfl
set_option maxRecDepth 20000 in
theorem aiX8_power : pm_at pm_P 161 = some iX8_power := rfl
set_option maxRecDepth 20000 in
theorem aiX8_prime : pm_at pm_P 162 = some iX8_prime := rfl
set_option maxRecDepth 20000 in
theorem aiX8_queue : pm_at pm_P 163 = some iX8_queue := rfl
set_option maxRecDepth 20000 in
theorem aiX8_rate : pm_at pm_P 164 = some iX8_rate := rfl
set_option maxRecDepth 20000 in
theorem aiX8_readCode : pm_at pm_P 165 = some iX8_readCode := rfl
set_option maxRecDepth 20000 in
theorem aiX8_regain : pm_at pm_P 166 = some iX8_regain := rfl
set_option maxRecDepth 20000 in
theorem aiX8_region : pm_at pm_P 167 = some iX8_region := rfl
set_option maxRecDepth 20000 in
theorem aiX8_remain : pm_at pm_P 168 = some iX8_remain := rfl
set_option maxRecDepth 20000 in
theorem aiX8_rests : pm_at pm_P 169 = some iX8_rests := rfl
set_option maxRecDepth 20000 in
theorem aiX8_ring : pm_at pm_P 170 = some iX8_ring := rfl
set_option maxRecDepth 20000 in
theorem aiX8_row : pm_at pm_P 171 = some iX8_row := rfl
set_option maxRecDepth 20000 in
theorem aiX8_rowRefusal : pm_at pm_P 172 = some iX8_rowRefusal := rfl
set_option maxRecDepth 20000 in
theorem aiX8_rows : pm_at pm_P 173 = some iX8_rows := rfl
set_option maxRecDepth 20000 in
theorem aiX8_runs : pm_at pm_P 174 = some iX8_runs := rfl
set_option maxRecDepth 20000 in
theorem aiX8_searchTree : pm_at pm_P 175 = some iX8_searchTree := rfl
set_option maxRecDepth 20000 in
theorem aiX8_setWeight : pm_at pm_P 176 = some iX8_setWeight := rfl
set_option maxRecDepth 20000 in
theorem aiX8_share : pm_at pm_P 177 = some iX8_share := rfl
set_option maxRecDepth 20000 in
theorem aiX8_shifted : pm_at pm_P 178 = some iX8_shifted := rfl
set_option maxRecDepth 20000 in
theorem aiX8_shifts : pm_at pm_P 179 = some iX8_shifts := rfl
set_option maxRecDepth 20000 in
theorem aiX8_sightRefusal : pm_at pm_P 180 = some iX8_sightRefusal := rfl
set_option maxRecDepth 20000 in
theorem aiX8_slotsWithRows : pm_at pm_P 181 = some iX8_slotsWithRows := rfl
set_option maxRecDepth 20000 in
theorem aiX8_sorted : pm_at pm_P 182 = some iX8_sorted := rfl
set_option maxRecDepth 20000 in
theorem aiX8_steps : pm_at pm_P 183 = some iX8_steps := rfl
set_option maxRecDepth 20000 in
theorem aiX8_stepsInLot : pm_at pm_P 184 = some iX8_stepsInLot := rfl
set_option maxRecDepth 20000 in
theorem aiX8_street : pm_at pm_P 185 = some iX8_street := rfl
set_option maxRecDepth 20000 in
theorem aiX8_sum : pm_at pm_P 186 = some iX8_sum := rfl
set_option maxRecDepth 20000 in
theorem aiX8_swap : pm_at pm_P 187 = some iX8_swap := rfl
set_option maxRecDepth 20000 in
theorem aiX8_takenUpTo : pm_at pm_P 188 = some iX8_takenUpTo := rfl
set_option maxRecDepth 20000 in
theorem aiX8_tally : pm_at pm_P 189 = some iX8_tally := rfl
set_option maxRecDepth 20000 in
theorem aiX8_term : pm_at pm_P 190 = some iX8_term := rfl
set_option maxRecDepth 20000 in
theorem aiX8_trades : pm_at pm_P 191 = some iX8_trades := rfl
set_option maxRecDepth 20000 in
theorem aiX8_trees : pm_at pm_P 192 = some iX8_trees := rfl
set_option maxRecDepth 20000 in
theorem aiX8_tryWishes : pm_at pm_P 193 = some iX8_tryWishes := rfl
