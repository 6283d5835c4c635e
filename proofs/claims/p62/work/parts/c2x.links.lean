/-! Printed by program: the law's own methods that only ask. -/
theorem ml_L_193 : gMI RL 193 yX10_init cX10_init 1 0 := ⟨⟨wg_t 40 (by decide +kernel) (by decide +kernel), wg_t 42 (by decide +kernel) (by decide +kernel), wg_t 1 (by decide +kernel) (by decide +kernel), by decide +kernel⟩, wg_t 41 (by decide +kernel) (by decide +kernel)⟩
set_option maxRecDepth 100000 in
theorem wc_L_194 : tables_1[348]? = some (Cond.code yL_cell cL_cell 2 (some .int)) := by rfl
theorem ml_L_194 : gMS RL 194 yL_cell cL_cell 2 (some .int) 2 := ⟨⟨wg_t 346 (by decide +kernel) (by decide +kernel), wg_t 348 wc_L_194 rfl, wg_t 0 (by decide +kernel) (by decide +kernel), by decide +kernel⟩, wg_t 347 (by decide +kernel) (by decide +kernel)⟩
set_option maxRecDepth 100000 in
theorem wc_L_224 : tables_1[37]? = some (Cond.code yL_drawn cL_drawn 11 (some (.object "AvalancheGallery"))) := by rfl
theorem ml_L_224 : gMS RL 224 yL_drawn cL_drawn 11 (some (.object "AvalancheGallery")) 1 := ⟨⟨wg_t 35 (by decide +kernel) (by decide +kernel), wg_t 37 wc_L_224 rfl, wg_t 0 (by decide +kernel) (by decide +kernel), by decide +kernel⟩, wg_t 36 (by decide +kernel) (by decide +kernel)⟩
set_option maxRecDepth 100000 in
theorem wc_L_228 : tables_1[833]? = some (Cond.code yL_ways cL_ways 12 (some .boolean)) := by rfl
theorem ml_L_228 : gMS RL 228 yL_ways cL_ways 12 (some .boolean) 1 := ⟨⟨wg_t 831 (by decide +kernel) (by decide +kernel), wg_t 833 wc_L_228 rfl, wg_t 0 (by decide +kernel) (by decide +kernel), by decide +kernel⟩, wg_t 832 (by decide +kernel) (by decide +kernel)⟩
set_option maxRecDepth 100000 in
theorem wc_L_232 : tables_1[930]? = some (Cond.code yL_piles cL_piles 17 (some .boolean)) := by rfl
theorem ml_L_232 : gMS RL 232 yL_piles cL_piles 17 (some .boolean) 2 := ⟨⟨wg_t 928 (by decide +kernel) (by decide +kernel), wg_t 930 wc_L_232 rfl, wg_t 0 (by decide +kernel) (by decide +kernel), by decide +kernel⟩, wg_t 929 (by decide +kernel) (by decide +kernel)⟩
set_option maxRecDepth 100000 in
theorem wc_L_236 : tables_1[1091]? = some (Cond.code yL_couriers cL_couriers 10 (some .boolean)) := by rfl
theorem ml_L_236 : gMS RL 236 yL_couriers cL_couriers 10 (some .boolean) 1 := ⟨⟨wg_t 1089 (by decide +kernel) (by decide +kernel), wg_t 1091 wc_L_236 rfl, wg_t 0 (by decide +kernel) (by decide +kernel), by decide +kernel⟩, wg_t 1090 (by decide +kernel) (by decide +kernel)⟩
set_option maxRecDepth 100000 in
theorem wc_L_239 : tables_1[1202]? = some (Cond.code yL_loans cL_loans 3 (some .boolean)) := by rfl
theorem ml_L_239 : gMS RL 239 yL_loans cL_loans 3 (some .boolean) 1 := ⟨⟨wg_t 1200 (by decide +kernel) (by decide +kernel), wg_t 1202 wc_L_239 rfl, wg_t 0 (by decide +kernel) (by decide +kernel), by decide +kernel⟩, wg_t 1201 (by decide +kernel) (by decide +kernel)⟩
set_option maxRecDepth 100000 in
theorem wc_L_242 : tables_1[1236]? = some (Cond.code yL_texts cL_texts 5 (some .boolean)) := by rfl
theorem ml_L_242 : gMS RL 242 yL_texts cL_texts 5 (some .boolean) 1 := ⟨⟨wg_t 1234 (by decide +kernel) (by decide +kernel), wg_t 1236 wc_L_242 rfl, wg_t 0 (by decide +kernel) (by decide +kernel), by decide +kernel⟩, wg_t 1235 (by decide +kernel) (by decide +kernel)⟩
set_option maxRecDepth 100000 in
theorem wc_L_245 : tables_1[1575]? = some (Cond.code yL_undone cL_undone 8 (some .boolean)) := by rfl
theorem ml_L_245 : gMS RL 245 yL_undone cL_undone 8 (some .boolean) 2 := ⟨⟨wg_t 1573 (by decide +kernel) (by decide +kernel), wg_t 1575 wc_L_245 rfl, wg_t 0 (by decide +kernel) (by decide +kernel), by decide +kernel⟩, wg_t 1574 (by decide +kernel) (by decide +kernel)⟩
theorem ml_L_250 : gMV RL 250 yX10_roomCount cX10_roomCount 1 (some .int) 0 := ⟨⟨wg_t 834 (by decide +kernel) (by decide +kernel), wg_t 837 (by decide +kernel) (by decide +kernel), wg_t 1 (by decide +kernel) (by decide +kernel), by decide +kernel⟩, wg_t 835 (by decide +kernel) (by decide +kernel), wg_t 836 (by decide +kernel) (by decide +kernel)⟩
set_option maxRecDepth 100000 in
theorem wc_L_255 : tables_1[840]? = some (Cond.code yL_bestWay cL_bestWay 14 (some .long)) := by rfl
theorem ml_L_255 : gMS RL 255 yL_bestWay cL_bestWay 14 (some .long) 4 := ⟨⟨wg_t 838 (by decide +kernel) (by decide +kernel), wg_t 840 wc_L_255 rfl, wg_t 0 (by decide +kernel) (by decide +kernel), by decide +kernel⟩, wg_t 839 (by decide +kernel) (by decide +kernel)⟩
set_option maxRecDepth 100000 in
theorem wc_L_288 : tables_1[956]? = some (Cond.code yL_topple cL_topple 5 (some .int)) := by rfl
theorem ml_L_288 : gMS RL 288 yL_topple cL_topple 5 (some .int) 3 := ⟨⟨wg_t 954 (by decide +kernel) (by decide +kernel), wg_t 956 wc_L_288 rfl, wg_t 0 (by decide +kernel) (by decide +kernel), by decide +kernel⟩, wg_t 955 (by decide +kernel) (by decide +kernel)⟩
set_option maxRecDepth 100000 in
theorem wc_L_292 : tables_1[950]? = some (Cond.code yL_slopeFrom cL_slopeFrom 7 (some .int)) := by rfl
theorem ml_L_292 : gMS RL 292 yL_slopeFrom cL_slopeFrom 7 (some .int) 3 := ⟨⟨wg_t 948 (by decide +kernel) (by decide +kernel), wg_t 950 wc_L_292 rfl, wg_t 0 (by decide +kernel) (by decide +kernel), by decide +kernel⟩, wg_t 949 (by decide +kernel) (by decide +kernel)⟩
theorem ml_L_295 : gMV RL 295 yX10_exhibitCount cX10_exhibitCount 1 (some .int) 0 := ⟨⟨wg_t 931 (by decide +kernel) (by decide +kernel), wg_t 934 (by decide +kernel) (by decide +kernel), wg_t 1 (by decide +kernel) (by decide +kernel), by decide +kernel⟩, wg_t 932 (by decide +kernel) (by decide +kernel), wg_t 933 (by decide +kernel) (by decide +kernel)⟩
set_option maxRecDepth 100000 in
theorem wc_L_298 : tables_1[937]? = some (Cond.code yL_pile cL_pile 5 (some (.array (.array .int)))) := by rfl
theorem ml_L_298 : gMS RL 298 yL_pile cL_pile 5 (some (.array (.array .int))) 2 := ⟨⟨wg_t 935 (by decide +kernel) (by decide +kernel), wg_t 937 wc_L_298 rfl, wg_t 0 (by decide +kernel) (by decide +kernel), by decide +kernel⟩, wg_t 936 (by decide +kernel) (by decide +kernel)⟩
set_option maxRecDepth 100000 in
theorem wc_L_302 : tables_1[953]? = some (Cond.code yL_neighbours cL_neighbours 2 (some .int)) := by rfl
theorem ml_L_302 : gMS RL 302 yL_neighbours cL_neighbours 2 (some .int) 2 := ⟨⟨wg_t 951 (by decide +kernel) (by decide +kernel), wg_t 953 wc_L_302 rfl, wg_t 0 (by decide +kernel) (by decide +kernel), by decide +kernel⟩, wg_t 952 (by decide +kernel) (by decide +kernel)⟩
set_option maxRecDepth 100000 in
theorem wc_L_336 : tables_1[1102]? = some (Cond.code yL_passedBy cL_passedBy 2 (some .int)) := by rfl
theorem ml_L_336 : gMS RL 336 yL_passedBy cL_passedBy 2 (some .int) 2 := ⟨⟨wg_t 1100 (by decide +kernel) (by decide +kernel), wg_t 1102 wc_L_336 rfl, wg_t 0 (by decide +kernel) (by decide +kernel), by decide +kernel⟩, wg_t 1101 (by decide +kernel) (by decide +kernel)⟩
set_option maxRecDepth 100000 in
theorem wc_L_339 : tables_1[1105]? = some (Cond.code yL_least cL_least 8 (some .int)) := by rfl
theorem ml_L_339 : gMS RL 339 yL_least cL_least 8 (some .int) 5 := ⟨⟨wg_t 1103 (by decide +kernel) (by decide +kernel), wg_t 1105 wc_L_339 rfl, wg_t 0 (by decide +kernel) (by decide +kernel), by decide +kernel⟩, wg_t 1104 (by decide +kernel) (by decide +kernel)⟩
theorem ml_L_342 : gMV RL 342 yX10_day cX10_day 1 (some .int) 0 := ⟨⟨wg_t 1092 (by decide +kernel) (by decide +kernel), wg_t 1095 (by decide +kernel) (by decide +kernel), wg_t 1 (by decide +kernel) (by decide +kernel), by decide +kernel⟩, wg_t 1093 (by decide +kernel) (by decide +kernel), wg_t 1094 (by decide +kernel) (by decide +kernel)⟩
theorem ml_L_352 : gMV RL 352 yX10_meanGrains cX10_meanGrains 4 (some .double) 0 := ⟨⟨wg_t 1145 (by decide +kernel) (by decide +kernel), wg_t 1148 (by decide +kernel) (by decide +kernel), wg_t 1 (by decide +kernel) (by decide +kernel), by decide +kernel⟩, wg_t 1146 (by decide +kernel) (by decide +kernel), wg_t 1147 (by decide +kernel) (by decide +kernel)⟩
theorem ml_L_356 : gMV RL 356 yX10_lentFraction cX10_lentFraction 4 (some .float) 0 := ⟨⟨wg_t 1165 (by decide +kernel) (by decide +kernel), wg_t 1168 (by decide +kernel) (by decide +kernel), wg_t 1 (by decide +kernel) (by decide +kernel), by decide +kernel⟩, wg_t 1166 (by decide +kernel) (by decide +kernel), wg_t 1167 (by decide +kernel) (by decide +kernel)⟩
theorem ml_L_360 : gMV RL 360 yX10_isConsistent cX10_isConsistent 4 (some .boolean) 0 := ⟨⟨wg_t 1169 (by decide +kernel) (by decide +kernel), wg_t 1172 (by decide +kernel) (by decide +kernel), wg_t 1 (by decide +kernel) (by decide +kernel), by decide +kernel⟩, wg_t 1170 (by decide +kernel) (by decide +kernel), wg_t 1171 (by decide +kernel) (by decide +kernel)⟩
set_option maxRecDepth 100000 in
theorem wc_L_400 : tables_1[1528]? = some (Cond.code yL_spells cL_spells 5 (some .boolean)) := by rfl
theorem ml_L_400 : gMS RL 400 yL_spells cL_spells 5 (some .boolean) 3 := ⟨⟨wg_t 1526 (by decide +kernel) (by decide +kernel), wg_t 1528 wc_L_400 rfl, wg_t 0 (by decide +kernel) (by decide +kernel), by decide +kernel⟩, wg_t 1527 (by decide +kernel) (by decide +kernel)⟩
theorem ml_L_414 : gMV RL 414 yX10_income cX10_income 1 (some .int) 0 := ⟨⟨wg_t 1580 (by decide +kernel) (by decide +kernel), wg_t 1583 (by decide +kernel) (by decide +kernel), wg_t 1 (by decide +kernel) (by decide +kernel), by decide +kernel⟩, wg_t 1581 (by decide +kernel) (by decide +kernel), wg_t 1582 (by decide +kernel) (by decide +kernel)⟩
set_option maxRecDepth 100000 in
theorem wc_L_433 : tables_1[1578]? = some (Cond.code yL_sum cL_sum 5 (some .long)) := by rfl
theorem ml_L_433 : gMS RL 433 yL_sum cL_sum 5 (some .long) 1 := ⟨⟨wg_t 1576 (by decide +kernel) (by decide +kernel), wg_t 1578 wc_L_433 rfl, wg_t 0 (by decide +kernel) (by decide +kernel), by decide +kernel⟩, wg_t 1577 (by decide +kernel) (by decide +kernel)⟩
set_option maxRecDepth 100000 in
theorem wc_L_451 : tables_1[1619]? = some (Cond.code yL_execute cL_execute 3 (some .int)) := by rfl
theorem ml_L_451 : gMS RL 451 yL_execute cL_execute 3 (some .int) 2 := ⟨⟨wg_t 1617 (by decide +kernel) (by decide +kernel), wg_t 1619 wc_L_451 rfl, wg_t 0 (by decide +kernel) (by decide +kernel), by decide +kernel⟩, wg_t 1618 (by decide +kernel) (by decide +kernel)⟩
theorem lm_L_276 : Cond.methodLink RL 276 Lib.Math.max.name ∈ WG := wg_t 905 (by decide +kernel) (by decide +kernel)
theorem lm_L_209 : Cond.methodLink RL 209 Lib.Math.min.name ∈ WG := wg_t 660 (by decide +kernel) (by decide +kernel)
theorem kc_L_7 : Cond.constant RL 7 40503 ∈ WG := wg_t 349 (by decide +kernel) (by decide +kernel)
theorem kc_L_248 : Cond.constantLong RL 248 (-1) ∈ WG := wg_t 841 (by decide +kernel) (by decide +kernel)
theorem kc_L_259 : Cond.constantLong RL 259 10000000 ∈ WG := wg_t 855 (by decide +kernel) (by decide +kernel)
theorem kc_L_261 : Cond.constantLong RL 261 1000000 ∈ WG := wg_t 856 (by decide +kernel) (by decide +kernel)
theorem kc_L_263 : Cond.constantLong RL 263 7 ∈ WG := wg_t 857 (by decide +kernel) (by decide +kernel)
theorem kc_L_265 : Cond.constantLong RL 265 16807 ∈ WG := wg_t 858 (by decide +kernel) (by decide +kernel)
theorem kc_L_267 : Cond.constantLong RL 267 10 ∈ WG := wg_t 859 (by decide +kernel) (by decide +kernel)
theorem kc_L_412 : Cond.constantLong RL 412 31 ∈ WG := wg_t 1579 (by decide +kernel) (by decide +kernel)
theorem kc_L_417 : Cond.constantLong RL 417 37 ∈ WG := wg_t 1584 (by decide +kernel) (by decide +kernel)
theorem kc_L_419 : Cond.constantLong RL 419 41 ∈ WG := wg_t 1585 (by decide +kernel) (by decide +kernel)
theorem kc_L_421 : Cond.constantLong RL 421 43 ∈ WG := wg_t 1586 (by decide +kernel) (by decide +kernel)
theorem kc_L_423 : Cond.constantLong RL 423 47 ∈ WG := wg_t 1587 (by decide +kernel) (by decide +kernel)
theorem kc_L_425 : Cond.constantLong RL 425 53 ∈ WG := wg_t 1588 (by decide +kernel) (by decide +kernel)
theorem kc_L_427 : Cond.constantLong RL 427 5 ∈ WG := wg_t 1589 (by decide +kernel) (by decide +kernel)
theorem kc_L_429 : Cond.constantLong RL 429 3 ∈ WG := wg_t 1590 (by decide +kernel) (by decide +kernel)
theorem kc_L_431 : Cond.constantLong RL 431 59 ∈ WG := wg_t 1591 (by decide +kernel) (by decide +kernel)
