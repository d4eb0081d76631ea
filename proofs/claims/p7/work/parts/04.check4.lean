set_option maxRecDepth 100000 in
theorem ok_M_reckon : hx_okO hm_M_reckon = true := hq_okO (by decide +kernel)
theorem cw_M_reckon : Cond.code (hx_y hm_M_reckon) (hx_b hm_M_reckon) (hx_L hm_M_reckon) (hx_ret hm_M_reckon) ∈ hx_T := hx_T_in (hx_ch_in tables_1_7 (List.mem_of_getElem? (i := 7) rfl) _ (List.mem_of_getElem? (i := 84) rfl)) rfl
set_option maxRecDepth 100000 in
theorem ck_M_reckon : hx_cal hm_M_reckon := ⟨by decide +kernel, cw_M_reckon⟩
set_option maxRecDepth 20000 in
theorem mj_M_reckon : hx_ms[240]? = some hm_M_reckon := rfl
set_option maxRecDepth 100000 in
theorem ok_M_appears : hx_okO hm_M_appears = true := hq_okO (by decide +kernel)
theorem cw_M_appears : Cond.code (hx_y hm_M_appears) (hx_b hm_M_appears) (hx_L hm_M_appears) (hx_ret hm_M_appears) ∈ hx_T := hx_T_in (hx_ch_in tables_1_7 (List.mem_of_getElem? (i := 7) rfl) _ (List.mem_of_getElem? (i := 88) rfl)) rfl
set_option maxRecDepth 100000 in
theorem ck_M_appears : hx_cal hm_M_appears := ⟨by decide +kernel, cw_M_appears⟩
set_option maxRecDepth 20000 in
theorem mj_M_appears : hx_ms[241]? = some hm_M_appears := rfl
set_option maxRecDepth 100000 in
theorem ok_M_laysAs : hx_okO hm_M_laysAs = true := hq_okO (by decide +kernel)
theorem cw_M_laysAs : Cond.code (hx_y hm_M_laysAs) (hx_b hm_M_laysAs) (hx_L hm_M_laysAs) (hx_ret hm_M_laysAs) ∈ hx_T := hx_T_in (hx_ch_in tables_1_7 (List.mem_of_getElem? (i := 7) rfl) _ (List.mem_of_getElem? (i := 92) rfl)) rfl
set_option maxRecDepth 100000 in
theorem ck_M_laysAs : hx_cal hm_M_laysAs := ⟨by decide +kernel, cw_M_laysAs⟩
set_option maxRecDepth 20000 in
theorem mj_M_laysAs : hx_ms[242]? = some hm_M_laysAs := rfl
set_option maxRecDepth 100000 in
theorem ok_M_child : hx_okO hm_M_child = true := hq_okO (by decide +kernel)
theorem cw_M_child : Cond.code (hx_y hm_M_child) (hx_b hm_M_child) (hx_L hm_M_child) (hx_ret hm_M_child) ∈ hx_T := hx_T_in (hx_ch_in tables_1_7 (List.mem_of_getElem? (i := 7) rfl) _ (List.mem_of_getElem? (i := 96) rfl)) rfl
set_option maxRecDepth 100000 in
theorem ck_M_child : hx_cal hm_M_child := ⟨by decide +kernel, cw_M_child⟩
set_option maxRecDepth 20000 in
theorem mj_M_child : hx_ms[243]? = some hm_M_child := rfl
set_option maxRecDepth 100000 in
theorem ok_M_treaties : hx_okO hm_M_treaties = true := hq_okO (by decide +kernel)
theorem cw_M_treaties : Cond.code (hx_y hm_M_treaties) (hx_b hm_M_treaties) (hx_L hm_M_treaties) (hx_ret hm_M_treaties) ∈ hx_T := hx_T_in (hx_ch_in tables_1_7 (List.mem_of_getElem? (i := 7) rfl) _ (List.mem_of_getElem? (i := 100) rfl)) rfl
set_option maxRecDepth 100000 in
theorem ck_M_treaties : hx_cal hm_M_treaties := ⟨by decide +kernel, cw_M_treaties⟩
set_option maxRecDepth 20000 in
theorem mj_M_treaties : hx_ms[244]? = some hm_M_treaties := rfl
set_option maxRecDepth 100000 in
theorem ok_M_readsLines : hx_okO hm_M_readsLines = true := hq_okO (by decide +kernel)
theorem cw_M_readsLines : Cond.code (hx_y hm_M_readsLines) (hx_b hm_M_readsLines) (hx_L hm_M_readsLines) (hx_ret hm_M_readsLines) ∈ hx_T := hx_T_in (hx_ch_in tables_1_7 (List.mem_of_getElem? (i := 7) rfl) _ (List.mem_of_getElem? (i := 104) rfl)) rfl
set_option maxRecDepth 100000 in
theorem ck_M_readsLines : hx_cal hm_M_readsLines := ⟨by decide +kernel, cw_M_readsLines⟩
set_option maxRecDepth 20000 in
theorem mj_M_readsLines : hx_ms[245]? = some hm_M_readsLines := rfl
set_option maxRecDepth 100000 in
theorem ok_M_readsLine : hx_okO hm_M_readsLine = true := hq_okO (by decide +kernel)
theorem cw_M_readsLine : Cond.code (hx_y hm_M_readsLine) (hx_b hm_M_readsLine) (hx_L hm_M_readsLine) (hx_ret hm_M_readsLine) ∈ hx_T := hx_T_in (hx_ch_in tables_1_7 (List.mem_of_getElem? (i := 7) rfl) _ (List.mem_of_getElem? (i := 108) rfl)) rfl
set_option maxRecDepth 100000 in
theorem ck_M_readsLine : hx_cal hm_M_readsLine := ⟨by decide +kernel, cw_M_readsLine⟩
set_option maxRecDepth 20000 in
theorem mj_M_readsLine : hx_ms[246]? = some hm_M_readsLine := rfl
set_option maxRecDepth 100000 in
theorem ok_M_readsColour : hx_okO hm_M_readsColour = true := hq_okO (by decide +kernel)
theorem cw_M_readsColour : Cond.code (hx_y hm_M_readsColour) (hx_b hm_M_readsColour) (hx_L hm_M_readsColour) (hx_ret hm_M_readsColour) ∈ hx_T := hx_T_in (hx_ch_in tables_1_7 (List.mem_of_getElem? (i := 7) rfl) _ (List.mem_of_getElem? (i := 112) rfl)) rfl
set_option maxRecDepth 100000 in
theorem ck_M_readsColour : hx_cal hm_M_readsColour := ⟨by decide +kernel, cw_M_readsColour⟩
set_option maxRecDepth 20000 in
theorem mj_M_readsColour : hx_ms[247]? = some hm_M_readsColour := rfl
set_option maxRecDepth 100000 in
theorem ok_M_readsQuarters : hx_okO hm_M_readsQuarters = true := hq_okO (by decide +kernel)
theorem cw_M_readsQuarters : Cond.code (hx_y hm_M_readsQuarters) (hx_b hm_M_readsQuarters) (hx_L hm_M_readsQuarters) (hx_ret hm_M_readsQuarters) ∈ hx_T := hx_T_in (hx_ch_in tables_1_7 (List.mem_of_getElem? (i := 7) rfl) _ (List.mem_of_getElem? (i := 116) rfl)) rfl
set_option maxRecDepth 100000 in
theorem ck_M_readsQuarters : hx_cal hm_M_readsQuarters := ⟨by decide +kernel, cw_M_readsQuarters⟩
set_option maxRecDepth 20000 in
theorem mj_M_readsQuarters : hx_ms[248]? = some hm_M_readsQuarters := rfl
set_option maxRecDepth 100000 in
theorem ok_M_readsEmpire : hx_okO hm_M_readsEmpire = true := hq_okO (by decide +kernel)
theorem cw_M_readsEmpire : Cond.code (hx_y hm_M_readsEmpire) (hx_b hm_M_readsEmpire) (hx_L hm_M_readsEmpire) (hx_ret hm_M_readsEmpire) ∈ hx_T := hx_T_in (hx_ch_in tables_1_7 (List.mem_of_getElem? (i := 7) rfl) _ (List.mem_of_getElem? (i := 120) rfl)) rfl
set_option maxRecDepth 100000 in
theorem ck_M_readsEmpire : hx_cal hm_M_readsEmpire := ⟨by decide +kernel, cw_M_readsEmpire⟩
set_option maxRecDepth 20000 in
theorem mj_M_readsEmpire : hx_ms[249]? = some hm_M_readsEmpire := rfl
set_option maxRecDepth 100000 in
theorem ok_M_makes : hx_okO hm_M_makes = true := hq_okO (by decide +kernel)
theorem cw_M_makes : Cond.code (hx_y hm_M_makes) (hx_b hm_M_makes) (hx_L hm_M_makes) (hx_ret hm_M_makes) ∈ hx_T := hx_T_in (hx_ch_in tables_1_7 (List.mem_of_getElem? (i := 7) rfl) _ (List.mem_of_getElem? (i := 124) rfl)) rfl
set_option maxRecDepth 100000 in
theorem ck_M_makes : hx_cal hm_M_makes := ⟨by decide +kernel, cw_M_makes⟩
set_option maxRecDepth 20000 in
theorem mj_M_makes : hx_ms[250]? = some hm_M_makes := rfl
set_option maxRecDepth 100000 in
theorem ok_M_canBe : hx_okO hm_M_canBe = true := hq_okO (by decide +kernel)
theorem cw_M_canBe : Cond.code (hx_y hm_M_canBe) (hx_b hm_M_canBe) (hx_L hm_M_canBe) (hx_ret hm_M_canBe) ∈ hx_T := hx_T_in (hx_ch_in tables_1_7 (List.mem_of_getElem? (i := 7) rfl) _ (List.mem_of_getElem? (i := 128) rfl)) rfl
set_option maxRecDepth 100000 in
theorem ck_M_canBe : hx_cal hm_M_canBe := ⟨by decide +kernel, cw_M_canBe⟩
set_option maxRecDepth 20000 in
theorem mj_M_canBe : hx_ms[251]? = some hm_M_canBe := rfl
set_option maxRecDepth 100000 in
theorem ok_M_changes : hx_okO hm_M_changes = true := hq_okO (by decide +kernel)
theorem cw_M_changes : Cond.code (hx_y hm_M_changes) (hx_b hm_M_changes) (hx_L hm_M_changes) (hx_ret hm_M_changes) ∈ hx_T := hx_T_in (hx_ch_in tables_1_7 (List.mem_of_getElem? (i := 7) rfl) _ (List.mem_of_getElem? (i := 132) rfl)) rfl
set_option maxRecDepth 100000 in
theorem ck_M_changes : hx_cal hm_M_changes := ⟨by decide +kernel, cw_M_changes⟩
set_option maxRecDepth 20000 in
theorem mj_M_changes : hx_ms[252]? = some hm_M_changes := rfl
set_option maxRecDepth 100000 in
theorem ok_M_judged : hx_okO hm_M_judged = true := hq_okO (by decide +kernel)
theorem cw_M_judged : Cond.code (hx_y hm_M_judged) (hx_b hm_M_judged) (hx_L hm_M_judged) (hx_ret hm_M_judged) ∈ hx_T := hx_T_in (hx_ch_in tables_1_7 (List.mem_of_getElem? (i := 7) rfl) _ (List.mem_of_getElem? (i := 136) rfl)) rfl
set_option maxRecDepth 100000 in
theorem ck_M_judged : hx_cal hm_M_judged := ⟨by decide +kernel, cw_M_judged⟩
set_option maxRecDepth 20000 in
theorem mj_M_judged : hx_ms[253]? = some hm_M_judged := rfl
set_option maxRecDepth 100000 in
theorem ok_M_begins : hx_okO hm_M_begins = true := hq_okO (by decide +kernel)
theorem cw_M_begins : Cond.code (hx_y hm_M_begins) (hx_b hm_M_begins) (hx_L hm_M_begins) (hx_ret hm_M_begins) ∈ hx_T := hx_T_in (hx_ch_in tables_1_7 (List.mem_of_getElem? (i := 7) rfl) _ (List.mem_of_getElem? (i := 140) rfl)) rfl
set_option maxRecDepth 100000 in
theorem ck_M_begins : hx_cal hm_M_begins := ⟨by decide +kernel, cw_M_begins⟩
set_option maxRecDepth 20000 in
theorem mj_M_begins : hx_ms[254]? = some hm_M_begins := rfl
set_option maxRecDepth 100000 in
theorem ok_M_copies : hx_okO hm_M_copies = true := hq_okO (by decide +kernel)
theorem cw_M_copies : Cond.code (hx_y hm_M_copies) (hx_b hm_M_copies) (hx_L hm_M_copies) (hx_ret hm_M_copies) ∈ hx_T := hx_T_in (hx_ch_in tables_1_7 (List.mem_of_getElem? (i := 7) rfl) _ (List.mem_of_getElem? (i := 143) rfl)) rfl
set_option maxRecDepth 100000 in
theorem ck_M_copies : hx_cal hm_M_copies := ⟨by decide +kernel, cw_M_copies⟩
set_option maxRecDepth 20000 in
theorem mj_M_copies : hx_ms[255]? = some hm_M_copies := rfl
set_option maxRecDepth 100000 in
theorem ok_M_packs : hx_okO hm_M_packs = true := hq_okO (by decide +kernel)
theorem cw_M_packs : Cond.code (hx_y hm_M_packs) (hx_b hm_M_packs) (hx_L hm_M_packs) (hx_ret hm_M_packs) ∈ hx_T := hx_T_in (hx_ch_in tables_1_7 (List.mem_of_getElem? (i := 7) rfl) _ (List.mem_of_getElem? (i := 147) rfl)) rfl
set_option maxRecDepth 100000 in
theorem ck_M_packs : hx_cal hm_M_packs := ⟨by decide +kernel, cw_M_packs⟩
set_option maxRecDepth 20000 in
theorem mj_M_packs : hx_ms[256]? = some hm_M_packs := rfl
set_option maxRecDepth 100000 in
theorem ok_M_again : hx_okO hm_M_again = true := hq_okO (by decide +kernel)
theorem cw_M_again : Cond.code (hx_y hm_M_again) (hx_b hm_M_again) (hx_L hm_M_again) (hx_ret hm_M_again) ∈ hx_T := hx_T_in (hx_ch_in tables_1_7 (List.mem_of_getElem? (i := 7) rfl) _ (List.mem_of_getElem? (i := 151) rfl)) rfl
set_option maxRecDepth 100000 in
theorem ck_M_again : hx_cal hm_M_again := ⟨by decide +kernel, cw_M_again⟩
set_option maxRecDepth 20000 in
theorem mj_M_again : hx_ms[257]? = some hm_M_again := rfl
set_option maxRecDepth 100000 in
theorem ok_M_unpacks : hx_okO hm_M_unpacks = true := hq_okO (by decide +kernel)
theorem cw_M_unpacks : Cond.code (hx_y hm_M_unpacks) (hx_b hm_M_unpacks) (hx_L hm_M_unpacks) (hx_ret hm_M_unpacks) ∈ hx_T := hx_T_in (hx_ch_in tables_1_7 (List.mem_of_getElem? (i := 7) rfl) _ (List.mem_of_getElem? (i := 155) rfl)) rfl
set_option maxRecDepth 100000 in
theorem ck_M_unpacks : hx_cal hm_M_unpacks := ⟨by decide +kernel, cw_M_unpacks⟩
set_option maxRecDepth 20000 in
theorem mj_M_unpacks : hx_ms[258]? = some hm_M_unpacks := rfl
set_option maxRecDepth 100000 in
theorem ok_M_treatyIs : hx_okO hm_M_treatyIs = true := hq_okO (by decide +kernel)
theorem cw_M_treatyIs : Cond.code (hx_y hm_M_treatyIs) (hx_b hm_M_treatyIs) (hx_L hm_M_treatyIs) (hx_ret hm_M_treatyIs) ∈ hx_T := hx_T_in (hx_ch_in tables_1_7 (List.mem_of_getElem? (i := 7) rfl) _ (List.mem_of_getElem? (i := 159) rfl)) rfl
set_option maxRecDepth 100000 in
theorem ck_M_treatyIs : hx_cal hm_M_treatyIs := ⟨by decide +kernel, cw_M_treatyIs⟩
set_option maxRecDepth 20000 in
theorem mj_M_treatyIs : hx_ms[259]? = some hm_M_treatyIs := rfl
set_option maxRecDepth 100000 in
theorem ok_M_days : hx_okO hm_M_days = true := hq_okO (by decide +kernel)
theorem cw_M_days : Cond.code (hx_y hm_M_days) (hx_b hm_M_days) (hx_L hm_M_days) (hx_ret hm_M_days) ∈ hx_T := hx_T_in (hx_ch_in tables_1_7 (List.mem_of_getElem? (i := 7) rfl) _ (List.mem_of_getElem? (i := 163) rfl)) rfl
set_option maxRecDepth 100000 in
theorem ck_M_days : hx_cal hm_M_days := ⟨by decide +kernel, cw_M_days⟩
set_option maxRecDepth 20000 in
theorem mj_M_days : hx_ms[260]? = some hm_M_days := rfl
set_option maxRecDepth 100000 in
theorem ok_M_daysGo : hx_okO hm_M_daysGo = true := hq_okO (by decide +kernel)
theorem cw_M_daysGo : Cond.code (hx_y hm_M_daysGo) (hx_b hm_M_daysGo) (hx_L hm_M_daysGo) (hx_ret hm_M_daysGo) ∈ hx_T := hx_T_in (hx_ch_in tables_1_7 (List.mem_of_getElem? (i := 7) rfl) _ (List.mem_of_getElem? (i := 167) rfl)) rfl
set_option maxRecDepth 100000 in
theorem ck_M_daysGo : hx_cal hm_M_daysGo := ⟨by decide +kernel, cw_M_daysGo⟩
set_option maxRecDepth 20000 in
theorem mj_M_daysGo : hx_ms[261]? = some hm_M_daysGo := rfl
set_option maxRecDepth 100000 in
theorem ok_M_breaksBy : hx_okO hm_M_breaksBy = true := hq_okO (by decide +kernel)
theorem cw_M_breaksBy : Cond.code (hx_y hm_M_breaksBy) (hx_b hm_M_breaksBy) (hx_L hm_M_breaksBy) (hx_ret hm_M_breaksBy) ∈ hx_T := hx_T_in (hx_ch_in tables_1_7 (List.mem_of_getElem? (i := 7) rfl) _ (List.mem_of_getElem? (i := 172) rfl)) rfl
set_option maxRecDepth 100000 in
theorem ck_M_breaksBy : hx_cal hm_M_breaksBy := ⟨by decide +kernel, cw_M_breaksBy⟩
set_option maxRecDepth 20000 in
theorem mj_M_breaksBy : hx_ms[262]? = some hm_M_breaksBy := rfl
set_option maxRecDepth 100000 in
theorem ok_M_lowest : hx_okO hm_M_lowest = true := hq_okO (by decide +kernel)
theorem cw_M_lowest : Cond.code (hx_y hm_M_lowest) (hx_b hm_M_lowest) (hx_L hm_M_lowest) (hx_ret hm_M_lowest) ∈ hx_T := hx_T_in (hx_ch_in tables_1_7 (List.mem_of_getElem? (i := 7) rfl) _ (List.mem_of_getElem? (i := 175) rfl)) rfl
set_option maxRecDepth 100000 in
theorem ck_M_lowest : hx_cal hm_M_lowest := ⟨by decide +kernel, cw_M_lowest⟩
set_option maxRecDepth 20000 in
theorem mj_M_lowest : hx_ms[263]? = some hm_M_lowest := rfl
set_option maxRecDepth 100000 in
theorem ok_M_byLaw : hx_okO hm_M_byLaw = true := hq_okO (by decide +kernel)
theorem cw_M_byLaw : Cond.code (hx_y hm_M_byLaw) (hx_b hm_M_byLaw) (hx_L hm_M_byLaw) (hx_ret hm_M_byLaw) ∈ hx_T := hx_T_in (hx_ch_in tables_1_7 (List.mem_of_getElem? (i := 7) rfl) _ (List.mem_of_getElem? (i := 179) rfl)) rfl
set_option maxRecDepth 100000 in
theorem ck_M_byLaw : hx_cal hm_M_byLaw := ⟨by decide +kernel, cw_M_byLaw⟩
set_option maxRecDepth 20000 in
theorem mj_M_byLaw : hx_ms[264]? = some hm_M_byLaw := rfl
set_option maxRecDepth 100000 in
theorem ok_M_ends : hx_okO hm_M_ends = true := hq_okO (by decide +kernel)
theorem cw_M_ends : Cond.code (hx_y hm_M_ends) (hx_b hm_M_ends) (hx_L hm_M_ends) (hx_ret hm_M_ends) ∈ hx_T := hx_T_in (hx_ch_in tables_1_7 (List.mem_of_getElem? (i := 7) rfl) _ (List.mem_of_getElem? (i := 183) rfl)) rfl
set_option maxRecDepth 100000 in
theorem ck_M_ends : hx_cal hm_M_ends := ⟨by decide +kernel, cw_M_ends⟩
set_option maxRecDepth 20000 in
theorem mj_M_ends : hx_ms[265]? = some hm_M_ends := rfl
set_option maxRecDepth 100000 in
theorem ok_M_tried : hx_okO hm_M_tried = true := hq_okO (by decide +kernel)
theorem cw_M_tried : Cond.code (hx_y hm_M_tried) (hx_b hm_M_tried) (hx_L hm_M_tried) (hx_ret hm_M_tried) ∈ hx_T := hx_T_in (hx_ch_in tables_1_7 (List.mem_of_getElem? (i := 7) rfl) _ (List.mem_of_getElem? (i := 187) rfl)) rfl
set_option maxRecDepth 100000 in
theorem ck_M_tried : hx_cal hm_M_tried := ⟨by decide +kernel, cw_M_tried⟩
set_option maxRecDepth 20000 in
theorem mj_M_tried : hx_ms[266]? = some hm_M_tried := rfl
set_option maxRecDepth 100000 in
theorem ok_M_hadAll : hx_okO hm_M_hadAll = true := hq_okO (by decide +kernel)
theorem cw_M_hadAll : Cond.code (hx_y hm_M_hadAll) (hx_b hm_M_hadAll) (hx_L hm_M_hadAll) (hx_ret hm_M_hadAll) ∈ hx_T := hx_T_in (hx_ch_in tables_1_7 (List.mem_of_getElem? (i := 7) rfl) _ (List.mem_of_getElem? (i := 191) rfl)) rfl
set_option maxRecDepth 100000 in
theorem ck_M_hadAll : hx_cal hm_M_hadAll := ⟨by decide +kernel, cw_M_hadAll⟩
set_option maxRecDepth 20000 in
theorem mj_M_hadAll : hx_ms[267]? = some hm_M_hadAll := rfl
set_option maxRecDepth 100000 in
theorem ok_M_land : hx_okO hm_M_land = true := hq_okO (by decide +kernel)
theorem cw_M_land : Cond.code (hx_y hm_M_land) (hx_b hm_M_land) (hx_L hm_M_land) (hx_ret hm_M_land) ∈ hx_T := hx_T_in (hx_ch_in tables_1_7 (List.mem_of_getElem? (i := 7) rfl) _ (List.mem_of_getElem? (i := 195) rfl)) rfl
set_option maxRecDepth 100000 in
theorem ck_M_land : hx_cal hm_M_land := ⟨by decide +kernel, cw_M_land⟩
set_option maxRecDepth 20000 in
theorem mj_M_land : hx_ms[268]? = some hm_M_land := rfl
set_option maxRecDepth 100000 in
theorem ok_M_readsRow : hx_okO hm_M_readsRow = true := hq_okO (by decide +kernel)
theorem cw_M_readsRow : Cond.code (hx_y hm_M_readsRow) (hx_b hm_M_readsRow) (hx_L hm_M_readsRow) (hx_ret hm_M_readsRow) ∈ hx_T := hx_T_in (hx_ch_in tables_1_7 (List.mem_of_getElem? (i := 7) rfl) _ (List.mem_of_getElem? (i := 199) rfl)) rfl
set_option maxRecDepth 100000 in
theorem ck_M_readsRow : hx_cal hm_M_readsRow := ⟨by decide +kernel, cw_M_readsRow⟩
set_option maxRecDepth 20000 in
theorem mj_M_readsRow : hx_ms[269]? = some hm_M_readsRow := rfl
set_option maxRecDepth 100000 in
theorem ok_M_unseen : hx_okO hm_M_unseen = true := hq_okO (by decide +kernel)
theorem cw_M_unseen : Cond.code (hx_y hm_M_unseen) (hx_b hm_M_unseen) (hx_L hm_M_unseen) (hx_ret hm_M_unseen) ∈ hx_T := hx_T_in (hx_ch_in tables_1_7 (List.mem_of_getElem? (i := 7) rfl) _ (List.mem_of_getElem? (i := 203) rfl)) rfl
set_option maxRecDepth 100000 in
theorem ck_M_unseen : hx_cal hm_M_unseen := ⟨by decide +kernel, cw_M_unseen⟩
set_option maxRecDepth 20000 in
theorem mj_M_unseen : hx_ms[270]? = some hm_M_unseen := rfl
set_option maxRecDepth 100000 in
theorem ok_M_isUnseen : hx_okO hm_M_isUnseen = true := hq_okO (by decide +kernel)
theorem cw_M_isUnseen : Cond.code (hx_y hm_M_isUnseen) (hx_b hm_M_isUnseen) (hx_L hm_M_isUnseen) (hx_ret hm_M_isUnseen) ∈ hx_T := hx_T_in (hx_ch_in tables_1_7 (List.mem_of_getElem? (i := 7) rfl) _ (List.mem_of_getElem? (i := 207) rfl)) rfl
set_option maxRecDepth 100000 in
theorem ck_M_isUnseen : hx_cal hm_M_isUnseen := ⟨by decide +kernel, cw_M_isUnseen⟩
set_option maxRecDepth 20000 in
theorem mj_M_isUnseen : hx_ms[271]? = some hm_M_isUnseen := rfl
set_option maxRecDepth 100000 in
theorem ok_M_way : hx_okO hm_M_way = true := hq_okO (by decide +kernel)
theorem cw_M_way : Cond.code (hx_y hm_M_way) (hx_b hm_M_way) (hx_L hm_M_way) (hx_ret hm_M_way) ∈ hx_T := hx_T_in (hx_ch_in tables_1_7 (List.mem_of_getElem? (i := 7) rfl) _ (List.mem_of_getElem? (i := 211) rfl)) rfl
set_option maxRecDepth 100000 in
theorem ck_M_way : hx_cal hm_M_way := ⟨by decide +kernel, cw_M_way⟩
set_option maxRecDepth 20000 in
theorem mj_M_way : hx_ms[272]? = some hm_M_way := rfl
set_option maxRecDepth 100000 in
theorem ok_M_laysCosts : hx_okO hm_M_laysCosts = true := hq_okO (by decide +kernel)
theorem cw_M_laysCosts : Cond.code (hx_y hm_M_laysCosts) (hx_b hm_M_laysCosts) (hx_L hm_M_laysCosts) (hx_ret hm_M_laysCosts) ∈ hx_T := hx_T_in (hx_ch_in tables_1_7 (List.mem_of_getElem? (i := 7) rfl) _ (List.mem_of_getElem? (i := 215) rfl)) rfl
set_option maxRecDepth 100000 in
theorem ck_M_laysCosts : hx_cal hm_M_laysCosts := ⟨by decide +kernel, cw_M_laysCosts⟩
set_option maxRecDepth 20000 in
theorem mj_M_laysCosts : hx_ms[273]? = some hm_M_laysCosts := rfl
set_option maxRecDepth 100000 in
theorem ok_M_beside : hx_okO hm_M_beside = true := hq_okO (by decide +kernel)
theorem cw_M_beside : Cond.code (hx_y hm_M_beside) (hx_b hm_M_beside) (hx_L hm_M_beside) (hx_ret hm_M_beside) ∈ hx_T := hx_T_in (hx_ch_in tables_1_7 (List.mem_of_getElem? (i := 7) rfl) _ (List.mem_of_getElem? (i := 220) rfl)) rfl
set_option maxRecDepth 100000 in
theorem ck_M_beside : hx_cal hm_M_beside := ⟨by decide +kernel, cw_M_beside⟩
set_option maxRecDepth 20000 in
theorem mj_M_beside : hx_ms[274]? = some hm_M_beside := rfl
set_option maxRecDepth 100000 in
theorem ok_M_worth : hx_okO hm_M_worth = true := hq_okO (by decide +kernel)
theorem cw_M_worth : Cond.code (hx_y hm_M_worth) (hx_b hm_M_worth) (hx_L hm_M_worth) (hx_ret hm_M_worth) ∈ hx_T := hx_T_in (hx_ch_in tables_1_7 (List.mem_of_getElem? (i := 7) rfl) _ (List.mem_of_getElem? (i := 224) rfl)) rfl
set_option maxRecDepth 100000 in
theorem ck_M_worth : hx_cal hm_M_worth := ⟨by decide +kernel, cw_M_worth⟩
set_option maxRecDepth 20000 in
theorem mj_M_worth : hx_ms[275]? = some hm_M_worth := rfl
set_option maxRecDepth 100000 in
theorem ok_M_worthOf : hx_okO hm_M_worthOf = true := hq_okO (by decide +kernel)
theorem cw_M_worthOf : Cond.code (hx_y hm_M_worthOf) (hx_b hm_M_worthOf) (hx_L hm_M_worthOf) (hx_ret hm_M_worthOf) ∈ hx_T := hx_T_in (hx_ch_in tables_1_7 (List.mem_of_getElem? (i := 7) rfl) _ (List.mem_of_getElem? (i := 228) rfl)) rfl
set_option maxRecDepth 100000 in
theorem ck_M_worthOf : hx_cal hm_M_worthOf := ⟨by decide +kernel, cw_M_worthOf⟩
set_option maxRecDepth 20000 in
theorem mj_M_worthOf : hx_ms[276]? = some hm_M_worthOf := rfl
set_option maxRecDepth 100000 in
theorem ok_M_ownedOf : hx_okO hm_M_ownedOf = true := hq_okO (by decide +kernel)
theorem cw_M_ownedOf : Cond.code (hx_y hm_M_ownedOf) (hx_b hm_M_ownedOf) (hx_L hm_M_ownedOf) (hx_ret hm_M_ownedOf) ∈ hx_T := hx_T_in (hx_ch_in tables_1_7 (List.mem_of_getElem? (i := 7) rfl) _ (List.mem_of_getElem? (i := 232) rfl)) rfl
set_option maxRecDepth 100000 in
theorem ck_M_ownedOf : hx_cal hm_M_ownedOf := ⟨by decide +kernel, cw_M_ownedOf⟩
set_option maxRecDepth 20000 in
theorem mj_M_ownedOf : hx_ms[277]? = some hm_M_ownedOf := rfl
set_option maxRecDepth 100000 in
theorem ok_M_gain : hx_okO hm_M_gain = true := hq_okO (by decide +kernel)
theorem cw_M_gain : Cond.code (hx_y hm_M_gain) (hx_b hm_M_gain) (hx_L hm_M_gain) (hx_ret hm_M_gain) ∈ hx_T := hx_T_in (hx_ch_in tables_1_7 (List.mem_of_getElem? (i := 7) rfl) _ (List.mem_of_getElem? (i := 236) rfl)) rfl
set_option maxRecDepth 100000 in
theorem ck_M_gain : hx_cal hm_M_gain := ⟨by decide +kernel, cw_M_gain⟩
set_option maxRecDepth 20000 in
theorem mj_M_gain : hx_ms[278]? = some hm_M_gain := rfl
set_option maxRecDepth 100000 in
theorem ok_M_power : hx_okO hm_M_power = true := hq_okO (by decide +kernel)
theorem cw_M_power : Cond.code (hx_y hm_M_power) (hx_b hm_M_power) (hx_L hm_M_power) (hx_ret hm_M_power) ∈ hx_T := hx_T_in (hx_ch_in tables_1_8 (List.mem_of_getElem? (i := 8) rfl) _ (List.mem_of_getElem? (i := 1) rfl)) rfl
set_option maxRecDepth 100000 in
theorem ck_M_power : hx_cal hm_M_power := ⟨by decide +kernel, cw_M_power⟩
set_option maxRecDepth 20000 in
theorem mj_M_power : hx_ms[279]? = some hm_M_power := rfl
set_option maxRecDepth 100000 in
theorem ok_M_orders : hx_okO hm_M_orders = true := hq_okO (by decide +kernel)
theorem cw_M_orders : Cond.code (hx_y hm_M_orders) (hx_b hm_M_orders) (hx_L hm_M_orders) (hx_ret hm_M_orders) ∈ hx_T := hx_T_in (hx_ch_in tables_1_8 (List.mem_of_getElem? (i := 8) rfl) _ (List.mem_of_getElem? (i := 4) rfl)) rfl
set_option maxRecDepth 100000 in
theorem ck_M_orders : hx_cal hm_M_orders := ⟨by decide +kernel, cw_M_orders⟩
set_option maxRecDepth 20000 in
theorem mj_M_orders : hx_ms[280]? = some hm_M_orders := rfl
set_option maxRecDepth 100000 in
theorem ok_M_worthWith : hx_okO hm_M_worthWith = true := hq_okO (by decide +kernel)
theorem cw_M_worthWith : Cond.code (hx_y hm_M_worthWith) (hx_b hm_M_worthWith) (hx_L hm_M_worthWith) (hx_ret hm_M_worthWith) ∈ hx_T := hx_T_in (hx_ch_in tables_1_8 (List.mem_of_getElem? (i := 8) rfl) _ (List.mem_of_getElem? (i := 8) rfl)) rfl
set_option maxRecDepth 100000 in
theorem ck_M_worthWith : hx_cal hm_M_worthWith := ⟨by decide +kernel, cw_M_worthWith⟩
set_option maxRecDepth 20000 in
theorem mj_M_worthWith : hx_ms[281]? = some hm_M_worthWith := rfl
set_option maxRecDepth 100000 in
theorem ok_M_gcd : hx_okO hm_M_gcd = true := hq_okO (by decide +kernel)
theorem cw_M_gcd : Cond.code (hx_y hm_M_gcd) (hx_b hm_M_gcd) (hx_L hm_M_gcd) (hx_ret hm_M_gcd) ∈ hx_T := hx_T_in (hx_ch_in tables_1_8 (List.mem_of_getElem? (i := 8) rfl) _ (List.mem_of_getElem? (i := 11) rfl)) rfl
set_option maxRecDepth 100000 in
theorem ck_M_gcd : hx_cal hm_M_gcd := ⟨by decide +kernel, cw_M_gcd⟩
set_option maxRecDepth 20000 in
theorem mj_M_gcd : hx_ms[282]? = some hm_M_gcd := rfl
set_option maxRecDepth 100000 in
theorem ok_M_signals : hx_okO hm_M_signals = true := hq_okO (by decide +kernel)
theorem cw_M_signals : Cond.code (hx_y hm_M_signals) (hx_b hm_M_signals) (hx_L hm_M_signals) (hx_ret hm_M_signals) ∈ hx_T := hx_T_in (hx_ch_in tables_1_8 (List.mem_of_getElem? (i := 8) rfl) _ (List.mem_of_getElem? (i := 15) rfl)) rfl
set_option maxRecDepth 100000 in
theorem ck_M_signals : hx_cal hm_M_signals := ⟨by decide +kernel, cw_M_signals⟩
set_option maxRecDepth 20000 in
theorem mj_M_signals : hx_ms[283]? = some hm_M_signals := rfl
set_option maxRecDepth 100000 in
theorem ok_M_laysAll : hx_okO hm_M_laysAll = true := hq_okO (by decide +kernel)
theorem cw_M_laysAll : Cond.code (hx_y hm_M_laysAll) (hx_b hm_M_laysAll) (hx_L hm_M_laysAll) (hx_ret hm_M_laysAll) ∈ hx_T := hx_T_in (hx_ch_in tables_1_8 (List.mem_of_getElem? (i := 8) rfl) _ (List.mem_of_getElem? (i := 19) rfl)) rfl
set_option maxRecDepth 100000 in
theorem ck_M_laysAll : hx_cal hm_M_laysAll := ⟨by decide +kernel, cw_M_laysAll⟩
set_option maxRecDepth 20000 in
theorem mj_M_laysAll : hx_ms[284]? = some hm_M_laysAll := rfl
set_option maxRecDepth 100000 in
theorem ok_M_isSignal : hx_okO hm_M_isSignal = true := hq_okO (by decide +kernel)
theorem cw_M_isSignal : Cond.code (hx_y hm_M_isSignal) (hx_b hm_M_isSignal) (hx_L hm_M_isSignal) (hx_ret hm_M_isSignal) ∈ hx_T := hx_T_in (hx_ch_in tables_1_8 (List.mem_of_getElem? (i := 8) rfl) _ (List.mem_of_getElem? (i := 23) rfl)) rfl
set_option maxRecDepth 100000 in
theorem ck_M_isSignal : hx_cal hm_M_isSignal := ⟨by decide +kernel, cw_M_isSignal⟩
set_option maxRecDepth 20000 in
theorem mj_M_isSignal : hx_ms[285]? = some hm_M_isSignal := rfl
set_option maxRecDepth 100000 in
theorem ok_M_tellsApart : hx_okO hm_M_tellsApart = true := hq_okO (by decide +kernel)
theorem cw_M_tellsApart : Cond.code (hx_y hm_M_tellsApart) (hx_b hm_M_tellsApart) (hx_L hm_M_tellsApart) (hx_ret hm_M_tellsApart) ∈ hx_T := hx_T_in (hx_ch_in tables_1_8 (List.mem_of_getElem? (i := 8) rfl) _ (List.mem_of_getElem? (i := 27) rfl)) rfl
set_option maxRecDepth 100000 in
theorem ck_M_tellsApart : hx_cal hm_M_tellsApart := ⟨by decide +kernel, cw_M_tellsApart⟩
set_option maxRecDepth 20000 in
theorem mj_M_tellsApart : hx_ms[286]? = some hm_M_tellsApart := rfl
set_option maxRecDepth 100000 in
theorem ok_M_seesOne : hx_okO hm_M_seesOne = true := hq_okO (by decide +kernel)
theorem cw_M_seesOne : Cond.code (hx_y hm_M_seesOne) (hx_b hm_M_seesOne) (hx_L hm_M_seesOne) (hx_ret hm_M_seesOne) ∈ hx_T := hx_T_in (hx_ch_in tables_1_8 (List.mem_of_getElem? (i := 8) rfl) _ (List.mem_of_getElem? (i := 31) rfl)) rfl
set_option maxRecDepth 100000 in
theorem ck_M_seesOne : hx_cal hm_M_seesOne := ⟨by decide +kernel, cw_M_seesOne⟩
set_option maxRecDepth 20000 in
theorem mj_M_seesOne : hx_ms[287]? = some hm_M_seesOne := rfl
set_option maxRecDepth 100000 in
theorem ok_M_max : hx_okO hm_M_max = true := hq_okO (by decide +kernel)
theorem cw_M_max : Cond.code (hx_y hm_M_max) (hx_b hm_M_max) (hx_L hm_M_max) (hx_ret hm_M_max) ∈ hx_T := hx_T_in (hx_ch_in tables_1_8 (List.mem_of_getElem? (i := 8) rfl) _ (List.mem_of_getElem? (i := 34) rfl)) rfl
set_option maxRecDepth 100000 in
theorem ck_M_max : hx_cal hm_M_max := ⟨by decide +kernel, cw_M_max⟩
set_option maxRecDepth 20000 in
theorem mj_M_max : hx_ms[288]? = some hm_M_max := rfl
set_option maxRecDepth 100000 in
theorem ok_M_parted : hx_okO hm_M_parted = true := hq_okO (by decide +kernel)
theorem cw_M_parted : Cond.code (hx_y hm_M_parted) (hx_b hm_M_parted) (hx_L hm_M_parted) (hx_ret hm_M_parted) ∈ hx_T := hx_T_in (hx_ch_in tables_1_8 (List.mem_of_getElem? (i := 8) rfl) _ (List.mem_of_getElem? (i := 38) rfl)) rfl
set_option maxRecDepth 100000 in
theorem ck_M_parted : hx_cal hm_M_parted := ⟨by decide +kernel, cw_M_parted⟩
set_option maxRecDepth 20000 in
theorem mj_M_parted : hx_ms[289]? = some hm_M_parted := rfl
set_option maxRecDepth 100000 in
theorem ok_M_leastBy : hx_okO hm_M_leastBy = true := hq_okO (by decide +kernel)
theorem cw_M_leastBy : Cond.code (hx_y hm_M_leastBy) (hx_b hm_M_leastBy) (hx_L hm_M_leastBy) (hx_ret hm_M_leastBy) ∈ hx_T := hx_T_in (hx_ch_in tables_1_8 (List.mem_of_getElem? (i := 8) rfl) _ (List.mem_of_getElem? (i := 42) rfl)) rfl
set_option maxRecDepth 100000 in
theorem ck_M_leastBy : hx_cal hm_M_leastBy := ⟨by decide +kernel, cw_M_leastBy⟩
set_option maxRecDepth 20000 in
theorem mj_M_leastBy : hx_ms[290]? = some hm_M_leastBy := rfl
set_option maxRecDepth 100000 in
theorem ok_M_hasBy : hx_okO hm_M_hasBy = true := hq_okO (by decide +kernel)
theorem cw_M_hasBy : Cond.code (hx_y hm_M_hasBy) (hx_b hm_M_hasBy) (hx_L hm_M_hasBy) (hx_ret hm_M_hasBy) ∈ hx_T := hx_T_in (hx_ch_in tables_1_8 (List.mem_of_getElem? (i := 8) rfl) _ (List.mem_of_getElem? (i := 46) rfl)) rfl
set_option maxRecDepth 100000 in
theorem ck_M_hasBy : hx_cal hm_M_hasBy := ⟨by decide +kernel, cw_M_hasBy⟩
set_option maxRecDepth 20000 in
theorem mj_M_hasBy : hx_ms[291]? = some hm_M_hasBy := rfl
set_option maxRecDepth 100000 in
theorem ok_M_min : hx_okO hm_M_min = true := hq_okO (by decide +kernel)
theorem cw_M_min : Cond.code (hx_y hm_M_min) (hx_b hm_M_min) (hx_L hm_M_min) (hx_ret hm_M_min) ∈ hx_T := hx_T_in (hx_ch_in tables_1_8 (List.mem_of_getElem? (i := 8) rfl) _ (List.mem_of_getElem? (i := 49) rfl)) rfl
set_option maxRecDepth 100000 in
theorem ck_M_min : hx_cal hm_M_min := ⟨by decide +kernel, cw_M_min⟩
set_option maxRecDepth 20000 in
theorem mj_M_min : hx_ms[292]? = some hm_M_min := rfl
set_option maxRecDepth 100000 in
theorem ok_M_battle : hx_okO hm_M_battle = true := hq_okO (by decide +kernel)
theorem cw_M_battle : Cond.code (hx_y hm_M_battle) (hx_b hm_M_battle) (hx_L hm_M_battle) (hx_ret hm_M_battle) ∈ hx_T := hx_T_in (hx_ch_in tables_1_8 (List.mem_of_getElem? (i := 8) rfl) _ (List.mem_of_getElem? (i := 53) rfl)) rfl
set_option maxRecDepth 100000 in
theorem ck_M_battle : hx_cal hm_M_battle := ⟨by decide +kernel, cw_M_battle⟩
set_option maxRecDepth 20000 in
theorem mj_M_battle : hx_ms[293]? = some hm_M_battle := rfl
set_option maxRecDepth 100000 in
theorem ok_M_laysFights : hx_okO hm_M_laysFights = true := hq_okO (by decide +kernel)
theorem cw_M_laysFights : Cond.code (hx_y hm_M_laysFights) (hx_b hm_M_laysFights) (hx_L hm_M_laysFights) (hx_ret hm_M_laysFights) ∈ hx_T := hx_T_in (hx_ch_in tables_1_8 (List.mem_of_getElem? (i := 8) rfl) _ (List.mem_of_getElem? (i := 57) rfl)) rfl
set_option maxRecDepth 100000 in
theorem ck_M_laysFights : hx_cal hm_M_laysFights := ⟨by decide +kernel, cw_M_laysFights⟩
set_option maxRecDepth 20000 in
theorem mj_M_laysFights : hx_ms[294]? = some hm_M_laysFights := rfl
set_option maxRecDepth 100000 in
theorem ok_M_canTake : hx_okO hm_M_canTake = true := hq_okO (by decide +kernel)
theorem cw_M_canTake : Cond.code (hx_y hm_M_canTake) (hx_b hm_M_canTake) (hx_L hm_M_canTake) (hx_ret hm_M_canTake) ∈ hx_T := hx_T_in (hx_ch_in tables_1_8 (List.mem_of_getElem? (i := 8) rfl) _ (List.mem_of_getElem? (i := 61) rfl)) rfl
set_option maxRecDepth 100000 in
theorem ck_M_canTake : hx_cal hm_M_canTake := ⟨by decide +kernel, cw_M_canTake⟩
set_option maxRecDepth 20000 in
theorem mj_M_canTake : hx_ms[295]? = some hm_M_canTake := rfl
set_option maxRecDepth 100000 in
theorem ok_M_rests : hx_okO hm_M_rests = true := hq_okO (by decide +kernel)
theorem cw_M_rests : Cond.code (hx_y hm_M_rests) (hx_b hm_M_rests) (hx_L hm_M_rests) (hx_ret hm_M_rests) ∈ hx_T := hx_T_in (hx_ch_in tables_1_8 (List.mem_of_getElem? (i := 8) rfl) _ (List.mem_of_getElem? (i := 65) rfl)) rfl
set_option maxRecDepth 100000 in
theorem ck_M_rests : hx_cal hm_M_rests := ⟨by decide +kernel, cw_M_rests⟩
set_option maxRecDepth 20000 in
theorem mj_M_rests : hx_ms[296]? = some hm_M_rests := rfl
set_option maxRecDepth 100000 in
theorem ok_M_spies : hx_okO hm_M_spies = true := hq_okO (by decide +kernel)
theorem cw_M_spies : Cond.code (hx_y hm_M_spies) (hx_b hm_M_spies) (hx_L hm_M_spies) (hx_ret hm_M_spies) ∈ hx_T := hx_T_in (hx_ch_in tables_1_8 (List.mem_of_getElem? (i := 8) rfl) _ (List.mem_of_getElem? (i := 69) rfl)) rfl
set_option maxRecDepth 100000 in
theorem ck_M_spies : hx_cal hm_M_spies := ⟨by decide +kernel, cw_M_spies⟩
set_option maxRecDepth 20000 in
theorem mj_M_spies : hx_ms[297]? = some hm_M_spies := rfl
set_option maxRecDepth 100000 in
theorem ok_M_areShown : hx_okO hm_M_areShown = true := hq_okO (by decide +kernel)
theorem cw_M_areShown : Cond.code (hx_y hm_M_areShown) (hx_b hm_M_areShown) (hx_L hm_M_areShown) (hx_ret hm_M_areShown) ∈ hx_T := hx_T_in (hx_ch_in tables_1_8 (List.mem_of_getElem? (i := 8) rfl) _ (List.mem_of_getElem? (i := 73) rfl)) rfl
set_option maxRecDepth 100000 in
theorem ck_M_areShown : hx_cal hm_M_areShown := ⟨by decide +kernel, cw_M_areShown⟩
set_option maxRecDepth 20000 in
theorem mj_M_areShown : hx_ms[298]? = some hm_M_areShown := rfl
set_option maxRecDepth 100000 in
theorem ok_M_fitting : hx_okO hm_M_fitting = true := hq_okO (by decide +kernel)
theorem cw_M_fitting : Cond.code (hx_y hm_M_fitting) (hx_b hm_M_fitting) (hx_L hm_M_fitting) (hx_ret hm_M_fitting) ∈ hx_T := hx_T_in (hx_ch_in tables_1_8 (List.mem_of_getElem? (i := 8) rfl) _ (List.mem_of_getElem? (i := 77) rfl)) rfl
set_option maxRecDepth 100000 in
theorem ck_M_fitting : hx_cal hm_M_fitting := ⟨by decide +kernel, cw_M_fitting⟩
set_option maxRecDepth 20000 in
theorem mj_M_fitting : hx_ms[299]? = some hm_M_fitting := rfl
set_option maxRecDepth 100000 in
theorem ok_M_stops : hx_okO hm_M_stops = true := hq_okO (by decide +kernel)
theorem cw_M_stops : Cond.code (hx_y hm_M_stops) (hx_b hm_M_stops) (hx_L hm_M_stops) (hx_ret hm_M_stops) ∈ hx_T := hx_T_in (hx_ch_in tables_1_8 (List.mem_of_getElem? (i := 8) rfl) _ (List.mem_of_getElem? (i := 81) rfl)) rfl
set_option maxRecDepth 100000 in
theorem ck_M_stops : hx_cal hm_M_stops := ⟨by decide +kernel, cw_M_stops⟩
set_option maxRecDepth 20000 in
theorem mj_M_stops : hx_ms[300]? = some hm_M_stops := rfl
set_option maxRecDepth 100000 in
theorem ok_M_greaterBy : hx_okO hm_M_greaterBy = true := hq_okO (by decide +kernel)
theorem cw_M_greaterBy : Cond.code (hx_y hm_M_greaterBy) (hx_b hm_M_greaterBy) (hx_L hm_M_greaterBy) (hx_ret hm_M_greaterBy) ∈ hx_T := hx_T_in (hx_ch_in tables_1_8 (List.mem_of_getElem? (i := 8) rfl) _ (List.mem_of_getElem? (i := 85) rfl)) rfl
set_option maxRecDepth 100000 in
theorem ck_M_greaterBy : hx_cal hm_M_greaterBy := ⟨by decide +kernel, cw_M_greaterBy⟩
set_option maxRecDepth 20000 in
theorem mj_M_greaterBy : hx_ms[301]? = some hm_M_greaterBy := rfl
set_option maxRecDepth 100000 in
theorem ok_M_painting : hx_okO hm_M_painting = true := hq_okO (by decide +kernel)
theorem cw_M_painting : Cond.code (hx_y hm_M_painting) (hx_b hm_M_painting) (hx_L hm_M_painting) (hx_ret hm_M_painting) ∈ hx_T := hx_T_in (hx_ch_in tables_1_8 (List.mem_of_getElem? (i := 8) rfl) _ (List.mem_of_getElem? (i := 89) rfl)) rfl
set_option maxRecDepth 100000 in
theorem ck_M_painting : hx_cal hm_M_painting := ⟨by decide +kernel, cw_M_painting⟩
set_option maxRecDepth 20000 in
theorem mj_M_painting : hx_ms[302]? = some hm_M_painting := rfl
set_option maxRecDepth 100000 in
theorem ok_M_ash : hx_okO hm_M_ash = true := hq_okO (by decide +kernel)
theorem cw_M_ash : Cond.code (hx_y hm_M_ash) (hx_b hm_M_ash) (hx_L hm_M_ash) (hx_ret hm_M_ash) ∈ hx_T := hx_T_in (hx_ch_in tables_1_8 (List.mem_of_getElem? (i := 8) rfl) _ (List.mem_of_getElem? (i := 93) rfl)) rfl
set_option maxRecDepth 100000 in
theorem ck_M_ash : hx_cal hm_M_ash := ⟨by decide +kernel, cw_M_ash⟩
set_option maxRecDepth 20000 in
theorem mj_M_ash : hx_ms[303]? = some hm_M_ash := rfl
set_option maxRecDepth 100000 in
theorem ok_M_laysSeas : hx_okO hm_M_laysSeas = true := hq_okO (by decide +kernel)
theorem cw_M_laysSeas : Cond.code (hx_y hm_M_laysSeas) (hx_b hm_M_laysSeas) (hx_L hm_M_laysSeas) (hx_ret hm_M_laysSeas) ∈ hx_T := hx_T_in (hx_ch_in tables_1_8 (List.mem_of_getElem? (i := 8) rfl) _ (List.mem_of_getElem? (i := 97) rfl)) rfl
set_option maxRecDepth 100000 in
theorem ck_M_laysSeas : hx_cal hm_M_laysSeas := ⟨by decide +kernel, cw_M_laysSeas⟩
set_option maxRecDepth 20000 in
theorem mj_M_laysSeas : hx_ms[304]? = some hm_M_laysSeas := rfl
set_option maxRecDepth 100000 in
theorem ok_M_joins : hx_okO hm_M_joins = true := hq_okO (by decide +kernel)
theorem cw_M_joins : Cond.code (hx_y hm_M_joins) (hx_b hm_M_joins) (hx_L hm_M_joins) (hx_ret hm_M_joins) ∈ hx_T := hx_T_in (hx_ch_in tables_1_8 (List.mem_of_getElem? (i := 8) rfl) _ (List.mem_of_getElem? (i := 101) rfl)) rfl
set_option maxRecDepth 100000 in
theorem ck_M_joins : hx_cal hm_M_joins := ⟨by decide +kernel, cw_M_joins⟩
set_option maxRecDepth 20000 in
theorem mj_M_joins : hx_ms[305]? = some hm_M_joins := rfl
set_option maxRecDepth 100000 in
theorem ok_M_seed : hx_okO hm_M_seed = true := hq_okO (by decide +kernel)
theorem cw_M_seed : Cond.code (hx_y hm_M_seed) (hx_b hm_M_seed) (hx_L hm_M_seed) (hx_ret hm_M_seed) ∈ hx_T := hx_T_in (hx_ch_in tables_1_8 (List.mem_of_getElem? (i := 8) rfl) _ (List.mem_of_getElem? (i := 105) rfl)) rfl
set_option maxRecDepth 100000 in
theorem ck_M_seed : hx_cal hm_M_seed := ⟨by decide +kernel, cw_M_seed⟩
set_option maxRecDepth 20000 in
theorem mj_M_seed : hx_ms[306]? = some hm_M_seed := rfl
set_option maxRecDepth 100000 in
theorem ok_M_keep : hx_okO hm_M_keep = true := hq_okO (by decide +kernel)
theorem cw_M_keep : Cond.code (hx_y hm_M_keep) (hx_b hm_M_keep) (hx_L hm_M_keep) (hx_ret hm_M_keep) ∈ hx_T := hx_T_in (hx_ch_in tables_1_8 (List.mem_of_getElem? (i := 8) rfl) _ (List.mem_of_getElem? (i := 110) rfl)) rfl
set_option maxRecDepth 100000 in
theorem ck_M_keep : hx_cal hm_M_keep := ⟨by decide +kernel, cw_M_keep⟩
set_option maxRecDepth 20000 in
theorem mj_M_keep : hx_ms[307]? = some hm_M_keep := rfl
set_option maxRecDepth 100000 in
theorem ok_M_undo : hx_okO hm_M_undo = true := hq_okO (by decide +kernel)
theorem cw_M_undo : Cond.code (hx_y hm_M_undo) (hx_b hm_M_undo) (hx_L hm_M_undo) (hx_ret hm_M_undo) ∈ hx_T := hx_T_in (hx_ch_in tables_1_8 (List.mem_of_getElem? (i := 8) rfl) _ (List.mem_of_getElem? (i := 114) rfl)) rfl
set_option maxRecDepth 100000 in
theorem ck_M_undo : hx_cal hm_M_undo := ⟨by decide +kernel, cw_M_undo⟩
set_option maxRecDepth 20000 in
theorem mj_M_undo : hx_ms[308]? = some hm_M_undo := rfl
set_option maxRecDepth 100000 in
theorem ok_M_check : hx_okO hm_M_check = true := hq_okO (by decide +kernel)
theorem cw_M_check : Cond.code (hx_y hm_M_check) (hx_b hm_M_check) (hx_L hm_M_check) (hx_ret hm_M_check) ∈ hx_T := hx_T_in (hx_ch_in tables_1_8 (List.mem_of_getElem? (i := 8) rfl) _ (List.mem_of_getElem? (i := 118) rfl)) rfl
set_option maxRecDepth 100000 in
theorem ck_M_check : hx_cal hm_M_check := ⟨by decide +kernel, cw_M_check⟩
set_option maxRecDepth 20000 in
theorem mj_M_check : hx_ms[309]? = some hm_M_check := rfl
set_option maxRecDepth 100000 in
theorem ok_M_tapeNumber : hx_okO hm_M_tapeNumber = true := hq_okO (by decide +kernel)
theorem cw_M_tapeNumber : Cond.code (hx_y hm_M_tapeNumber) (hx_b hm_M_tapeNumber) (hx_L hm_M_tapeNumber) (hx_ret hm_M_tapeNumber) ∈ hx_T := hx_T_in (hx_ch_in tables_1_8 (List.mem_of_getElem? (i := 8) rfl) _ (List.mem_of_getElem? (i := 122) rfl)) rfl
set_option maxRecDepth 100000 in
theorem ck_M_tapeNumber : hx_cal hm_M_tapeNumber := ⟨by decide +kernel, cw_M_tapeNumber⟩
set_option maxRecDepth 20000 in
theorem mj_M_tapeNumber : hx_ms[310]? = some hm_M_tapeNumber := rfl
set_option maxRecDepth 100000 in
theorem ok_M_count : hx_okO hm_M_count = true := hq_okO (by decide +kernel)
theorem cw_M_count : Cond.code (hx_y hm_M_count) (hx_b hm_M_count) (hx_L hm_M_count) (hx_ret hm_M_count) ∈ hx_T := hx_T_in (hx_ch_in tables_1_8 (List.mem_of_getElem? (i := 8) rfl) _ (List.mem_of_getElem? (i := 126) rfl)) rfl
set_option maxRecDepth 100000 in
theorem ck_M_count : hx_cal hm_M_count := ⟨by decide +kernel, cw_M_count⟩
set_option maxRecDepth 20000 in
theorem mj_M_count : hx_ms[311]? = some hm_M_count := rfl
set_option maxRecDepth 100000 in
theorem ok_M_mixedBits : hx_okO hm_M_mixedBits = true := hq_okO (by decide +kernel)
theorem cw_M_mixedBits : Cond.code (hx_y hm_M_mixedBits) (hx_b hm_M_mixedBits) (hx_L hm_M_mixedBits) (hx_ret hm_M_mixedBits) ∈ hx_T := hx_T_in (hx_ch_in tables_1_8 (List.mem_of_getElem? (i := 8) rfl) _ (List.mem_of_getElem? (i := 130) rfl)) rfl
set_option maxRecDepth 100000 in
theorem ck_M_mixedBits : hx_cal hm_M_mixedBits := ⟨by decide +kernel, cw_M_mixedBits⟩
set_option maxRecDepth 20000 in
theorem mj_M_mixedBits : hx_ms[312]? = some hm_M_mixedBits := rfl
