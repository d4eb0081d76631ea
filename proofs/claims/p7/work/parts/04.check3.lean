set_option maxRecDepth 100000 in
theorem ok_D_fight : hx_okO hm_D_fight = true := hq_okO (by decide +kernel)
theorem cw_D_fight : Cond.code (hx_y hm_D_fight) (hx_b hm_D_fight) (hx_L hm_D_fight) (hx_ret hm_D_fight) ∈ hx_T := hx_T_in (hx_ch_in tables_1_5 (List.mem_of_getElem? (i := 5) rfl) _ (List.mem_of_getElem? (i := 40) rfl)) rfl
set_option maxRecDepth 100000 in
theorem ck_D_fight : hx_cal hm_D_fight := ⟨by decide +kernel, cw_D_fight⟩
set_option maxRecDepth 20000 in
theorem mj_D_fight : hx_ms[160]? = some hm_D_fight := rfl
set_option maxRecDepth 100000 in
theorem ok_D_isChosen : hx_okO hm_D_isChosen = true := hq_okO (by decide +kernel)
theorem cw_D_isChosen : Cond.code (hx_y hm_D_isChosen) (hx_b hm_D_isChosen) (hx_L hm_D_isChosen) (hx_ret hm_D_isChosen) ∈ hx_T := hx_T_in (hx_ch_in tables_1_5 (List.mem_of_getElem? (i := 5) rfl) _ (List.mem_of_getElem? (i := 46) rfl)) rfl
set_option maxRecDepth 100000 in
theorem ck_D_isChosen : hx_cal hm_D_isChosen := ⟨by decide +kernel, cw_D_isChosen⟩
set_option maxRecDepth 20000 in
theorem mj_D_isChosen : hx_ms[161]? = some hm_D_isChosen := rfl
set_option maxRecDepth 100000 in
theorem ok_D_taken : hx_okO hm_D_taken = true := hq_okO (by decide +kernel)
theorem cw_D_taken : Cond.code (hx_y hm_D_taken) (hx_b hm_D_taken) (hx_L hm_D_taken) (hx_ret hm_D_taken) ∈ hx_T := hx_T_in (hx_ch_in tables_1_5 (List.mem_of_getElem? (i := 5) rfl) _ (List.mem_of_getElem? (i := 49) rfl)) rfl
set_option maxRecDepth 100000 in
theorem ck_D_taken : hx_cal hm_D_taken := ⟨by decide +kernel, cw_D_taken⟩
set_option maxRecDepth 20000 in
theorem mj_D_taken : hx_ms[162]? = some hm_D_taken := rfl
set_option maxRecDepth 100000 in
theorem ok_D_lost : hx_okO hm_D_lost = true := hq_okO (by decide +kernel)
theorem cw_D_lost : Cond.code (hx_y hm_D_lost) (hx_b hm_D_lost) (hx_L hm_D_lost) (hx_ret hm_D_lost) ∈ hx_T := hx_T_in (hx_ch_in tables_1_5 (List.mem_of_getElem? (i := 5) rfl) _ (List.mem_of_getElem? (i := 52) rfl)) rfl
set_option maxRecDepth 100000 in
theorem ck_D_lost : hx_cal hm_D_lost := ⟨by decide +kernel, cw_D_lost⟩
set_option maxRecDepth 20000 in
theorem mj_D_lost : hx_ms[163]? = some hm_D_lost := rfl
set_option maxRecDepth 100000 in
theorem ok_D_findTwos : hx_okO hm_D_findTwos = true := hq_okO (by decide +kernel)
theorem cw_D_findTwos : Cond.code (hx_y hm_D_findTwos) (hx_b hm_D_findTwos) (hx_L hm_D_findTwos) (hx_ret hm_D_findTwos) ∈ hx_T := hx_T_in (hx_ch_in tables_1_5 (List.mem_of_getElem? (i := 5) rfl) _ (List.mem_of_getElem? (i := 57) rfl)) rfl
set_option maxRecDepth 100000 in
theorem ck_D_findTwos : hx_cal hm_D_findTwos := ⟨by decide +kernel, cw_D_findTwos⟩
set_option maxRecDepth 20000 in
theorem mj_D_findTwos : hx_ms[164]? = some hm_D_findTwos := rfl
set_option maxRecDepth 100000 in
theorem ok_D_isBestOfA : hx_okO hm_D_isBestOfA = true := hq_okO (by decide +kernel)
theorem cw_D_isBestOfA : Cond.code (hx_y hm_D_isBestOfA) (hx_b hm_D_isBestOfA) (hx_L hm_D_isBestOfA) (hx_ret hm_D_isBestOfA) ∈ hx_T := hx_T_in (hx_ch_in tables_1_5 (List.mem_of_getElem? (i := 5) rfl) _ (List.mem_of_getElem? (i := 61) rfl)) rfl
set_option maxRecDepth 100000 in
theorem ck_D_isBestOfA : hx_cal hm_D_isBestOfA := ⟨by decide +kernel, cw_D_isBestOfA⟩
set_option maxRecDepth 20000 in
theorem mj_D_isBestOfA : hx_ms[165]? = some hm_D_isBestOfA := rfl
set_option maxRecDepth 100000 in
theorem ok_D_isBestOfB : hx_okO hm_D_isBestOfB = true := hq_okO (by decide +kernel)
theorem cw_D_isBestOfB : Cond.code (hx_y hm_D_isBestOfB) (hx_b hm_D_isBestOfB) (hx_L hm_D_isBestOfB) (hx_ret hm_D_isBestOfB) ∈ hx_T := hx_T_in (hx_ch_in tables_1_5 (List.mem_of_getElem? (i := 5) rfl) _ (List.mem_of_getElem? (i := 65) rfl)) rfl
set_option maxRecDepth 100000 in
theorem ck_D_isBestOfB : hx_cal hm_D_isBestOfB := ⟨by decide +kernel, cw_D_isBestOfB⟩
set_option maxRecDepth 20000 in
theorem mj_D_isBestOfB : hx_ms[166]? = some hm_D_isBestOfB := rfl
set_option maxRecDepth 100000 in
theorem ok_D_twos : hx_okO hm_D_twos = true := hq_okO (by decide +kernel)
theorem cw_D_twos : Cond.code (hx_y hm_D_twos) (hx_b hm_D_twos) (hx_L hm_D_twos) (hx_ret hm_D_twos) ∈ hx_T := hx_T_in (hx_ch_in tables_1_5 (List.mem_of_getElem? (i := 5) rfl) _ (List.mem_of_getElem? (i := 69) rfl)) rfl
set_option maxRecDepth 100000 in
theorem ck_D_twos : hx_cal hm_D_twos := ⟨by decide +kernel, cw_D_twos⟩
set_option maxRecDepth 20000 in
theorem mj_D_twos : hx_ms[167]? = some hm_D_twos := rfl
set_option maxRecDepth 100000 in
theorem ok_D_firstOfA : hx_okO hm_D_firstOfA = true := hq_okO (by decide +kernel)
theorem cw_D_firstOfA : Cond.code (hx_y hm_D_firstOfA) (hx_b hm_D_firstOfA) (hx_L hm_D_firstOfA) (hx_ret hm_D_firstOfA) ∈ hx_T := hx_T_in (hx_ch_in tables_1_5 (List.mem_of_getElem? (i := 5) rfl) _ (List.mem_of_getElem? (i := 73) rfl)) rfl
set_option maxRecDepth 100000 in
theorem ck_D_firstOfA : hx_cal hm_D_firstOfA := ⟨by decide +kernel, cw_D_firstOfA⟩
set_option maxRecDepth 20000 in
theorem mj_D_firstOfA : hx_ms[168]? = some hm_D_firstOfA := rfl
set_option maxRecDepth 100000 in
theorem ok_D_firstOfB : hx_okO hm_D_firstOfB = true := hq_okO (by decide +kernel)
theorem cw_D_firstOfB : Cond.code (hx_y hm_D_firstOfB) (hx_b hm_D_firstOfB) (hx_L hm_D_firstOfB) (hx_ret hm_D_firstOfB) ∈ hx_T := hx_T_in (hx_ch_in tables_1_5 (List.mem_of_getElem? (i := 5) rfl) _ (List.mem_of_getElem? (i := 77) rfl)) rfl
set_option maxRecDepth 100000 in
theorem ck_D_firstOfB : hx_cal hm_D_firstOfB := ⟨by decide +kernel, cw_D_firstOfB⟩
set_option maxRecDepth 20000 in
theorem mj_D_firstOfB : hx_ms[169]? = some hm_D_firstOfB := rfl
set_option maxRecDepth 100000 in
theorem ok_W_signals : hx_okO hm_W_signals = true := hq_okO (by decide +kernel)
theorem cw_W_signals : Cond.code (hx_y hm_W_signals) (hx_b hm_W_signals) (hx_L hm_W_signals) (hx_ret hm_W_signals) ∈ hx_T := hx_T_in (hx_ch_in tables_1_5 (List.mem_of_getElem? (i := 5) rfl) _ (List.mem_of_getElem? (i := 81) rfl)) rfl
set_option maxRecDepth 100000 in
theorem ck_W_signals : hx_cal hm_W_signals := ⟨by decide +kernel, cw_W_signals⟩
set_option maxRecDepth 20000 in
theorem mj_W_signals : hx_ms[170]? = some hm_W_signals := rfl
set_option maxRecDepth 100000 in
theorem ok_W_findPartners : hx_okO hm_W_findPartners = true := hq_okO (by decide +kernel)
theorem cw_W_findPartners : Cond.code (hx_y hm_W_findPartners) (hx_b hm_W_findPartners) (hx_L hm_W_findPartners) (hx_ret hm_W_findPartners) ∈ hx_T := hx_T_in (hx_ch_in tables_1_5 (List.mem_of_getElem? (i := 5) rfl) _ (List.mem_of_getElem? (i := 85) rfl)) rfl
set_option maxRecDepth 100000 in
theorem ck_W_findPartners : hx_cal hm_W_findPartners := ⟨by decide +kernel, cw_W_findPartners⟩
set_option maxRecDepth 20000 in
theorem mj_W_findPartners : hx_ms[171]? = some hm_W_findPartners := rfl
set_option maxRecDepth 100000 in
theorem ok_P_told : hx_okO hm_P_told = true := hq_okO (by decide +kernel)
theorem cw_P_told : Cond.code (hx_y hm_P_told) (hx_b hm_P_told) (hx_L hm_P_told) (hx_ret hm_P_told) ∈ hx_T := hx_T_in (hx_ch_in tables_1_5 (List.mem_of_getElem? (i := 5) rfl) _ (List.mem_of_getElem? (i := 89) rfl)) rfl
set_option maxRecDepth 100000 in
theorem ck_P_told : hx_cal hm_P_told := ⟨by decide +kernel, cw_P_told⟩
set_option maxRecDepth 20000 in
theorem mj_P_told : hx_ms[172]? = some hm_P_told := rfl
set_option maxRecDepth 100000 in
theorem ok_W_unlike : hx_okO hm_W_unlike = true := hq_okO (by decide +kernel)
theorem cw_W_unlike : Cond.code (hx_y hm_W_unlike) (hx_b hm_W_unlike) (hx_L hm_W_unlike) (hx_ret hm_W_unlike) ∈ hx_T := hx_T_in (hx_ch_in tables_1_5 (List.mem_of_getElem? (i := 5) rfl) _ (List.mem_of_getElem? (i := 93) rfl)) rfl
set_option maxRecDepth 100000 in
theorem ck_W_unlike : hx_cal hm_W_unlike := ⟨by decide +kernel, cw_W_unlike⟩
set_option maxRecDepth 20000 in
theorem mj_W_unlike : hx_ms[173]? = some hm_W_unlike := rfl
set_option maxRecDepth 100000 in
theorem ok_E_alike : hx_okO hm_E_alike = true := hq_okO (by decide +kernel)
theorem cw_E_alike : Cond.code (hx_y hm_E_alike) (hx_b hm_E_alike) (hx_L hm_E_alike) (hx_ret hm_E_alike) ∈ hx_T := hx_T_in (hx_ch_in tables_1_5 (List.mem_of_getElem? (i := 5) rfl) _ (List.mem_of_getElem? (i := 97) rfl)) rfl
set_option maxRecDepth 100000 in
theorem ck_E_alike : hx_cal hm_E_alike := ⟨by decide +kernel, cw_E_alike⟩
set_option maxRecDepth 20000 in
theorem mj_E_alike : hx_ms[174]? = some hm_E_alike := rfl
set_option maxRecDepth 100000 in
theorem ok_W_setsOf : hx_okO hm_W_setsOf = true := hq_okO (by decide +kernel)
theorem cw_W_setsOf : Cond.code (hx_y hm_W_setsOf) (hx_b hm_W_setsOf) (hx_L hm_W_setsOf) (hx_ret hm_W_setsOf) ∈ hx_T := hx_T_in (hx_ch_in tables_1_5 (List.mem_of_getElem? (i := 5) rfl) _ (List.mem_of_getElem? (i := 101) rfl)) rfl
set_option maxRecDepth 100000 in
theorem ck_W_setsOf : hx_cal hm_W_setsOf := ⟨by decide +kernel, cw_W_setsOf⟩
set_option maxRecDepth 20000 in
theorem mj_W_setsOf : hx_ms[175]? = some hm_W_setsOf := rfl
set_option maxRecDepth 100000 in
theorem ok_W_isSignalSet : hx_okO hm_W_isSignalSet = true := hq_okO (by decide +kernel)
theorem cw_W_isSignalSet : Cond.code (hx_y hm_W_isSignalSet) (hx_b hm_W_isSignalSet) (hx_L hm_W_isSignalSet) (hx_ret hm_W_isSignalSet) ∈ hx_T := hx_T_in (hx_ch_in tables_1_5 (List.mem_of_getElem? (i := 5) rfl) _ (List.mem_of_getElem? (i := 105) rfl)) rfl
set_option maxRecDepth 100000 in
theorem ck_W_isSignalSet : hx_cal hm_W_isSignalSet := ⟨by decide +kernel, cw_W_isSignalSet⟩
set_option maxRecDepth 20000 in
theorem mj_W_isSignalSet : hx_ms[176]? = some hm_W_isSignalSet := rfl
set_option maxRecDepth 100000 in
theorem ok_W_firstSetOf : hx_okO hm_W_firstSetOf = true := hq_okO (by decide +kernel)
theorem cw_W_firstSetOf : Cond.code (hx_y hm_W_firstSetOf) (hx_b hm_W_firstSetOf) (hx_L hm_W_firstSetOf) (hx_ret hm_W_firstSetOf) ∈ hx_T := hx_T_in (hx_ch_in tables_1_5 (List.mem_of_getElem? (i := 5) rfl) _ (List.mem_of_getElem? (i := 109) rfl)) rfl
set_option maxRecDepth 100000 in
theorem ck_W_firstSetOf : hx_cal hm_W_firstSetOf := ⟨by decide +kernel, cw_W_firstSetOf⟩
set_option maxRecDepth 20000 in
theorem mj_W_firstSetOf : hx_ms[177]? = some hm_W_firstSetOf := rfl
set_option maxRecDepth 100000 in
theorem ok_W_mostSignals : hx_okO hm_W_mostSignals = true := hq_okO (by decide +kernel)
theorem cw_W_mostSignals : Cond.code (hx_y hm_W_mostSignals) (hx_b hm_W_mostSignals) (hx_L hm_W_mostSignals) (hx_ret hm_W_mostSignals) ∈ hx_T := hx_T_in (hx_ch_in tables_1_5 (List.mem_of_getElem? (i := 5) rfl) _ (List.mem_of_getElem? (i := 113) rfl)) rfl
set_option maxRecDepth 100000 in
theorem ck_W_mostSignals : hx_cal hm_W_mostSignals := ⟨by decide +kernel, cw_W_mostSignals⟩
set_option maxRecDepth 20000 in
theorem mj_W_mostSignals : hx_ms[178]? = some hm_W_mostSignals := rfl
set_option maxRecDepth 100000 in
theorem ok_W_parted : hx_okO hm_W_parted = true := hq_okO (by decide +kernel)
theorem cw_W_parted : Cond.code (hx_y hm_W_parted) (hx_b hm_W_parted) (hx_L hm_W_parted) (hx_ret hm_W_parted) ∈ hx_T := hx_T_in (hx_ch_in tables_1_5 (List.mem_of_getElem? (i := 5) rfl) _ (List.mem_of_getElem? (i := 117) rfl)) rfl
set_option maxRecDepth 100000 in
theorem ck_W_parted : hx_cal hm_W_parted := ⟨by decide +kernel, cw_W_parted⟩
set_option maxRecDepth 20000 in
theorem mj_W_parted : hx_ms[179]? = some hm_W_parted := rfl
set_option maxRecDepth 100000 in
theorem ok_W_areThoughts : hx_okO hm_W_areThoughts = true := hq_okO (by decide +kernel)
theorem cw_W_areThoughts : Cond.code (hx_y hm_W_areThoughts) (hx_b hm_W_areThoughts) (hx_L hm_W_areThoughts) (hx_ret hm_W_areThoughts) ∈ hx_T := hx_T_in (hx_ch_in tables_1_5 (List.mem_of_getElem? (i := 5) rfl) _ (List.mem_of_getElem? (i := 121) rfl)) rfl
set_option maxRecDepth 100000 in
theorem ck_W_areThoughts : hx_cal hm_W_areThoughts := ⟨by decide +kernel, cw_W_areThoughts⟩
set_option maxRecDepth 20000 in
theorem mj_W_areThoughts : hx_ms[180]? = some hm_W_areThoughts := rfl
set_option maxRecDepth 100000 in
theorem ok_W_fairestRow : hx_okO hm_W_fairestRow = true := hq_okO (by decide +kernel)
theorem cw_W_fairestRow : Cond.code (hx_y hm_W_fairestRow) (hx_b hm_W_fairestRow) (hx_L hm_W_fairestRow) (hx_ret hm_W_fairestRow) ∈ hx_T := hx_T_in (hx_ch_in tables_1_5 (List.mem_of_getElem? (i := 5) rfl) _ (List.mem_of_getElem? (i := 126) rfl)) rfl
set_option maxRecDepth 100000 in
theorem ck_W_fairestRow : hx_cal hm_W_fairestRow := ⟨by decide +kernel, cw_W_fairestRow⟩
set_option maxRecDepth 20000 in
theorem mj_W_fairestRow : hx_ms[181]? = some hm_W_fairestRow := rfl
set_option maxRecDepth 100000 in
theorem ok_W_leastOf : hx_okO hm_W_leastOf = true := hq_okO (by decide +kernel)
theorem cw_W_leastOf : Cond.code (hx_y hm_W_leastOf) (hx_b hm_W_leastOf) (hx_L hm_W_leastOf) (hx_ret hm_W_leastOf) ∈ hx_T := hx_T_in (hx_ch_in tables_1_5 (List.mem_of_getElem? (i := 5) rfl) _ (List.mem_of_getElem? (i := 130) rfl)) rfl
set_option maxRecDepth 100000 in
theorem ck_W_leastOf : hx_cal hm_W_leastOf := ⟨by decide +kernel, cw_W_leastOf⟩
set_option maxRecDepth 20000 in
theorem mj_W_leastOf : hx_ms[182]? = some hm_W_leastOf := rfl
set_option maxRecDepth 100000 in
theorem ok_W_thoughtOf : hx_okO hm_W_thoughtOf = true := hq_okO (by decide +kernel)
theorem cw_W_thoughtOf : Cond.code (hx_y hm_W_thoughtOf) (hx_b hm_W_thoughtOf) (hx_L hm_W_thoughtOf) (hx_ret hm_W_thoughtOf) ∈ hx_T := hx_T_in (hx_ch_in tables_1_5 (List.mem_of_getElem? (i := 5) rfl) _ (List.mem_of_getElem? (i := 134) rfl)) rfl
set_option maxRecDepth 100000 in
theorem ck_W_thoughtOf : hx_cal hm_W_thoughtOf := ⟨by decide +kernel, cw_W_thoughtOf⟩
set_option maxRecDepth 20000 in
theorem mj_W_thoughtOf : hx_ms[183]? = some hm_W_thoughtOf := rfl
set_option maxRecDepth 100000 in
theorem ok_W_placeIn : hx_okO hm_W_placeIn = true := hq_okO (by decide +kernel)
theorem cw_W_placeIn : Cond.code (hx_y hm_W_placeIn) (hx_b hm_W_placeIn) (hx_L hm_W_placeIn) (hx_ret hm_W_placeIn) ∈ hx_T := hx_T_in (hx_ch_in tables_1_5 (List.mem_of_getElem? (i := 5) rfl) _ (List.mem_of_getElem? (i := 137) rfl)) rfl
set_option maxRecDepth 100000 in
theorem ck_W_placeIn : hx_cal hm_W_placeIn := ⟨by decide +kernel, cw_W_placeIn⟩
set_option maxRecDepth 20000 in
theorem mj_W_placeIn : hx_ms[184]? = some hm_W_placeIn := rfl
set_option maxRecDepth 100000 in
theorem ok_W_envyOf : hx_okO hm_W_envyOf = true := hq_okO (by decide +kernel)
theorem cw_W_envyOf : Cond.code (hx_y hm_W_envyOf) (hx_b hm_W_envyOf) (hx_L hm_W_envyOf) (hx_ret hm_W_envyOf) ∈ hx_T := hx_T_in (hx_ch_in tables_1_5 (List.mem_of_getElem? (i := 5) rfl) _ (List.mem_of_getElem? (i := 142) rfl)) rfl
set_option maxRecDepth 100000 in
theorem ck_W_envyOf : hx_cal hm_W_envyOf := ⟨by decide +kernel, cw_W_envyOf⟩
set_option maxRecDepth 20000 in
theorem mj_W_envyOf : hx_ms[185]? = some hm_W_envyOf := rfl
set_option maxRecDepth 100000 in
theorem ok_W_envies : hx_okO hm_W_envies = true := hq_okO (by decide +kernel)
theorem cw_W_envies : Cond.code (hx_y hm_W_envies) (hx_b hm_W_envies) (hx_L hm_W_envies) (hx_ret hm_W_envies) ∈ hx_T := hx_T_in (hx_ch_in tables_1_5 (List.mem_of_getElem? (i := 5) rfl) _ (List.mem_of_getElem? (i := 146) rfl)) rfl
set_option maxRecDepth 100000 in
theorem ck_W_envies : hx_cal hm_W_envies := ⟨by decide +kernel, cw_W_envies⟩
set_option maxRecDepth 20000 in
theorem mj_W_envies : hx_ms[186]? = some hm_W_envies := rfl
set_option maxRecDepth 100000 in
theorem ok_W_spies : hx_okO hm_W_spies = true := hq_okO (by decide +kernel)
theorem cw_W_spies : Cond.code (hx_y hm_W_spies) (hx_b hm_W_spies) (hx_L hm_W_spies) (hx_ret hm_W_spies) ∈ hx_T := hx_T_in (hx_ch_in tables_1_5 (List.mem_of_getElem? (i := 5) rfl) _ (List.mem_of_getElem? (i := 150) rfl)) rfl
set_option maxRecDepth 100000 in
theorem ck_W_spies : hx_cal hm_W_spies := ⟨by decide +kernel, cw_W_spies⟩
set_option maxRecDepth 20000 in
theorem mj_W_spies : hx_ms[187]? = some hm_W_spies := rfl
set_option maxRecDepth 100000 in
theorem ok_W_areShown : hx_okO hm_W_areShown = true := hq_okO (by decide +kernel)
theorem cw_W_areShown : Cond.code (hx_y hm_W_areShown) (hx_b hm_W_areShown) (hx_L hm_W_areShown) (hx_ret hm_W_areShown) ∈ hx_T := hx_T_in (hx_ch_in tables_1_5 (List.mem_of_getElem? (i := 5) rfl) _ (List.mem_of_getElem? (i := 154) rfl)) rfl
set_option maxRecDepth 100000 in
theorem ck_W_areShown : hx_cal hm_W_areShown := ⟨by decide +kernel, cw_W_areShown⟩
set_option maxRecDepth 20000 in
theorem mj_W_areShown : hx_ms[188]? = some hm_W_areShown := rfl
set_option maxRecDepth 100000 in
theorem ok_W_findBright : hx_okO hm_W_findBright = true := hq_okO (by decide +kernel)
theorem cw_W_findBright : Cond.code (hx_y hm_W_findBright) (hx_b hm_W_findBright) (hx_L hm_W_findBright) (hx_ret hm_W_findBright) ∈ hx_T := hx_T_in (hx_ch_in tables_1_5 (List.mem_of_getElem? (i := 5) rfl) _ (List.mem_of_getElem? (i := 158) rfl)) rfl
set_option maxRecDepth 100000 in
theorem ck_W_findBright : hx_cal hm_W_findBright := ⟨by decide +kernel, cw_W_findBright⟩
set_option maxRecDepth 20000 in
theorem mj_W_findBright : hx_ms[189]? = some hm_W_findBright := rfl
set_option maxRecDepth 100000 in
theorem ok_W_fitting : hx_okO hm_W_fitting = true := hq_okO (by decide +kernel)
theorem cw_W_fitting : Cond.code (hx_y hm_W_fitting) (hx_b hm_W_fitting) (hx_L hm_W_fitting) (hx_ret hm_W_fitting) ∈ hx_T := hx_T_in (hx_ch_in tables_1_5 (List.mem_of_getElem? (i := 5) rfl) _ (List.mem_of_getElem? (i := 162) rfl)) rfl
set_option maxRecDepth 100000 in
theorem ck_W_fitting : hx_cal hm_W_fitting := ⟨by decide +kernel, cw_W_fitting⟩
set_option maxRecDepth 20000 in
theorem mj_W_fitting : hx_ms[190]? = some hm_W_fitting := rfl
set_option maxRecDepth 100000 in
theorem ok_W_fits : hx_okO hm_W_fits = true := hq_okO (by decide +kernel)
theorem cw_W_fits : Cond.code (hx_y hm_W_fits) (hx_b hm_W_fits) (hx_L hm_W_fits) (hx_ret hm_W_fits) ∈ hx_T := hx_T_in (hx_ch_in tables_1_5 (List.mem_of_getElem? (i := 5) rfl) _ (List.mem_of_getElem? (i := 166) rfl)) rfl
set_option maxRecDepth 100000 in
theorem ck_W_fits : hx_cal hm_W_fits := ⟨by decide +kernel, cw_W_fits⟩
set_option maxRecDepth 20000 in
theorem mj_W_fits : hx_ms[191]? = some hm_W_fits := rfl
set_option maxRecDepth 100000 in
theorem ok_W_bestShown : hx_okO hm_W_bestShown = true := hq_okO (by decide +kernel)
theorem cw_W_bestShown : Cond.code (hx_y hm_W_bestShown) (hx_b hm_W_bestShown) (hx_L hm_W_bestShown) (hx_ret hm_W_bestShown) ∈ hx_T := hx_T_in (hx_ch_in tables_1_5 (List.mem_of_getElem? (i := 5) rfl) _ (List.mem_of_getElem? (i := 170) rfl)) rfl
set_option maxRecDepth 100000 in
theorem ck_W_bestShown : hx_cal hm_W_bestShown := ⟨by decide +kernel, cw_W_bestShown⟩
set_option maxRecDepth 20000 in
theorem mj_W_bestShown : hx_ms[192]? = some hm_W_bestShown := rfl
set_option maxRecDepth 100000 in
theorem ok_W_greaterPart : hx_okO hm_W_greaterPart = true := hq_okO (by decide +kernel)
theorem cw_W_greaterPart : Cond.code (hx_y hm_W_greaterPart) (hx_b hm_W_greaterPart) (hx_L hm_W_greaterPart) (hx_ret hm_W_greaterPart) ∈ hx_T := hx_T_in (hx_ch_in tables_1_5 (List.mem_of_getElem? (i := 5) rfl) _ (List.mem_of_getElem? (i := 174) rfl)) rfl
set_option maxRecDepth 100000 in
theorem ck_W_greaterPart : hx_cal hm_W_greaterPart := ⟨by decide +kernel, cw_W_greaterPart⟩
set_option maxRecDepth 20000 in
theorem mj_W_greaterPart : hx_ms[193]? = some hm_W_greaterPart := rfl
set_option maxRecDepth 100000 in
theorem ok_W_count : hx_okO hm_W_count = true := hq_okO (by decide +kernel)
theorem cw_W_count : Cond.code (hx_y hm_W_count) (hx_b hm_W_count) (hx_L hm_W_count) (hx_ret hm_W_count) ∈ hx_T := hx_T_in (hx_ch_in tables_1_5 (List.mem_of_getElem? (i := 5) rfl) _ (List.mem_of_getElem? (i := 179) rfl)) rfl
set_option maxRecDepth 100000 in
theorem ck_W_count : hx_cal hm_W_count := ⟨by decide +kernel, cw_W_count⟩
set_option maxRecDepth 20000 in
theorem mj_W_count : hx_ms[194]? = some hm_W_count := rfl
set_option maxRecDepth 100000 in
theorem ok_P_parts : hx_okO hm_P_parts = true := hq_okO (by decide +kernel)
theorem cw_P_parts : Cond.code (hx_y hm_P_parts) (hx_b hm_P_parts) (hx_L hm_P_parts) (hx_ret hm_P_parts) ∈ hx_T := hx_T_in (hx_ch_in tables_1_5 (List.mem_of_getElem? (i := 5) rfl) _ (List.mem_of_getElem? (i := 183) rfl)) rfl
set_option maxRecDepth 100000 in
theorem ck_P_parts : hx_cal hm_P_parts := ⟨by decide +kernel, cw_P_parts⟩
set_option maxRecDepth 20000 in
theorem mj_P_parts : hx_ms[195]? = some hm_P_parts := rfl
set_option maxRecDepth 100000 in
theorem ok_P_mixed : hx_okO hm_P_mixed = true := hq_okO (by decide +kernel)
theorem cw_P_mixed : Cond.code (hx_y hm_P_mixed) (hx_b hm_P_mixed) (hx_L hm_P_mixed) (hx_ret hm_P_mixed) ∈ hx_T := hx_T_in (hx_ch_in tables_1_5 (List.mem_of_getElem? (i := 5) rfl) _ (List.mem_of_getElem? (i := 187) rfl)) rfl
set_option maxRecDepth 100000 in
theorem ck_P_mixed : hx_cal hm_P_mixed := ⟨by decide +kernel, cw_P_mixed⟩
set_option maxRecDepth 20000 in
theorem mj_P_mixed : hx_ms[196]? = some hm_P_mixed := rfl
set_option maxRecDepth 100000 in
theorem ok_S_draw : hx_okO hm_S_draw = true := hq_okO (by decide +kernel)
theorem cw_S_draw : Cond.code (hx_y hm_S_draw) (hx_b hm_S_draw) (hx_L hm_S_draw) (hx_ret hm_S_draw) ∈ hx_T := hx_T_in (hx_ch_in tables_1_5 (List.mem_of_getElem? (i := 5) rfl) _ (List.mem_of_getElem? (i := 191) rfl)) rfl
set_option maxRecDepth 100000 in
theorem ck_S_draw : hx_cal hm_S_draw := ⟨by decide +kernel, cw_S_draw⟩
set_option maxRecDepth 20000 in
theorem mj_S_draw : hx_ms[197]? = some hm_S_draw := rfl
set_option maxRecDepth 100000 in
theorem ok_M_init : hx_okO hm_M_init = true := hq_okO (by decide +kernel)
theorem cw_M_init : Cond.code (hx_y hm_M_init) (hx_b hm_M_init) (hx_L hm_M_init) (hx_ret hm_M_init) ∈ hx_T := hx_T_in (hx_ch_in tables_1_5 (List.mem_of_getElem? (i := 5) rfl) _ (List.mem_of_getElem? (i := 197) rfl)) rfl
set_option maxRecDepth 100000 in
theorem ck_M_init : hx_cal hm_M_init := ⟨by decide +kernel, cw_M_init⟩
set_option maxRecDepth 20000 in
theorem mj_M_init : hx_ms[198]? = some hm_M_init := rfl
set_option maxRecDepth 100000 in
theorem ok_M_colour : hx_okO hm_M_colour = true := hq_okO (by decide +kernel)
theorem cw_M_colour : Cond.code (hx_y hm_M_colour) (hx_b hm_M_colour) (hx_L hm_M_colour) (hx_ret hm_M_colour) ∈ hx_T := hx_T_in (hx_ch_in tables_1_6 (List.mem_of_getElem? (i := 6) rfl) _ (List.mem_of_getElem? (i := 168) rfl)) rfl
set_option maxRecDepth 100000 in
theorem ck_M_colour : hx_cal hm_M_colour := ⟨by decide +kernel, cw_M_colour⟩
set_option maxRecDepth 20000 in
theorem mj_M_colour : hx_ms[199]? = some hm_M_colour := rfl
set_option maxRecDepth 100000 in
theorem ok_M_in : hx_okO hm_M_in = true := hq_okO (by decide +kernel)
theorem cw_M_in : Cond.code (hx_y hm_M_in) (hx_b hm_M_in) (hx_L hm_M_in) (hx_ret hm_M_in) ∈ hx_T := hx_T_in (hx_ch_in tables_1_6 (List.mem_of_getElem? (i := 6) rfl) _ (List.mem_of_getElem? (i := 171) rfl)) rfl
set_option maxRecDepth 100000 in
theorem ck_M_in : hx_cal hm_M_in := ⟨by decide +kernel, cw_M_in⟩
set_option maxRecDepth 20000 in
theorem mj_M_in : hx_ms[200]? = some hm_M_in := rfl
set_option maxRecDepth 100000 in
theorem ok_M_isColour : hx_okO hm_M_isColour = true := hq_okO (by decide +kernel)
theorem cw_M_isColour : Cond.code (hx_y hm_M_isColour) (hx_b hm_M_isColour) (hx_L hm_M_isColour) (hx_ret hm_M_isColour) ∈ hx_T := hx_T_in (hx_ch_in tables_1_6 (List.mem_of_getElem? (i := 6) rfl) _ (List.mem_of_getElem? (i := 175) rfl)) rfl
set_option maxRecDepth 100000 in
theorem ck_M_isColour : hx_cal hm_M_isColour := ⟨by decide +kernel, cw_M_isColour⟩
set_option maxRecDepth 20000 in
theorem mj_M_isColour : hx_ms[201]? = some hm_M_isColour := rfl
set_option maxRecDepth 100000 in
theorem ok_M_has : hx_okO hm_M_has = true := hq_okO (by decide +kernel)
theorem cw_M_has : Cond.code (hx_y hm_M_has) (hx_b hm_M_has) (hx_L hm_M_has) (hx_ret hm_M_has) ∈ hx_T := hx_T_in (hx_ch_in tables_1_6 (List.mem_of_getElem? (i := 6) rfl) _ (List.mem_of_getElem? (i := 178) rfl)) rfl
set_option maxRecDepth 100000 in
theorem ck_M_has : hx_cal hm_M_has := ⟨by decide +kernel, cw_M_has⟩
set_option maxRecDepth 20000 in
theorem mj_M_has : hx_ms[202]? = some hm_M_has := rfl
set_option maxRecDepth 100000 in
theorem ok_M_have : hx_okO hm_M_have = true := hq_okO (by decide +kernel)
theorem cw_M_have : Cond.code (hx_y hm_M_have) (hx_b hm_M_have) (hx_L hm_M_have) (hx_ret hm_M_have) ∈ hx_T := hx_T_in (hx_ch_in tables_1_6 (List.mem_of_getElem? (i := 6) rfl) _ (List.mem_of_getElem? (i := 182) rfl)) rfl
set_option maxRecDepth 100000 in
theorem ck_M_have : hx_cal hm_M_have := ⟨by decide +kernel, cw_M_have⟩
set_option maxRecDepth 20000 in
theorem mj_M_have : hx_ms[203]? = some hm_M_have := rfl
set_option maxRecDepth 100000 in
theorem ok_M_isPlain : hx_okO hm_M_isPlain = true := hq_okO (by decide +kernel)
theorem cw_M_isPlain : Cond.code (hx_y hm_M_isPlain) (hx_b hm_M_isPlain) (hx_L hm_M_isPlain) (hx_ret hm_M_isPlain) ∈ hx_T := hx_T_in (hx_ch_in tables_1_6 (List.mem_of_getElem? (i := 6) rfl) _ (List.mem_of_getElem? (i := 186) rfl)) rfl
set_option maxRecDepth 100000 in
theorem ck_M_isPlain : hx_cal hm_M_isPlain := ⟨by decide +kernel, cw_M_isPlain⟩
set_option maxRecDepth 20000 in
theorem mj_M_isPlain : hx_ms[204]? = some hm_M_isPlain := rfl
set_option maxRecDepth 100000 in
theorem ok_M_isQuarter : hx_okO hm_M_isQuarter = true := hq_okO (by decide +kernel)
theorem cw_M_isQuarter : Cond.code (hx_y hm_M_isQuarter) (hx_b hm_M_isQuarter) (hx_L hm_M_isQuarter) (hx_ret hm_M_isQuarter) ∈ hx_T := hx_T_in (hx_ch_in tables_1_6 (List.mem_of_getElem? (i := 6) rfl) _ (List.mem_of_getElem? (i := 189) rfl)) rfl
set_option maxRecDepth 100000 in
theorem ck_M_isQuarter : hx_cal hm_M_isQuarter := ⟨by decide +kernel, cw_M_isQuarter⟩
set_option maxRecDepth 20000 in
theorem mj_M_isQuarter : hx_ms[205]? = some hm_M_isQuarter := rfl
set_option maxRecDepth 100000 in
theorem ok_M_owner : hx_okO hm_M_owner = true := hq_okO (by decide +kernel)
theorem cw_M_owner : Cond.code (hx_y hm_M_owner) (hx_b hm_M_owner) (hx_L hm_M_owner) (hx_ret hm_M_owner) ∈ hx_T := hx_T_in (hx_ch_in tables_1_6 (List.mem_of_getElem? (i := 6) rfl) _ (List.mem_of_getElem? (i := 193) rfl)) rfl
set_option maxRecDepth 100000 in
theorem ck_M_owner : hx_cal hm_M_owner := ⟨by decide +kernel, cw_M_owner⟩
set_option maxRecDepth 20000 in
theorem mj_M_owner : hx_ms[206]? = some hm_M_owner := rfl
set_option maxRecDepth 100000 in
theorem ok_M_feed : hx_okO hm_M_feed = true := hq_okO (by decide +kernel)
theorem cw_M_feed : Cond.code (hx_y hm_M_feed) (hx_b hm_M_feed) (hx_L hm_M_feed) (hx_ret hm_M_feed) ∈ hx_T := hx_T_in (hx_ch_in tables_1_6 (List.mem_of_getElem? (i := 6) rfl) _ (List.mem_of_getElem? (i := 197) rfl)) rfl
set_option maxRecDepth 100000 in
theorem ck_M_feed : hx_cal hm_M_feed := ⟨by decide +kernel, cw_M_feed⟩
set_option maxRecDepth 20000 in
theorem mj_M_feed : hx_ms[207]? = some hm_M_feed := rfl
set_option maxRecDepth 100000 in
theorem ok_M_types : hx_okO hm_M_types = true := hq_okO (by decide +kernel)
theorem cw_M_types : Cond.code (hx_y hm_M_types) (hx_b hm_M_types) (hx_L hm_M_types) (hx_ret hm_M_types) ∈ hx_T := hx_T_in (hx_ch_in tables_1_6 (List.mem_of_getElem? (i := 6) rfl) _ (List.mem_of_getElem? (i := 201) rfl)) rfl
set_option maxRecDepth 100000 in
theorem ck_M_types : hx_cal hm_M_types := ⟨by decide +kernel, cw_M_types⟩
set_option maxRecDepth 20000 in
theorem mj_M_types : hx_ms[208]? = some hm_M_types := rfl
set_option maxRecDepth 100000 in
theorem ok_M_law : hx_okO hm_M_law = true := hq_okO (by decide +kernel)
theorem cw_M_law : Cond.code (hx_y hm_M_law) (hx_b hm_M_law) (hx_L hm_M_law) (hx_ret hm_M_law) ∈ hx_T := hx_T_in (hx_ch_in tables_1_6 (List.mem_of_getElem? (i := 6) rfl) _ (List.mem_of_getElem? (i := 205) rfl)) rfl
set_option maxRecDepth 100000 in
theorem ck_M_law : hx_cal hm_M_law := ⟨by decide +kernel, cw_M_law⟩
set_option maxRecDepth 20000 in
theorem mj_M_law : hx_ms[209]? = some hm_M_law := rfl
set_option maxRecDepth 100000 in
theorem ok_M_readsClause : hx_okO hm_M_readsClause = true := hq_okO (by decide +kernel)
theorem cw_M_readsClause : Cond.code (hx_y hm_M_readsClause) (hx_b hm_M_readsClause) (hx_L hm_M_readsClause) (hx_ret hm_M_readsClause) ∈ hx_T := hx_T_in (hx_ch_in tables_1_6 (List.mem_of_getElem? (i := 6) rfl) _ (List.mem_of_getElem? (i := 209) rfl)) rfl
set_option maxRecDepth 100000 in
theorem ck_M_readsClause : hx_cal hm_M_readsClause := ⟨by decide +kernel, cw_M_readsClause⟩
set_option maxRecDepth 20000 in
theorem mj_M_readsClause : hx_ms[210]? = some hm_M_readsClause := rfl
set_option maxRecDepth 100000 in
theorem ok_M_here : hx_okO hm_M_here = true := hq_okO (by decide +kernel)
theorem cw_M_here : Cond.code (hx_y hm_M_here) (hx_b hm_M_here) (hx_L hm_M_here) (hx_ret hm_M_here) ∈ hx_T := hx_T_in (hx_ch_in tables_1_6 (List.mem_of_getElem? (i := 6) rfl) _ (List.mem_of_getElem? (i := 213) rfl)) rfl
set_option maxRecDepth 100000 in
theorem ck_M_here : hx_cal hm_M_here := ⟨by decide +kernel, cw_M_here⟩
set_option maxRecDepth 20000 in
theorem mj_M_here : hx_ms[211]? = some hm_M_here := rfl
set_option maxRecDepth 100000 in
theorem ok_M_isClause : hx_okO hm_M_isClause = true := hq_okO (by decide +kernel)
theorem cw_M_isClause : Cond.code (hx_y hm_M_isClause) (hx_b hm_M_isClause) (hx_L hm_M_isClause) (hx_ret hm_M_isClause) ∈ hx_T := hx_T_in (hx_ch_in tables_1_6 (List.mem_of_getElem? (i := 6) rfl) _ (List.mem_of_getElem? (i := 216) rfl)) rfl
set_option maxRecDepth 100000 in
theorem ck_M_isClause : hx_cal hm_M_isClause := ⟨by decide +kernel, cw_M_isClause⟩
set_option maxRecDepth 20000 in
theorem mj_M_isClause : hx_ms[212]? = some hm_M_isClause := rfl
set_option maxRecDepth 100000 in
theorem ok_M_wrongAt : hx_okO hm_M_wrongAt = true := hq_okO (by decide +kernel)
theorem cw_M_wrongAt : Cond.code (hx_y hm_M_wrongAt) (hx_b hm_M_wrongAt) (hx_L hm_M_wrongAt) (hx_ret hm_M_wrongAt) ∈ hx_T := hx_T_in (hx_ch_in tables_1_6 (List.mem_of_getElem? (i := 6) rfl) _ (List.mem_of_getElem? (i := 220) rfl)) rfl
set_option maxRecDepth 100000 in
theorem ck_M_wrongAt : hx_cal hm_M_wrongAt := ⟨by decide +kernel, cw_M_wrongAt⟩
set_option maxRecDepth 20000 in
theorem mj_M_wrongAt : hx_ms[213]? = some hm_M_wrongAt := rfl
set_option maxRecDepth 100000 in
theorem ok_M_readsSum : hx_okO hm_M_readsSum = true := hq_okO (by decide +kernel)
theorem cw_M_readsSum : Cond.code (hx_y hm_M_readsSum) (hx_b hm_M_readsSum) (hx_L hm_M_readsSum) (hx_ret hm_M_readsSum) ∈ hx_T := hx_T_in (hx_ch_in tables_1_6 (List.mem_of_getElem? (i := 6) rfl) _ (List.mem_of_getElem? (i := 224) rfl)) rfl
set_option maxRecDepth 100000 in
theorem ck_M_readsSum : hx_cal hm_M_readsSum := ⟨by decide +kernel, cw_M_readsSum⟩
set_option maxRecDepth 20000 in
theorem mj_M_readsSum : hx_ms[214]? = some hm_M_readsSum := rfl
set_option maxRecDepth 100000 in
theorem ok_M_readsFactor : hx_okO hm_M_readsFactor = true := hq_okO (by decide +kernel)
theorem cw_M_readsFactor : Cond.code (hx_y hm_M_readsFactor) (hx_b hm_M_readsFactor) (hx_L hm_M_readsFactor) (hx_ret hm_M_readsFactor) ∈ hx_T := hx_T_in (hx_ch_in tables_1_6 (List.mem_of_getElem? (i := 6) rfl) _ (List.mem_of_getElem? (i := 228) rfl)) rfl
set_option maxRecDepth 100000 in
theorem ck_M_readsFactor : hx_cal hm_M_readsFactor := ⟨by decide +kernel, cw_M_readsFactor⟩
set_option maxRecDepth 20000 in
theorem mj_M_readsFactor : hx_ms[215]? = some hm_M_readsFactor := rfl
set_option maxRecDepth 100000 in
theorem ok_M_opens : hx_okO hm_M_opens = true := hq_okO (by decide +kernel)
theorem cw_M_opens : Cond.code (hx_y hm_M_opens) (hx_b hm_M_opens) (hx_L hm_M_opens) (hx_ret hm_M_opens) ∈ hx_T := hx_T_in (hx_ch_in tables_1_6 (List.mem_of_getElem? (i := 6) rfl) _ (List.mem_of_getElem? (i := 232) rfl)) rfl
set_option maxRecDepth 100000 in
theorem ck_M_opens : hx_cal hm_M_opens := ⟨by decide +kernel, cw_M_opens⟩
set_option maxRecDepth 20000 in
theorem mj_M_opens : hx_ms[216]? = some hm_M_opens := rfl
set_option maxRecDepth 100000 in
theorem ok_M_isDigit : hx_okO hm_M_isDigit = true := hq_okO (by decide +kernel)
theorem cw_M_isDigit : Cond.code (hx_y hm_M_isDigit) (hx_b hm_M_isDigit) (hx_L hm_M_isDigit) (hx_ret hm_M_isDigit) ∈ hx_T := hx_T_in (hx_ch_in tables_1_6 (List.mem_of_getElem? (i := 6) rfl) _ (List.mem_of_getElem? (i := 237) rfl)) rfl
set_option maxRecDepth 100000 in
theorem ck_M_isDigit : hx_cal hm_M_isDigit := ⟨by decide +kernel, cw_M_isDigit⟩
set_option maxRecDepth 20000 in
theorem mj_M_isDigit : hx_ms[217]? = some hm_M_isDigit := rfl
set_option maxRecDepth 100000 in
theorem ok_M_readsNumber : hx_okO hm_M_readsNumber = true := hq_okO (by decide +kernel)
theorem cw_M_readsNumber : Cond.code (hx_y hm_M_readsNumber) (hx_b hm_M_readsNumber) (hx_L hm_M_readsNumber) (hx_ret hm_M_readsNumber) ∈ hx_T := hx_T_in (hx_ch_in tables_1_7 (List.mem_of_getElem? (i := 7) rfl) _ (List.mem_of_getElem? (i := 1) rfl)) rfl
set_option maxRecDepth 100000 in
theorem ck_M_readsNumber : hx_cal hm_M_readsNumber := ⟨by decide +kernel, cw_M_readsNumber⟩
set_option maxRecDepth 20000 in
theorem mj_M_readsNumber : hx_ms[218]? = some hm_M_readsNumber := rfl
set_option maxRecDepth 100000 in
theorem ok_M_notes : hx_okO hm_M_notes = true := hq_okO (by decide +kernel)
theorem cw_M_notes : Cond.code (hx_y hm_M_notes) (hx_b hm_M_notes) (hx_L hm_M_notes) (hx_ret hm_M_notes) ∈ hx_T := hx_T_in (hx_ch_in tables_1_7 (List.mem_of_getElem? (i := 7) rfl) _ (List.mem_of_getElem? (i := 5) rfl)) rfl
set_option maxRecDepth 100000 in
theorem ck_M_notes : hx_cal hm_M_notes := ⟨by decide +kernel, cw_M_notes⟩
set_option maxRecDepth 20000 in
theorem mj_M_notes : hx_ms[219]? = some hm_M_notes := rfl
set_option maxRecDepth 100000 in
theorem ok_M_factOf : hx_okO hm_M_factOf = true := hq_okO (by decide +kernel)
theorem cw_M_factOf : Cond.code (hx_y hm_M_factOf) (hx_b hm_M_factOf) (hx_L hm_M_factOf) (hx_ret hm_M_factOf) ∈ hx_T := hx_T_in (hx_ch_in tables_1_7 (List.mem_of_getElem? (i := 7) rfl) _ (List.mem_of_getElem? (i := 8) rfl)) rfl
set_option maxRecDepth 100000 in
theorem ck_M_factOf : hx_cal hm_M_factOf := ⟨by decide +kernel, cw_M_factOf⟩
set_option maxRecDepth 20000 in
theorem mj_M_factOf : hx_ms[220]? = some hm_M_factOf := rfl
set_option maxRecDepth 100000 in
theorem ok_M_sumSign : hx_okO hm_M_sumSign = true := hq_okO (by decide +kernel)
theorem cw_M_sumSign : Cond.code (hx_y hm_M_sumSign) (hx_b hm_M_sumSign) (hx_L hm_M_sumSign) (hx_ret hm_M_sumSign) ∈ hx_T := hx_T_in (hx_ch_in tables_1_7 (List.mem_of_getElem? (i := 7) rfl) _ (List.mem_of_getElem? (i := 11) rfl)) rfl
set_option maxRecDepth 100000 in
theorem ck_M_sumSign : hx_cal hm_M_sumSign := ⟨by decide +kernel, cw_M_sumSign⟩
set_option maxRecDepth 20000 in
theorem mj_M_sumSign : hx_ms[221]? = some hm_M_sumSign := rfl
set_option maxRecDepth 100000 in
theorem ok_M_closesSums : hx_okO hm_M_closesSums = true := hq_okO (by decide +kernel)
theorem cw_M_closesSums : Cond.code (hx_y hm_M_closesSums) (hx_b hm_M_closesSums) (hx_L hm_M_closesSums) (hx_ret hm_M_closesSums) ∈ hx_T := hx_T_in (hx_ch_in tables_1_7 (List.mem_of_getElem? (i := 7) rfl) _ (List.mem_of_getElem? (i := 15) rfl)) rfl
set_option maxRecDepth 100000 in
theorem ck_M_closesSums : hx_cal hm_M_closesSums := ⟨by decide +kernel, cw_M_closesSums⟩
set_option maxRecDepth 20000 in
theorem mj_M_closesSums : hx_ms[222]? = some hm_M_closesSums := rfl
set_option maxRecDepth 100000 in
theorem ok_M_waitTop : hx_okO hm_M_waitTop = true := hq_okO (by decide +kernel)
theorem cw_M_waitTop : Cond.code (hx_y hm_M_waitTop) (hx_b hm_M_waitTop) (hx_L hm_M_waitTop) (hx_ret hm_M_waitTop) ∈ hx_T := hx_T_in (hx_ch_in tables_1_7 (List.mem_of_getElem? (i := 7) rfl) _ (List.mem_of_getElem? (i := 19) rfl)) rfl
set_option maxRecDepth 100000 in
theorem ck_M_waitTop : hx_cal hm_M_waitTop := ⟨by decide +kernel, cw_M_waitTop⟩
set_option maxRecDepth 20000 in
theorem mj_M_waitTop : hx_ms[223]? = some hm_M_waitTop := rfl
set_option maxRecDepth 100000 in
theorem ok_M_hasOpenSum : hx_okO hm_M_hasOpenSum = true := hq_okO (by decide +kernel)
theorem cw_M_hasOpenSum : Cond.code (hx_y hm_M_hasOpenSum) (hx_b hm_M_hasOpenSum) (hx_L hm_M_hasOpenSum) (hx_ret hm_M_hasOpenSum) ∈ hx_T := hx_T_in (hx_ch_in tables_1_7 (List.mem_of_getElem? (i := 7) rfl) _ (List.mem_of_getElem? (i := 23) rfl)) rfl
set_option maxRecDepth 100000 in
theorem ck_M_hasOpenSum : hx_cal hm_M_hasOpenSum := ⟨by decide +kernel, cw_M_hasOpenSum⟩
set_option maxRecDepth 20000 in
theorem mj_M_hasOpenSum : hx_ms[224]? = some hm_M_hasOpenSum := rfl
set_option maxRecDepth 100000 in
theorem ok_M_readsCondition : hx_okO hm_M_readsCondition = true := hq_okO (by decide +kernel)
theorem cw_M_readsCondition : Cond.code (hx_y hm_M_readsCondition) (hx_b hm_M_readsCondition) (hx_L hm_M_readsCondition) (hx_ret hm_M_readsCondition) ∈ hx_T := hx_T_in (hx_ch_in tables_1_7 (List.mem_of_getElem? (i := 7) rfl) _ (List.mem_of_getElem? (i := 27) rfl)) rfl
set_option maxRecDepth 100000 in
theorem ck_M_readsCondition : hx_cal hm_M_readsCondition := ⟨by decide +kernel, cw_M_readsCondition⟩
set_option maxRecDepth 20000 in
theorem mj_M_readsCondition : hx_ms[225]? = some hm_M_readsCondition := rfl
set_option maxRecDepth 100000 in
theorem ok_M_readsCompared : hx_okO hm_M_readsCompared = true := hq_okO (by decide +kernel)
theorem cw_M_readsCompared : Cond.code (hx_y hm_M_readsCompared) (hx_b hm_M_readsCompared) (hx_L hm_M_readsCompared) (hx_ret hm_M_readsCompared) ∈ hx_T := hx_T_in (hx_ch_in tables_1_7 (List.mem_of_getElem? (i := 7) rfl) _ (List.mem_of_getElem? (i := 31) rfl)) rfl
set_option maxRecDepth 100000 in
theorem ck_M_readsCompared : hx_cal hm_M_readsCompared := ⟨by decide +kernel, cw_M_readsCompared⟩
set_option maxRecDepth 20000 in
theorem mj_M_readsCompared : hx_ms[226]? = some hm_M_readsCompared := rfl
set_option maxRecDepth 100000 in
theorem ok_M_endsPiece : hx_okO hm_M_endsPiece = true := hq_okO (by decide +kernel)
theorem cw_M_endsPiece : Cond.code (hx_y hm_M_endsPiece) (hx_b hm_M_endsPiece) (hx_L hm_M_endsPiece) (hx_ret hm_M_endsPiece) ∈ hx_T := hx_T_in (hx_ch_in tables_1_7 (List.mem_of_getElem? (i := 7) rfl) _ (List.mem_of_getElem? (i := 35) rfl)) rfl
set_option maxRecDepth 100000 in
theorem ck_M_endsPiece : hx_cal hm_M_endsPiece := ⟨by decide +kernel, cw_M_endsPiece⟩
set_option maxRecDepth 20000 in
theorem mj_M_endsPiece : hx_ms[227]? = some hm_M_endsPiece := rfl
set_option maxRecDepth 100000 in
theorem ok_M_lands : hx_okO hm_M_lands = true := hq_okO (by decide +kernel)
theorem cw_M_lands : Cond.code (hx_y hm_M_lands) (hx_b hm_M_lands) (hx_L hm_M_lands) (hx_ret hm_M_lands) ∈ hx_T := hx_T_in (hx_ch_in tables_1_7 (List.mem_of_getElem? (i := 7) rfl) _ (List.mem_of_getElem? (i := 39) rfl)) rfl
set_option maxRecDepth 100000 in
theorem ck_M_lands : hx_cal hm_M_lands := ⟨by decide +kernel, cw_M_lands⟩
set_option maxRecDepth 20000 in
theorem mj_M_lands : hx_ms[228]? = some hm_M_lands := rfl
set_option maxRecDepth 100000 in
theorem ok_M_jumps : hx_okO hm_M_jumps = true := hq_okO (by decide +kernel)
theorem cw_M_jumps : Cond.code (hx_y hm_M_jumps) (hx_b hm_M_jumps) (hx_L hm_M_jumps) (hx_ret hm_M_jumps) ∈ hx_T := hx_T_in (hx_ch_in tables_1_7 (List.mem_of_getElem? (i := 7) rfl) _ (List.mem_of_getElem? (i := 43) rfl)) rfl
set_option maxRecDepth 100000 in
theorem ck_M_jumps : hx_cal hm_M_jumps := ⟨by decide +kernel, cw_M_jumps⟩
set_option maxRecDepth 20000 in
theorem mj_M_jumps : hx_ms[229]? = some hm_M_jumps := rfl
set_option maxRecDepth 100000 in
theorem ok_M_takes : hx_okO hm_M_takes = true := hq_okO (by decide +kernel)
theorem cw_M_takes : Cond.code (hx_y hm_M_takes) (hx_b hm_M_takes) (hx_L hm_M_takes) (hx_ret hm_M_takes) ∈ hx_T := hx_T_in (hx_ch_in tables_1_7 (List.mem_of_getElem? (i := 7) rfl) _ (List.mem_of_getElem? (i := 47) rfl)) rfl
set_option maxRecDepth 100000 in
theorem ck_M_takes : hx_cal hm_M_takes := ⟨by decide +kernel, cw_M_takes⟩
set_option maxRecDepth 20000 in
theorem mj_M_takes : hx_ms[230]? = some hm_M_takes := rfl
set_option maxRecDepth 100000 in
theorem ok_M_sees : hx_okO hm_M_sees = true := hq_okO (by decide +kernel)
theorem cw_M_sees : Cond.code (hx_y hm_M_sees) (hx_b hm_M_sees) (hx_L hm_M_sees) (hx_ret hm_M_sees) ∈ hx_T := hx_T_in (hx_ch_in tables_1_7 (List.mem_of_getElem? (i := 7) rfl) _ (List.mem_of_getElem? (i := 51) rfl)) rfl
set_option maxRecDepth 100000 in
theorem ck_M_sees : hx_cal hm_M_sees := ⟨by decide +kernel, cw_M_sees⟩
set_option maxRecDepth 20000 in
theorem mj_M_sees : hx_ms[231]? = some hm_M_sees := rfl
set_option maxRecDepth 100000 in
theorem ok_M_isEmpire : hx_okO hm_M_isEmpire = true := hq_okO (by decide +kernel)
theorem cw_M_isEmpire : Cond.code (hx_y hm_M_isEmpire) (hx_b hm_M_isEmpire) (hx_L hm_M_isEmpire) (hx_ret hm_M_isEmpire) ∈ hx_T := hx_T_in (hx_ch_in tables_1_7 (List.mem_of_getElem? (i := 7) rfl) _ (List.mem_of_getElem? (i := 54) rfl)) rfl
set_option maxRecDepth 100000 in
theorem ck_M_isEmpire : hx_cal hm_M_isEmpire := ⟨by decide +kernel, cw_M_isEmpire⟩
set_option maxRecDepth 20000 in
theorem mj_M_isEmpire : hx_ms[232]? = some hm_M_isEmpire := rfl
set_option maxRecDepth 100000 in
theorem ok_M_seenBy : hx_okO hm_M_seenBy = true := hq_okO (by decide +kernel)
theorem cw_M_seenBy : Cond.code (hx_y hm_M_seenBy) (hx_b hm_M_seenBy) (hx_L hm_M_seenBy) (hx_ret hm_M_seenBy) ∈ hx_T := hx_T_in (hx_ch_in tables_1_7 (List.mem_of_getElem? (i := 7) rfl) _ (List.mem_of_getElem? (i := 58) rfl)) rfl
set_option maxRecDepth 100000 in
theorem ck_M_seenBy : hx_cal hm_M_seenBy := ⟨by decide +kernel, cw_M_seenBy⟩
set_option maxRecDepth 20000 in
theorem mj_M_seenBy : hx_ms[233]? = some hm_M_seenBy := rfl
set_option maxRecDepth 100000 in
theorem ok_M_isSeen : hx_okO hm_M_isSeen = true := hq_okO (by decide +kernel)
theorem cw_M_isSeen : Cond.code (hx_y hm_M_isSeen) (hx_b hm_M_isSeen) (hx_L hm_M_isSeen) (hx_ret hm_M_isSeen) ∈ hx_T := hx_T_in (hx_ch_in tables_1_7 (List.mem_of_getElem? (i := 7) rfl) _ (List.mem_of_getElem? (i := 62) rfl)) rfl
set_option maxRecDepth 100000 in
theorem ck_M_isSeen : hx_cal hm_M_isSeen := ⟨by decide +kernel, cw_M_isSeen⟩
set_option maxRecDepth 20000 in
theorem mj_M_isSeen : hx_ms[234]? = some hm_M_isSeen := rfl
set_option maxRecDepth 100000 in
theorem ok_M_isMixed : hx_okO hm_M_isMixed = true := hq_okO (by decide +kernel)
theorem cw_M_isMixed : Cond.code (hx_y hm_M_isMixed) (hx_b hm_M_isMixed) (hx_L hm_M_isMixed) (hx_ret hm_M_isMixed) ∈ hx_T := hx_T_in (hx_ch_in tables_1_7 (List.mem_of_getElem? (i := 7) rfl) _ (List.mem_of_getElem? (i := 66) rfl)) rfl
set_option maxRecDepth 100000 in
theorem ck_M_isMixed : hx_cal hm_M_isMixed := ⟨by decide +kernel, cw_M_isMixed⟩
set_option maxRecDepth 20000 in
theorem mj_M_isMixed : hx_ms[235]? = some hm_M_isMixed := rfl
set_option maxRecDepth 100000 in
theorem ok_M_feels : hx_okO hm_M_feels = true := hq_okO (by decide +kernel)
theorem cw_M_feels : Cond.code (hx_y hm_M_feels) (hx_b hm_M_feels) (hx_L hm_M_feels) (hx_ret hm_M_feels) ∈ hx_T := hx_T_in (hx_ch_in tables_1_7 (List.mem_of_getElem? (i := 7) rfl) _ (List.mem_of_getElem? (i := 70) rfl)) rfl
set_option maxRecDepth 100000 in
theorem ck_M_feels : hx_cal hm_M_feels := ⟨by decide +kernel, cw_M_feels⟩
set_option maxRecDepth 20000 in
theorem mj_M_feels : hx_ms[236]? = some hm_M_feels := rfl
set_option maxRecDepth 100000 in
theorem ok_M_bits : hx_okO hm_M_bits = true := hq_okO (by decide +kernel)
theorem cw_M_bits : Cond.code (hx_y hm_M_bits) (hx_b hm_M_bits) (hx_L hm_M_bits) (hx_ret hm_M_bits) ∈ hx_T := hx_T_in (hx_ch_in tables_1_7 (List.mem_of_getElem? (i := 7) rfl) _ (List.mem_of_getElem? (i := 73) rfl)) rfl
set_option maxRecDepth 100000 in
theorem ck_M_bits : hx_cal hm_M_bits := ⟨by decide +kernel, cw_M_bits⟩
set_option maxRecDepth 20000 in
theorem mj_M_bits : hx_ms[237]? = some hm_M_bits := rfl
set_option maxRecDepth 100000 in
theorem ok_M_holds : hx_okO hm_M_holds = true := hq_okO (by decide +kernel)
theorem cw_M_holds : Cond.code (hx_y hm_M_holds) (hx_b hm_M_holds) (hx_L hm_M_holds) (hx_ret hm_M_holds) ∈ hx_T := hx_T_in (hx_ch_in tables_1_7 (List.mem_of_getElem? (i := 7) rfl) _ (List.mem_of_getElem? (i := 77) rfl)) rfl
set_option maxRecDepth 100000 in
theorem ck_M_holds : hx_cal hm_M_holds := ⟨by decide +kernel, cw_M_holds⟩
set_option maxRecDepth 20000 in
theorem mj_M_holds : hx_ms[238]? = some hm_M_holds := rfl
set_option maxRecDepth 100000 in
theorem ok_M_comesTo : hx_okO hm_M_comesTo = true := hq_okO (by decide +kernel)
theorem cw_M_comesTo : Cond.code (hx_y hm_M_comesTo) (hx_b hm_M_comesTo) (hx_L hm_M_comesTo) (hx_ret hm_M_comesTo) ∈ hx_T := hx_T_in (hx_ch_in tables_1_7 (List.mem_of_getElem? (i := 7) rfl) _ (List.mem_of_getElem? (i := 81) rfl)) rfl
set_option maxRecDepth 100000 in
theorem ck_M_comesTo : hx_cal hm_M_comesTo := ⟨by decide +kernel, cw_M_comesTo⟩
set_option maxRecDepth 20000 in
theorem mj_M_comesTo : hx_ms[239]? = some hm_M_comesTo := rfl
