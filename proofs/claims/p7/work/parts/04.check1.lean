set_option maxRecDepth 100000 in
theorem ok_W_init : hx_okO hm_W_init = true := hq_okO (by decide +kernel)
theorem cw_W_init : Cond.code (hx_y hm_W_init) (hx_b hm_W_init) (hx_L hm_W_init) (hx_ret hm_W_init) ∈ hx_T := hx_T_in (hx_ch_in tables_1_1 (List.mem_of_getElem? (i := 1) rfl) _ (List.mem_of_getElem? (i := 20) rfl)) rfl
set_option maxRecDepth 100000 in
theorem ck_W_init : hx_cal hm_W_init := ⟨by decide +kernel, cw_W_init⟩
set_option maxRecDepth 20000 in
theorem mj_W_init : hx_ms[0]? = some hm_W_init := rfl
set_option maxRecDepth 100000 in
theorem ok_T_init : hx_okO hm_T_init = true := hq_okO (by decide +kernel)
theorem cw_T_init : Cond.code (hx_y hm_T_init) (hx_b hm_T_init) (hx_L hm_T_init) (hx_ret hm_T_init) ∈ hx_T := hx_T_in (hx_ch_in tables_1_1 (List.mem_of_getElem? (i := 1) rfl) _ (List.mem_of_getElem? (i := 28) rfl)) rfl
set_option maxRecDepth 100000 in
theorem ck_T_init : hx_cal hm_T_init := ⟨by decide +kernel, cw_T_init⟩
set_option maxRecDepth 20000 in
theorem mj_T_init : hx_ms[1]? = some hm_T_init := rfl
set_option maxRecDepth 100000 in
theorem ok_P_init : hx_okO hm_P_init = true := hq_okO (by decide +kernel)
theorem cw_P_init : Cond.code (hx_y hm_P_init) (hx_b hm_P_init) (hx_L hm_P_init) (hx_ret hm_P_init) ∈ hx_T := hx_T_in (hx_ch_in tables_1_1 (List.mem_of_getElem? (i := 1) rfl) _ (List.mem_of_getElem? (i := 51) rfl)) rfl
set_option maxRecDepth 100000 in
theorem ck_P_init : hx_cal hm_P_init := ⟨by decide +kernel, cw_P_init⟩
set_option maxRecDepth 20000 in
theorem mj_P_init : hx_ms[2]? = some hm_P_init := rfl
set_option maxRecDepth 100000 in
theorem ok_G_init : hx_okO hm_G_init = true := hq_okO (by decide +kernel)
theorem cw_G_init : Cond.code (hx_y hm_G_init) (hx_b hm_G_init) (hx_L hm_G_init) (hx_ret hm_G_init) ∈ hx_T := hx_T_in (hx_ch_in tables_1_1 (List.mem_of_getElem? (i := 1) rfl) _ (List.mem_of_getElem? (i := 70) rfl)) rfl
set_option maxRecDepth 100000 in
theorem ck_G_init : hx_cal hm_G_init := ⟨by decide +kernel, cw_G_init⟩
set_option maxRecDepth 20000 in
theorem mj_G_init : hx_ms[3]? = some hm_G_init := rfl
set_option maxRecDepth 100000 in
theorem ok_L_init : hx_okO hm_L_init = true := hq_okO (by decide +kernel)
theorem cw_L_init : Cond.code (hx_y hm_L_init) (hx_b hm_L_init) (hx_L hm_L_init) (hx_ret hm_L_init) ∈ hx_T := hx_T_in (hx_ch_in tables_1_1 (List.mem_of_getElem? (i := 1) rfl) _ (List.mem_of_getElem? (i := 89) rfl)) rfl
set_option maxRecDepth 100000 in
theorem ck_L_init : hx_cal hm_L_init := ⟨by decide +kernel, cw_L_init⟩
set_option maxRecDepth 20000 in
theorem mj_L_init : hx_ms[4]? = some hm_L_init := rfl
set_option maxRecDepth 100000 in
theorem ok_N_init : hx_okO hm_N_init = true := hq_okO (by decide +kernel)
theorem cw_N_init : Cond.code (hx_y hm_N_init) (hx_b hm_N_init) (hx_L hm_N_init) (hx_ret hm_N_init) ∈ hx_T := hx_T_in (hx_ch_in tables_1_1 (List.mem_of_getElem? (i := 1) rfl) _ (List.mem_of_getElem? (i := 126) rfl)) rfl
set_option maxRecDepth 100000 in
theorem ck_N_init : hx_cal hm_N_init := ⟨by decide +kernel, cw_N_init⟩
set_option maxRecDepth 20000 in
theorem mj_N_init : hx_ms[5]? = some hm_N_init := rfl
set_option maxRecDepth 100000 in
theorem ok_S_init : hx_okO hm_S_init = true := hq_okO (by decide +kernel)
theorem cw_S_init : Cond.code (hx_y hm_S_init) (hx_b hm_S_init) (hx_L hm_S_init) (hx_ret hm_S_init) ∈ hx_T := hx_T_in (hx_ch_in tables_1_1 (List.mem_of_getElem? (i := 1) rfl) _ (List.mem_of_getElem? (i := 154) rfl)) rfl
set_option maxRecDepth 100000 in
theorem ck_S_init : hx_cal hm_S_init := ⟨by decide +kernel, cw_S_init⟩
set_option maxRecDepth 20000 in
theorem mj_S_init : hx_ms[6]? = some hm_S_init := rfl
set_option maxRecDepth 100000 in
theorem ok_E_init : hx_okO hm_E_init = true := hq_okO (by decide +kernel)
theorem cw_E_init : Cond.code (hx_y hm_E_init) (hx_b hm_E_init) (hx_L hm_E_init) (hx_ret hm_E_init) ∈ hx_T := hx_T_in (hx_ch_in tables_1_1 (List.mem_of_getElem? (i := 1) rfl) _ (List.mem_of_getElem? (i := 185) rfl)) rfl
set_option maxRecDepth 100000 in
theorem ck_E_init : hx_cal hm_E_init := ⟨by decide +kernel, cw_E_init⟩
set_option maxRecDepth 20000 in
theorem mj_E_init : hx_ms[7]? = some hm_E_init := rfl
set_option maxRecDepth 100000 in
theorem ok_U_init : hx_okO hm_U_init = true := hq_okO (by decide +kernel)
theorem cw_U_init : Cond.code (hx_y hm_U_init) (hx_b hm_U_init) (hx_L hm_U_init) (hx_ret hm_U_init) ∈ hx_T := hx_T_in (hx_ch_in tables_1_1 (List.mem_of_getElem? (i := 1) rfl) _ (List.mem_of_getElem? (i := 204) rfl)) rfl
set_option maxRecDepth 100000 in
theorem ck_U_init : hx_cal hm_U_init := ⟨by decide +kernel, cw_U_init⟩
set_option maxRecDepth 20000 in
theorem mj_U_init : hx_ms[8]? = some hm_U_init := rfl
set_option maxRecDepth 100000 in
theorem ok_D_init : hx_okO hm_D_init = true := hq_okO (by decide +kernel)
theorem cw_D_init : Cond.code (hx_y hm_D_init) (hx_b hm_D_init) (hx_L hm_D_init) (hx_ret hm_D_init) ∈ hx_T := hx_T_in (hx_ch_in tables_1_1 (List.mem_of_getElem? (i := 1) rfl) _ (List.mem_of_getElem? (i := 229) rfl)) rfl
set_option maxRecDepth 100000 in
theorem ck_D_init : hx_cal hm_D_init := ⟨by decide +kernel, cw_D_init⟩
set_option maxRecDepth 20000 in
theorem mj_D_init : hx_ms[9]? = some hm_D_init := rfl
set_option maxRecDepth 100000 in
theorem ok_A_init : hx_okO hm_A_init = true := hq_okO (by decide +kernel)
theorem cw_A_init : Cond.code (hx_y hm_A_init) (hx_b hm_A_init) (hx_L hm_A_init) (hx_ret hm_A_init) ∈ hx_T := hx_T_in (hx_ch_in tables_1_2 (List.mem_of_getElem? (i := 2) rfl) _ (List.mem_of_getElem? (i := 23) rfl)) rfl
set_option maxRecDepth 100000 in
theorem ck_A_init : hx_cal hm_A_init := ⟨by decide +kernel, cw_A_init⟩
set_option maxRecDepth 20000 in
theorem mj_A_init : hx_ms[10]? = some hm_A_init := rfl
set_option maxRecDepth 100000 in
theorem ok_W_colour : hx_okO hm_W_colour = true := hq_okO (by decide +kernel)
theorem cw_W_colour : Cond.code (hx_y hm_W_colour) (hx_b hm_W_colour) (hx_L hm_W_colour) (hx_ret hm_W_colour) ∈ hx_T := hx_T_in (hx_ch_in tables_1_2 (List.mem_of_getElem? (i := 2) rfl) _ (List.mem_of_getElem? (i := 97) rfl)) rfl
set_option maxRecDepth 100000 in
theorem ck_W_colour : hx_cal hm_W_colour := ⟨by decide +kernel, cw_W_colour⟩
set_option maxRecDepth 20000 in
theorem mj_W_colour : hx_ms[11]? = some hm_W_colour := rfl
set_option maxRecDepth 100000 in
theorem ok_P_tell : hx_okO hm_P_tell = true := hq_okO (by decide +kernel)
theorem cw_P_tell : Cond.code (hx_y hm_P_tell) (hx_b hm_P_tell) (hx_L hm_P_tell) (hx_ret hm_P_tell) ∈ hx_T := hx_T_in (hx_ch_in tables_1_2 (List.mem_of_getElem? (i := 2) rfl) _ (List.mem_of_getElem? (i := 101) rfl)) rfl
set_option maxRecDepth 100000 in
theorem ck_P_tell : hx_cal hm_P_tell := ⟨by decide +kernel, cw_P_tell⟩
set_option maxRecDepth 20000 in
theorem mj_P_tell : hx_ms[12]? = some hm_P_tell := rfl
set_option maxRecDepth 100000 in
theorem ok_W_isAmong : hx_okO hm_W_isAmong = true := hq_okO (by decide +kernel)
theorem cw_W_isAmong : Cond.code (hx_y hm_W_isAmong) (hx_b hm_W_isAmong) (hx_L hm_W_isAmong) (hx_ret hm_W_isAmong) ∈ hx_T := hx_T_in (hx_ch_in tables_1_2 (List.mem_of_getElem? (i := 2) rfl) _ (List.mem_of_getElem? (i := 104) rfl)) rfl
set_option maxRecDepth 100000 in
theorem ck_W_isAmong : hx_cal hm_W_isAmong := ⟨by decide +kernel, cw_W_isAmong⟩
set_option maxRecDepth 20000 in
theorem mj_W_isAmong : hx_ms[13]? = some hm_W_isAmong := rfl
set_option maxRecDepth 100000 in
theorem ok_P_isTold : hx_okO hm_P_isTold = true := hq_okO (by decide +kernel)
theorem cw_P_isTold : Cond.code (hx_y hm_P_isTold) (hx_b hm_P_isTold) (hx_L hm_P_isTold) (hx_ret hm_P_isTold) ∈ hx_T := hx_T_in (hx_ch_in tables_1_2 (List.mem_of_getElem? (i := 2) rfl) _ (List.mem_of_getElem? (i := 108) rfl)) rfl
set_option maxRecDepth 100000 in
theorem ck_P_isTold : hx_cal hm_P_isTold := ⟨by decide +kernel, cw_P_isTold⟩
set_option maxRecDepth 20000 in
theorem mj_P_isTold : hx_ms[14]? = some hm_P_isTold := rfl
set_option maxRecDepth 100000 in
theorem ok_W_bit : hx_okO hm_W_bit = true := hq_okO (by decide +kernel)
theorem cw_W_bit : Cond.code (hx_y hm_W_bit) (hx_b hm_W_bit) (hx_L hm_W_bit) (hx_ret hm_W_bit) ∈ hx_T := hx_T_in (hx_ch_in tables_1_2 (List.mem_of_getElem? (i := 2) rfl) _ (List.mem_of_getElem? (i := 111) rfl)) rfl
set_option maxRecDepth 100000 in
theorem ck_W_bit : hx_cal hm_W_bit := ⟨by decide +kernel, cw_W_bit⟩
set_option maxRecDepth 20000 in
theorem mj_W_bit : hx_ms[15]? = some hm_W_bit := rfl
set_option maxRecDepth 100000 in
theorem ok_W_have : hx_okO hm_W_have = true := hq_okO (by decide +kernel)
theorem cw_W_have : Cond.code (hx_y hm_W_have) (hx_b hm_W_have) (hx_L hm_W_have) (hx_ret hm_W_have) ∈ hx_T := hx_T_in (hx_ch_in tables_1_2 (List.mem_of_getElem? (i := 2) rfl) _ (List.mem_of_getElem? (i := 115) rfl)) rfl
set_option maxRecDepth 100000 in
theorem ck_W_have : hx_cal hm_W_have := ⟨by decide +kernel, cw_W_have⟩
set_option maxRecDepth 20000 in
theorem mj_W_have : hx_ms[16]? = some hm_W_have := rfl
set_option maxRecDepth 100000 in
theorem ok_P_isPlain : hx_okO hm_P_isPlain = true := hq_okO (by decide +kernel)
theorem cw_P_isPlain : Cond.code (hx_y hm_P_isPlain) (hx_b hm_P_isPlain) (hx_L hm_P_isPlain) (hx_ret hm_P_isPlain) ∈ hx_T := hx_T_in (hx_ch_in tables_1_2 (List.mem_of_getElem? (i := 2) rfl) _ (List.mem_of_getElem? (i := 119) rfl)) rfl
set_option maxRecDepth 100000 in
theorem ck_P_isPlain : hx_cal hm_P_isPlain := ⟨by decide +kernel, cw_P_isPlain⟩
set_option maxRecDepth 20000 in
theorem mj_P_isPlain : hx_ms[17]? = some hm_P_isPlain := rfl
set_option maxRecDepth 100000 in
theorem ok_P_isMixed : hx_okO hm_P_isMixed = true := hq_okO (by decide +kernel)
theorem cw_P_isMixed : Cond.code (hx_y hm_P_isMixed) (hx_b hm_P_isMixed) (hx_L hm_P_isMixed) (hx_ret hm_P_isMixed) ∈ hx_T := hx_T_in (hx_ch_in tables_1_2 (List.mem_of_getElem? (i := 2) rfl) _ (List.mem_of_getElem? (i := 123) rfl)) rfl
set_option maxRecDepth 100000 in
theorem ck_P_isMixed : hx_cal hm_P_isMixed := ⟨by decide +kernel, cw_P_isMixed⟩
set_option maxRecDepth 20000 in
theorem mj_P_isMixed : hx_ms[18]? = some hm_P_isMixed := rfl
set_option maxRecDepth 100000 in
theorem ok_W_isQuarter : hx_okO hm_W_isQuarter = true := hq_okO (by decide +kernel)
theorem cw_W_isQuarter : Cond.code (hx_y hm_W_isQuarter) (hx_b hm_W_isQuarter) (hx_L hm_W_isQuarter) (hx_ret hm_W_isQuarter) ∈ hx_T := hx_T_in (hx_ch_in tables_1_2 (List.mem_of_getElem? (i := 2) rfl) _ (List.mem_of_getElem? (i := 126) rfl)) rfl
set_option maxRecDepth 100000 in
theorem ck_W_isQuarter : hx_cal hm_W_isQuarter := ⟨by decide +kernel, cw_W_isQuarter⟩
set_option maxRecDepth 20000 in
theorem mj_W_isQuarter : hx_ms[19]? = some hm_W_isQuarter := rfl
set_option maxRecDepth 100000 in
theorem ok_S_setHavers : hx_okO hm_S_setHavers = true := hq_okO (by decide +kernel)
theorem cw_S_setHavers : Cond.code (hx_y hm_S_setHavers) (hx_b hm_S_setHavers) (hx_L hm_S_setHavers) (hx_ret hm_S_setHavers) ∈ hx_T := hx_T_in (hx_ch_in tables_1_2 (List.mem_of_getElem? (i := 2) rfl) _ (List.mem_of_getElem? (i := 130) rfl)) rfl
set_option maxRecDepth 100000 in
theorem ck_S_setHavers : hx_cal hm_S_setHavers := ⟨by decide +kernel, cw_S_setHavers⟩
set_option maxRecDepth 20000 in
theorem mj_S_setHavers : hx_ms[20]? = some hm_S_setHavers := rfl
set_option maxRecDepth 100000 in
theorem ok_W_owner : hx_okO hm_W_owner = true := hq_okO (by decide +kernel)
theorem cw_W_owner : Cond.code (hx_y hm_W_owner) (hx_b hm_W_owner) (hx_L hm_W_owner) (hx_ret hm_W_owner) ∈ hx_T := hx_T_in (hx_ch_in tables_1_2 (List.mem_of_getElem? (i := 2) rfl) _ (List.mem_of_getElem? (i := 136) rfl)) rfl
set_option maxRecDepth 100000 in
theorem ck_W_owner : hx_cal hm_W_owner := ⟨by decide +kernel, cw_W_owner⟩
set_option maxRecDepth 20000 in
theorem mj_W_owner : hx_ms[21]? = some hm_W_owner := rfl
set_option maxRecDepth 100000 in
theorem ok_W_isPlace : hx_okO hm_W_isPlace = true := hq_okO (by decide +kernel)
theorem cw_W_isPlace : Cond.code (hx_y hm_W_isPlace) (hx_b hm_W_isPlace) (hx_L hm_W_isPlace) (hx_ret hm_W_isPlace) ∈ hx_T := hx_T_in (hx_ch_in tables_1_2 (List.mem_of_getElem? (i := 2) rfl) _ (List.mem_of_getElem? (i := 139) rfl)) rfl
set_option maxRecDepth 100000 in
theorem ck_W_isPlace : hx_cal hm_W_isPlace := ⟨by decide +kernel, cw_W_isPlace⟩
set_option maxRecDepth 20000 in
theorem mj_W_isPlace : hx_ms[22]? = some hm_W_isPlace := rfl
set_option maxRecDepth 100000 in
theorem ok_S_setOwner : hx_okO hm_S_setOwner = true := hq_okO (by decide +kernel)
theorem cw_S_setOwner : Cond.code (hx_y hm_S_setOwner) (hx_b hm_S_setOwner) (hx_L hm_S_setOwner) (hx_ret hm_S_setOwner) ∈ hx_T := hx_T_in (hx_ch_in tables_1_2 (List.mem_of_getElem? (i := 2) rfl) _ (List.mem_of_getElem? (i := 144) rfl)) rfl
set_option maxRecDepth 100000 in
theorem ck_S_setOwner : hx_cal hm_S_setOwner := ⟨by decide +kernel, cw_S_setOwner⟩
set_option maxRecDepth 20000 in
theorem mj_S_setOwner : hx_ms[23]? = some hm_S_setOwner := rfl
set_option maxRecDepth 100000 in
theorem ok_W_feed : hx_okO hm_W_feed = true := hq_okO (by decide +kernel)
theorem cw_W_feed : Cond.code (hx_y hm_W_feed) (hx_b hm_W_feed) (hx_L hm_W_feed) (hx_ret hm_W_feed) ∈ hx_T := hx_T_in (hx_ch_in tables_1_2 (List.mem_of_getElem? (i := 2) rfl) _ (List.mem_of_getElem? (i := 148) rfl)) rfl
set_option maxRecDepth 100000 in
theorem ck_W_feed : hx_cal hm_W_feed := ⟨by decide +kernel, cw_W_feed⟩
set_option maxRecDepth 20000 in
theorem mj_W_feed : hx_ms[24]? = some hm_W_feed := rfl
set_option maxRecDepth 100000 in
theorem ok_T_length : hx_okO hm_T_length = true := hq_okO (by decide +kernel)
theorem cw_T_length : Cond.code (hx_y hm_T_length) (hx_b hm_T_length) (hx_L hm_T_length) (hx_ret hm_T_length) ∈ hx_T := hx_T_in (hx_ch_in tables_1_2 (List.mem_of_getElem? (i := 2) rfl) _ (List.mem_of_getElem? (i := 152) rfl)) rfl
set_option maxRecDepth 100000 in
theorem ck_T_length : hx_cal hm_T_length := ⟨by decide +kernel, cw_T_length⟩
set_option maxRecDepth 20000 in
theorem mj_T_length : hx_ms[25]? = some hm_T_length := rfl
set_option maxRecDepth 100000 in
theorem ok_T_add : hx_okO hm_T_add = true := hq_okO (by decide +kernel)
theorem cw_T_add : Cond.code (hx_y hm_T_add) (hx_b hm_T_add) (hx_L hm_T_add) (hx_ret hm_T_add) ∈ hx_T := hx_T_in (hx_ch_in tables_1_2 (List.mem_of_getElem? (i := 2) rfl) _ (List.mem_of_getElem? (i := 156) rfl)) rfl
set_option maxRecDepth 100000 in
theorem ck_T_add : hx_cal hm_T_add := ⟨by decide +kernel, cw_T_add⟩
set_option maxRecDepth 20000 in
theorem mj_T_add : hx_ms[26]? = some hm_T_add := rfl
set_option maxRecDepth 100000 in
theorem ok_W_law : hx_okO hm_W_law = true := hq_okO (by decide +kernel)
theorem cw_W_law : Cond.code (hx_y hm_W_law) (hx_b hm_W_law) (hx_L hm_W_law) (hx_ret hm_W_law) ∈ hx_T := hx_T_in (hx_ch_in tables_1_2 (List.mem_of_getElem? (i := 2) rfl) _ (List.mem_of_getElem? (i := 160) rfl)) rfl
set_option maxRecDepth 100000 in
theorem ck_W_law : hx_cal hm_W_law := ⟨by decide +kernel, cw_W_law⟩
set_option maxRecDepth 20000 in
theorem mj_W_law : hx_ms[27]? = some hm_W_law := rfl
set_option maxRecDepth 100000 in
theorem ok_W_isOnTape : hx_okO hm_W_isOnTape = true := hq_okO (by decide +kernel)
theorem cw_W_isOnTape : Cond.code (hx_y hm_W_isOnTape) (hx_b hm_W_isOnTape) (hx_L hm_W_isOnTape) (hx_ret hm_W_isOnTape) ∈ hx_T := hx_T_in (hx_ch_in tables_1_2 (List.mem_of_getElem? (i := 2) rfl) _ (List.mem_of_getElem? (i := 164) rfl)) rfl
set_option maxRecDepth 100000 in
theorem ck_W_isOnTape : hx_cal hm_W_isOnTape := ⟨by decide +kernel, cw_W_isOnTape⟩
set_option maxRecDepth 20000 in
theorem mj_W_isOnTape : hx_ms[28]? = some hm_W_isOnTape := rfl
set_option maxRecDepth 100000 in
theorem ok_L_read : hx_okO hm_L_read = true := hq_okO (by decide +kernel)
theorem cw_L_read : Cond.code (hx_y hm_L_read) (hx_b hm_L_read) (hx_L hm_L_read) (hx_ret hm_L_read) ∈ hx_T := hx_T_in (hx_ch_in tables_1_2 (List.mem_of_getElem? (i := 2) rfl) _ (List.mem_of_getElem? (i := 168) rfl)) rfl
set_option maxRecDepth 100000 in
theorem ck_L_read : hx_cal hm_L_read := ⟨by decide +kernel, cw_L_read⟩
set_option maxRecDepth 20000 in
theorem mj_L_read : hx_ms[29]? = some hm_L_read := rfl
set_option maxRecDepth 100000 in
theorem ok_T_start : hx_okO hm_T_start = true := hq_okO (by decide +kernel)
theorem cw_T_start : Cond.code (hx_y hm_T_start) (hx_b hm_T_start) (hx_L hm_T_start) (hx_ret hm_T_start) ∈ hx_T := hx_T_in (hx_ch_in tables_1_2 (List.mem_of_getElem? (i := 2) rfl) _ (List.mem_of_getElem? (i := 172) rfl)) rfl
set_option maxRecDepth 100000 in
theorem ck_T_start : hx_cal hm_T_start := ⟨by decide +kernel, cw_T_start⟩
set_option maxRecDepth 20000 in
theorem mj_T_start : hx_ms[30]? = some hm_T_start := rfl
set_option maxRecDepth 100000 in
theorem ok_L_readClause : hx_okO hm_L_readClause = true := hq_okO (by decide +kernel)
theorem cw_L_readClause : Cond.code (hx_y hm_L_readClause) (hx_b hm_L_readClause) (hx_L hm_L_readClause) (hx_ret hm_L_readClause) ∈ hx_T := hx_T_in (hx_ch_in tables_1_2 (List.mem_of_getElem? (i := 2) rfl) _ (List.mem_of_getElem? (i := 179) rfl)) rfl
set_option maxRecDepth 100000 in
theorem ck_L_readClause : hx_cal hm_L_readClause := ⟨by decide +kernel, cw_L_readClause⟩
set_option maxRecDepth 20000 in
theorem mj_L_readClause : hx_ms[31]? = some hm_L_readClause := rfl
set_option maxRecDepth 100000 in
theorem ok_T_next : hx_okO hm_T_next = true := hq_okO (by decide +kernel)
theorem cw_T_next : Cond.code (hx_y hm_T_next) (hx_b hm_T_next) (hx_L hm_T_next) (hx_ret hm_T_next) ∈ hx_T := hx_T_in (hx_ch_in tables_1_2 (List.mem_of_getElem? (i := 2) rfl) _ (List.mem_of_getElem? (i := 183) rfl)) rfl
set_option maxRecDepth 100000 in
theorem ck_T_next : hx_cal hm_T_next := ⟨by decide +kernel, cw_T_next⟩
set_option maxRecDepth 20000 in
theorem mj_T_next : hx_ms[32]? = some hm_T_next := rfl
set_option maxRecDepth 100000 in
theorem ok_T_fail : hx_okO hm_T_fail = true := hq_okO (by decide +kernel)
theorem cw_T_fail : Cond.code (hx_y hm_T_fail) (hx_b hm_T_fail) (hx_L hm_T_fail) (hx_ret hm_T_fail) ∈ hx_T := hx_T_in (hx_ch_in tables_1_2 (List.mem_of_getElem? (i := 2) rfl) _ (List.mem_of_getElem? (i := 187) rfl)) rfl
set_option maxRecDepth 100000 in
theorem ck_T_fail : hx_cal hm_T_fail := ⟨by decide +kernel, cw_T_fail⟩
set_option maxRecDepth 20000 in
theorem mj_T_fail : hx_ms[33]? = some hm_T_fail := rfl
set_option maxRecDepth 100000 in
theorem ok_T_step : hx_okO hm_T_step = true := hq_okO (by decide +kernel)
theorem cw_T_step : Cond.code (hx_y hm_T_step) (hx_b hm_T_step) (hx_L hm_T_step) (hx_ret hm_T_step) ∈ hx_T := hx_T_in (hx_ch_in tables_1_2 (List.mem_of_getElem? (i := 2) rfl) _ (List.mem_of_getElem? (i := 191) rfl)) rfl
set_option maxRecDepth 100000 in
theorem ck_T_step : hx_cal hm_T_step := ⟨by decide +kernel, cw_T_step⟩
set_option maxRecDepth 20000 in
theorem mj_T_step : hx_ms[34]? = some hm_T_step := rfl
set_option maxRecDepth 100000 in
theorem ok_L_readSum : hx_okO hm_L_readSum = true := hq_okO (by decide +kernel)
theorem cw_L_readSum : Cond.code (hx_y hm_L_readSum) (hx_b hm_L_readSum) (hx_L hm_L_readSum) (hx_ret hm_L_readSum) ∈ hx_T := hx_T_in (hx_ch_in tables_1_2 (List.mem_of_getElem? (i := 2) rfl) _ (List.mem_of_getElem? (i := 195) rfl)) rfl
set_option maxRecDepth 100000 in
theorem ck_L_readSum : hx_cal hm_L_readSum := ⟨by decide +kernel, cw_L_readSum⟩
set_option maxRecDepth 20000 in
theorem mj_L_readSum : hx_ms[35]? = some hm_L_readSum := rfl
set_option maxRecDepth 100000 in
theorem ok_L_readProduct : hx_okO hm_L_readProduct = true := hq_okO (by decide +kernel)
theorem cw_L_readProduct : Cond.code (hx_y hm_L_readProduct) (hx_b hm_L_readProduct) (hx_L hm_L_readProduct) (hx_ret hm_L_readProduct) ∈ hx_T := hx_T_in (hx_ch_in tables_1_2 (List.mem_of_getElem? (i := 2) rfl) _ (List.mem_of_getElem? (i := 199) rfl)) rfl
set_option maxRecDepth 100000 in
theorem ck_L_readProduct : hx_cal hm_L_readProduct := ⟨by decide +kernel, cw_L_readProduct⟩
set_option maxRecDepth 20000 in
theorem mj_L_readProduct : hx_ms[36]? = some hm_L_readProduct := rfl
set_option maxRecDepth 100000 in
theorem ok_L_readFactor : hx_okO hm_L_readFactor = true := hq_okO (by decide +kernel)
theorem cw_L_readFactor : Cond.code (hx_y hm_L_readFactor) (hx_b hm_L_readFactor) (hx_L hm_L_readFactor) (hx_ret hm_L_readFactor) ∈ hx_T := hx_T_in (hx_ch_in tables_1_2 (List.mem_of_getElem? (i := 2) rfl) _ (List.mem_of_getElem? (i := 203) rfl)) rfl
set_option maxRecDepth 100000 in
theorem ck_L_readFactor : hx_cal hm_L_readFactor := ⟨by decide +kernel, cw_L_readFactor⟩
set_option maxRecDepth 20000 in
theorem mj_L_readFactor : hx_ms[37]? = some hm_L_readFactor := rfl
set_option maxRecDepth 100000 in
theorem ok_W_isDigit : hx_okO hm_W_isDigit = true := hq_okO (by decide +kernel)
theorem cw_W_isDigit : Cond.code (hx_y hm_W_isDigit) (hx_b hm_W_isDigit) (hx_L hm_W_isDigit) (hx_ret hm_W_isDigit) ∈ hx_T := hx_T_in (hx_ch_in tables_1_2 (List.mem_of_getElem? (i := 2) rfl) _ (List.mem_of_getElem? (i := 206) rfl)) rfl
set_option maxRecDepth 100000 in
theorem ck_W_isDigit : hx_cal hm_W_isDigit := ⟨by decide +kernel, cw_W_isDigit⟩
set_option maxRecDepth 20000 in
theorem mj_W_isDigit : hx_ms[38]? = some hm_W_isDigit := rfl
set_option maxRecDepth 100000 in
theorem ok_L_readNumber : hx_okO hm_L_readNumber = true := hq_okO (by decide +kernel)
theorem cw_L_readNumber : Cond.code (hx_y hm_L_readNumber) (hx_b hm_L_readNumber) (hx_L hm_L_readNumber) (hx_ret hm_L_readNumber) ∈ hx_T := hx_T_in (hx_ch_in tables_1_2 (List.mem_of_getElem? (i := 2) rfl) _ (List.mem_of_getElem? (i := 210) rfl)) rfl
set_option maxRecDepth 100000 in
theorem ck_L_readNumber : hx_cal hm_L_readNumber := ⟨by decide +kernel, cw_L_readNumber⟩
set_option maxRecDepth 20000 in
theorem mj_L_readNumber : hx_ms[39]? = some hm_L_readNumber := rfl
set_option maxRecDepth 100000 in
theorem ok_L_emit : hx_okO hm_L_emit = true := hq_okO (by decide +kernel)
theorem cw_L_emit : Cond.code (hx_y hm_L_emit) (hx_b hm_L_emit) (hx_L hm_L_emit) (hx_ret hm_L_emit) ∈ hx_T := hx_T_in (hx_ch_in tables_1_2 (List.mem_of_getElem? (i := 2) rfl) _ (List.mem_of_getElem? (i := 214) rfl)) rfl
set_option maxRecDepth 100000 in
theorem ck_L_emit : hx_cal hm_L_emit := ⟨by decide +kernel, cw_L_emit⟩
set_option maxRecDepth 20000 in
theorem mj_L_emit : hx_ms[40]? = some hm_L_emit := rfl
set_option maxRecDepth 100000 in
theorem ok_T_take : hx_okO hm_T_take = true := hq_okO (by decide +kernel)
theorem cw_T_take : Cond.code (hx_y hm_T_take) (hx_b hm_T_take) (hx_L hm_T_take) (hx_ret hm_T_take) ∈ hx_T := hx_T_in (hx_ch_in tables_1_2 (List.mem_of_getElem? (i := 2) rfl) _ (List.mem_of_getElem? (i := 218) rfl)) rfl
set_option maxRecDepth 100000 in
theorem ck_T_take : hx_cal hm_T_take := ⟨by decide +kernel, cw_T_take⟩
set_option maxRecDepth 20000 in
theorem mj_T_take : hx_ms[41]? = some hm_T_take := rfl
set_option maxRecDepth 100000 in
theorem ok_L_letterOf : hx_okO hm_L_letterOf = true := hq_okO (by decide +kernel)
theorem cw_L_letterOf : Cond.code (hx_y hm_L_letterOf) (hx_b hm_L_letterOf) (hx_L hm_L_letterOf) (hx_ret hm_L_letterOf) ∈ hx_T := hx_T_in (hx_ch_in tables_1_2 (List.mem_of_getElem? (i := 2) rfl) _ (List.mem_of_getElem? (i := 223) rfl)) rfl
set_option maxRecDepth 100000 in
theorem ck_L_letterOf : hx_cal hm_L_letterOf := ⟨by decide +kernel, cw_L_letterOf⟩
set_option maxRecDepth 20000 in
theorem mj_L_letterOf : hx_ms[42]? = some hm_L_letterOf := rfl
set_option maxRecDepth 100000 in
theorem ok_L_isTimes : hx_okO hm_L_isTimes = true := hq_okO (by decide +kernel)
theorem cw_L_isTimes : Cond.code (hx_y hm_L_isTimes) (hx_b hm_L_isTimes) (hx_L hm_L_isTimes) (hx_ret hm_L_isTimes) ∈ hx_T := hx_T_in (hx_ch_in tables_1_2 (List.mem_of_getElem? (i := 2) rfl) _ (List.mem_of_getElem? (i := 226) rfl)) rfl
set_option maxRecDepth 100000 in
theorem ck_L_isTimes : hx_cal hm_L_isTimes := ⟨by decide +kernel, cw_L_isTimes⟩
set_option maxRecDepth 20000 in
theorem mj_L_isTimes : hx_ms[43]? = some hm_L_isTimes := rfl
set_option maxRecDepth 100000 in
theorem ok_L_readEither : hx_okO hm_L_readEither = true := hq_okO (by decide +kernel)
theorem cw_L_readEither : Cond.code (hx_y hm_L_readEither) (hx_b hm_L_readEither) (hx_L hm_L_readEither) (hx_ret hm_L_readEither) ∈ hx_T := hx_T_in (hx_ch_in tables_1_2 (List.mem_of_getElem? (i := 2) rfl) _ (List.mem_of_getElem? (i := 230) rfl)) rfl
set_option maxRecDepth 100000 in
theorem ck_L_readEither : hx_cal hm_L_readEither := ⟨by decide +kernel, cw_L_readEither⟩
set_option maxRecDepth 20000 in
theorem mj_L_readEither : hx_ms[44]? = some hm_L_readEither := rfl
set_option maxRecDepth 100000 in
theorem ok_L_readBoth : hx_okO hm_L_readBoth = true := hq_okO (by decide +kernel)
theorem cw_L_readBoth : Cond.code (hx_y hm_L_readBoth) (hx_b hm_L_readBoth) (hx_L hm_L_readBoth) (hx_ret hm_L_readBoth) ∈ hx_T := hx_T_in (hx_ch_in tables_1_2 (List.mem_of_getElem? (i := 2) rfl) _ (List.mem_of_getElem? (i := 234) rfl)) rfl
set_option maxRecDepth 100000 in
theorem ck_L_readBoth : hx_cal hm_L_readBoth := ⟨by decide +kernel, cw_L_readBoth⟩
set_option maxRecDepth 20000 in
theorem mj_L_readBoth : hx_ms[45]? = some hm_L_readBoth := rfl
set_option maxRecDepth 100000 in
theorem ok_L_readPiece : hx_okO hm_L_readPiece = true := hq_okO (by decide +kernel)
theorem cw_L_readPiece : Cond.code (hx_y hm_L_readPiece) (hx_b hm_L_readPiece) (hx_L hm_L_readPiece) (hx_ret hm_L_readPiece) ∈ hx_T := hx_T_in (hx_ch_in tables_1_2 (List.mem_of_getElem? (i := 2) rfl) _ (List.mem_of_getElem? (i := 238) rfl)) rfl
set_option maxRecDepth 100000 in
theorem ck_L_readPiece : hx_cal hm_L_readPiece := ⟨by decide +kernel, cw_L_readPiece⟩
set_option maxRecDepth 20000 in
theorem mj_L_readPiece : hx_ms[46]? = some hm_L_readPiece := rfl
set_option maxRecDepth 100000 in
theorem ok_L_leadHere : hx_okO hm_L_leadHere = true := hq_okO (by decide +kernel)
theorem cw_L_leadHere : Cond.code (hx_y hm_L_leadHere) (hx_b hm_L_leadHere) (hx_L hm_L_leadHere) (hx_ret hm_L_leadHere) ∈ hx_T := hx_T_in (hx_ch_in tables_1_3 (List.mem_of_getElem? (i := 3) rfl) _ (List.mem_of_getElem? (i := 2) rfl)) rfl
set_option maxRecDepth 100000 in
theorem ck_L_leadHere : hx_cal hm_L_leadHere := ⟨by decide +kernel, cw_L_leadHere⟩
set_option maxRecDepth 20000 in
theorem mj_L_leadHere : hx_ms[47]? = some hm_L_leadHere := rfl
set_option maxRecDepth 100000 in
theorem ok_T_finish : hx_okO hm_T_finish = true := hq_okO (by decide +kernel)
theorem cw_T_finish : Cond.code (hx_y hm_T_finish) (hx_b hm_T_finish) (hx_L hm_T_finish) (hx_ret hm_T_finish) ∈ hx_T := hx_T_in (hx_ch_in tables_1_3 (List.mem_of_getElem? (i := 3) rfl) _ (List.mem_of_getElem? (i := 6) rfl)) rfl
set_option maxRecDepth 100000 in
theorem ck_T_finish : hx_cal hm_T_finish := ⟨by decide +kernel, cw_T_finish⟩
set_option maxRecDepth 20000 in
theorem mj_T_finish : hx_ms[48]? = some hm_T_finish := rfl
set_option maxRecDepth 100000 in
theorem ok_T_fault : hx_okO hm_T_fault = true := hq_okO (by decide +kernel)
theorem cw_T_fault : Cond.code (hx_y hm_T_fault) (hx_b hm_T_fault) (hx_L hm_T_fault) (hx_ret hm_T_fault) ∈ hx_T := hx_T_in (hx_ch_in tables_1_3 (List.mem_of_getElem? (i := 3) rfl) _ (List.mem_of_getElem? (i := 10) rfl)) rfl
set_option maxRecDepth 100000 in
theorem ck_T_fault : hx_cal hm_T_fault := ⟨by decide +kernel, cw_T_fault⟩
set_option maxRecDepth 20000 in
theorem mj_T_fault : hx_ms[49]? = some hm_T_fault := rfl
set_option maxRecDepth 100000 in
theorem ok_T_clear : hx_okO hm_T_clear = true := hq_okO (by decide +kernel)
theorem cw_T_clear : Cond.code (hx_y hm_T_clear) (hx_b hm_T_clear) (hx_L hm_T_clear) (hx_ret hm_T_clear) ∈ hx_T := hx_T_in (hx_ch_in tables_1_3 (List.mem_of_getElem? (i := 3) rfl) _ (List.mem_of_getElem? (i := 14) rfl)) rfl
set_option maxRecDepth 100000 in
theorem ck_T_clear : hx_cal hm_T_clear := ⟨by decide +kernel, cw_T_clear⟩
set_option maxRecDepth 20000 in
theorem mj_T_clear : hx_ms[50]? = some hm_T_clear := rfl
set_option maxRecDepth 100000 in
theorem ok_L_copyFrom : hx_okO hm_L_copyFrom = true := hq_okO (by decide +kernel)
theorem cw_L_copyFrom : Cond.code (hx_y hm_L_copyFrom) (hx_b hm_L_copyFrom) (hx_L hm_L_copyFrom) (hx_ret hm_L_copyFrom) ∈ hx_T := hx_T_in (hx_ch_in tables_1_3 (List.mem_of_getElem? (i := 3) rfl) _ (List.mem_of_getElem? (i := 18) rfl)) rfl
set_option maxRecDepth 100000 in
theorem ck_L_copyFrom : hx_cal hm_L_copyFrom := ⟨by decide +kernel, cw_L_copyFrom⟩
set_option maxRecDepth 20000 in
theorem mj_L_copyFrom : hx_ms[51]? = some hm_L_copyFrom := rfl
set_option maxRecDepth 100000 in
theorem ok_L_clauses : hx_okO hm_L_clauses = true := hq_okO (by decide +kernel)
theorem cw_L_clauses : Cond.code (hx_y hm_L_clauses) (hx_b hm_L_clauses) (hx_L hm_L_clauses) (hx_ret hm_L_clauses) ∈ hx_T := hx_T_in (hx_ch_in tables_1_3 (List.mem_of_getElem? (i := 3) rfl) _ (List.mem_of_getElem? (i := 25) rfl)) rfl
set_option maxRecDepth 100000 in
theorem ck_L_clauses : hx_cal hm_L_clauses := ⟨by decide +kernel, cw_L_clauses⟩
set_option maxRecDepth 20000 in
theorem mj_L_clauses : hx_ms[52]? = some hm_L_clauses := rfl
set_option maxRecDepth 100000 in
theorem ok_W_land : hx_okO hm_W_land = true := hq_okO (by decide +kernel)
theorem cw_W_land : Cond.code (hx_y hm_W_land) (hx_b hm_W_land) (hx_L hm_W_land) (hx_ret hm_W_land) ∈ hx_T := hx_T_in (hx_ch_in tables_1_3 (List.mem_of_getElem? (i := 3) rfl) _ (List.mem_of_getElem? (i := 29) rfl)) rfl
set_option maxRecDepth 100000 in
theorem ck_W_land : hx_cal hm_W_land := ⟨by decide +kernel, cw_W_land⟩
set_option maxRecDepth 20000 in
theorem mj_W_land : hx_ms[53]? = some hm_W_land := rfl
set_option maxRecDepth 100000 in
theorem ok_G_read : hx_okO hm_G_read = true := hq_okO (by decide +kernel)
theorem cw_G_read : Cond.code (hx_y hm_G_read) (hx_b hm_G_read) (hx_L hm_G_read) (hx_ret hm_G_read) ∈ hx_T := hx_T_in (hx_ch_in tables_1_3 (List.mem_of_getElem? (i := 3) rfl) _ (List.mem_of_getElem? (i := 33) rfl)) rfl
set_option maxRecDepth 100000 in
theorem ck_G_read : hx_cal hm_G_read := ⟨by decide +kernel, cw_G_read⟩
set_option maxRecDepth 20000 in
theorem mj_G_read : hx_ms[54]? = some hm_G_read := rfl
set_option maxRecDepth 100000 in
theorem ok_G_readRow : hx_okO hm_G_readRow = true := hq_okO (by decide +kernel)
theorem cw_G_readRow : Cond.code (hx_y hm_G_readRow) (hx_b hm_G_readRow) (hx_L hm_G_readRow) (hx_ret hm_G_readRow) ∈ hx_T := hx_T_in (hx_ch_in tables_1_3 (List.mem_of_getElem? (i := 3) rfl) _ (List.mem_of_getElem? (i := 39) rfl)) rfl
set_option maxRecDepth 100000 in
theorem ck_G_readRow : hx_cal hm_G_readRow := ⟨by decide +kernel, cw_G_readRow⟩
set_option maxRecDepth 20000 in
theorem mj_G_readRow : hx_ms[55]? = some hm_G_readRow := rfl
set_option maxRecDepth 100000 in
theorem ok_G_isFieldsStart : hx_okO hm_G_isFieldsStart = true := hq_okO (by decide +kernel)
theorem cw_G_isFieldsStart : Cond.code (hx_y hm_G_isFieldsStart) (hx_b hm_G_isFieldsStart) (hx_L hm_G_isFieldsStart) (hx_ret hm_G_isFieldsStart) ∈ hx_T := hx_T_in (hx_ch_in tables_1_3 (List.mem_of_getElem? (i := 3) rfl) _ (List.mem_of_getElem? (i := 43) rfl)) rfl
set_option maxRecDepth 100000 in
theorem ck_G_isFieldsStart : hx_cal hm_G_isFieldsStart := ⟨by decide +kernel, cw_G_isFieldsStart⟩
set_option maxRecDepth 20000 in
theorem mj_G_isFieldsStart : hx_ms[56]? = some hm_G_isFieldsStart := rfl
set_option maxRecDepth 100000 in
theorem ok_G_colourOf : hx_okO hm_G_colourOf = true := hq_okO (by decide +kernel)
theorem cw_G_colourOf : Cond.code (hx_y hm_G_colourOf) (hx_b hm_G_colourOf) (hx_L hm_G_colourOf) (hx_ret hm_G_colourOf) ∈ hx_T := hx_T_in (hx_ch_in tables_1_3 (List.mem_of_getElem? (i := 3) rfl) _ (List.mem_of_getElem? (i := 46) rfl)) rfl
set_option maxRecDepth 100000 in
theorem ck_G_colourOf : hx_cal hm_G_colourOf := ⟨by decide +kernel, cw_G_colourOf⟩
set_option maxRecDepth 20000 in
theorem mj_G_colourOf : hx_ms[57]? = some hm_G_colourOf := rfl
set_option maxRecDepth 100000 in
theorem ok_G_readFields : hx_okO hm_G_readFields = true := hq_okO (by decide +kernel)
theorem cw_G_readFields : Cond.code (hx_y hm_G_readFields) (hx_b hm_G_readFields) (hx_L hm_G_readFields) (hx_ret hm_G_readFields) ∈ hx_T := hx_T_in (hx_ch_in tables_1_3 (List.mem_of_getElem? (i := 3) rfl) _ (List.mem_of_getElem? (i := 50) rfl)) rfl
set_option maxRecDepth 100000 in
theorem ck_G_readFields : hx_cal hm_G_readFields := ⟨by decide +kernel, cw_G_readFields⟩
set_option maxRecDepth 20000 in
theorem mj_G_readFields : hx_ms[58]? = some hm_G_readFields := rfl
set_option maxRecDepth 100000 in
theorem ok_G_painted : hx_okO hm_G_painted = true := hq_okO (by decide +kernel)
theorem cw_G_painted : Cond.code (hx_y hm_G_painted) (hx_b hm_G_painted) (hx_L hm_G_painted) (hx_ret hm_G_painted) ∈ hx_T := hx_T_in (hx_ch_in tables_1_3 (List.mem_of_getElem? (i := 3) rfl) _ (List.mem_of_getElem? (i := 61) rfl)) rfl
set_option maxRecDepth 100000 in
theorem ck_G_painted : hx_cal hm_G_painted := ⟨by decide +kernel, cw_G_painted⟩
set_option maxRecDepth 20000 in
theorem mj_G_painted : hx_ms[59]? = some hm_G_painted := rfl
set_option maxRecDepth 100000 in
theorem ok_W_treaties : hx_okO hm_W_treaties = true := hq_okO (by decide +kernel)
theorem cw_W_treaties : Cond.code (hx_y hm_W_treaties) (hx_b hm_W_treaties) (hx_L hm_W_treaties) (hx_ret hm_W_treaties) ∈ hx_T := hx_T_in (hx_ch_in tables_1_3 (List.mem_of_getElem? (i := 3) rfl) _ (List.mem_of_getElem? (i := 65) rfl)) rfl
set_option maxRecDepth 100000 in
theorem ck_W_treaties : hx_cal hm_W_treaties := ⟨by decide +kernel, cw_W_treaties⟩
set_option maxRecDepth 20000 in
theorem mj_W_treaties : hx_ms[60]? = some hm_W_treaties := rfl
set_option maxRecDepth 100000 in
theorem ok_N_read : hx_okO hm_N_read = true := hq_okO (by decide +kernel)
theorem cw_N_read : Cond.code (hx_y hm_N_read) (hx_b hm_N_read) (hx_L hm_N_read) (hx_ret hm_N_read) ∈ hx_T := hx_T_in (hx_ch_in tables_1_3 (List.mem_of_getElem? (i := 3) rfl) _ (List.mem_of_getElem? (i := 69) rfl)) rfl
set_option maxRecDepth 100000 in
theorem ck_N_read : hx_cal hm_N_read := ⟨by decide +kernel, cw_N_read⟩
set_option maxRecDepth 20000 in
theorem mj_N_read : hx_ms[61]? = some hm_N_read := rfl
set_option maxRecDepth 100000 in
theorem ok_N_readLine : hx_okO hm_N_readLine = true := hq_okO (by decide +kernel)
theorem cw_N_readLine : Cond.code (hx_y hm_N_readLine) (hx_b hm_N_readLine) (hx_L hm_N_readLine) (hx_ret hm_N_readLine) ∈ hx_T := hx_T_in (hx_ch_in tables_1_3 (List.mem_of_getElem? (i := 3) rfl) _ (List.mem_of_getElem? (i := 74) rfl)) rfl
set_option maxRecDepth 100000 in
theorem ck_N_readLine : hx_cal hm_N_readLine := ⟨by decide +kernel, cw_N_readLine⟩
set_option maxRecDepth 20000 in
theorem mj_N_readLine : hx_ms[62]? = some hm_N_readLine := rfl
set_option maxRecDepth 100000 in
theorem ok_N_readColour : hx_okO hm_N_readColour = true := hq_okO (by decide +kernel)
theorem cw_N_readColour : Cond.code (hx_y hm_N_readColour) (hx_b hm_N_readColour) (hx_L hm_N_readColour) (hx_ret hm_N_readColour) ∈ hx_T := hx_T_in (hx_ch_in tables_1_3 (List.mem_of_getElem? (i := 3) rfl) _ (List.mem_of_getElem? (i := 81) rfl)) rfl
set_option maxRecDepth 100000 in
theorem ck_N_readColour : hx_cal hm_N_readColour := ⟨by decide +kernel, cw_N_readColour⟩
set_option maxRecDepth 20000 in
theorem mj_N_readColour : hx_ms[63]? = some hm_N_readColour := rfl
set_option maxRecDepth 100000 in
theorem ok_T_place : hx_okO hm_T_place = true := hq_okO (by decide +kernel)
theorem cw_T_place : Cond.code (hx_y hm_T_place) (hx_b hm_T_place) (hx_L hm_T_place) (hx_ret hm_T_place) ∈ hx_T := hx_T_in (hx_ch_in tables_1_3 (List.mem_of_getElem? (i := 3) rfl) _ (List.mem_of_getElem? (i := 85) rfl)) rfl
set_option maxRecDepth 100000 in
theorem ck_T_place : hx_cal hm_T_place := ⟨by decide +kernel, cw_T_place⟩
set_option maxRecDepth 20000 in
theorem mj_T_place : hx_ms[64]? = some hm_T_place := rfl
set_option maxRecDepth 100000 in
theorem ok_T_failAt : hx_okO hm_T_failAt = true := hq_okO (by decide +kernel)
theorem cw_T_failAt : Cond.code (hx_y hm_T_failAt) (hx_b hm_T_failAt) (hx_L hm_T_failAt) (hx_ret hm_T_failAt) ∈ hx_T := hx_T_in (hx_ch_in tables_1_3 (List.mem_of_getElem? (i := 3) rfl) _ (List.mem_of_getElem? (i := 90) rfl)) rfl
set_option maxRecDepth 100000 in
theorem ck_T_failAt : hx_cal hm_T_failAt := ⟨by decide +kernel, cw_T_failAt⟩
set_option maxRecDepth 20000 in
theorem mj_T_failAt : hx_ms[65]? = some hm_T_failAt := rfl
set_option maxRecDepth 100000 in
theorem ok_N_readQuarters : hx_okO hm_N_readQuarters = true := hq_okO (by decide +kernel)
theorem cw_N_readQuarters : Cond.code (hx_y hm_N_readQuarters) (hx_b hm_N_readQuarters) (hx_L hm_N_readQuarters) (hx_ret hm_N_readQuarters) ∈ hx_T := hx_T_in (hx_ch_in tables_1_3 (List.mem_of_getElem? (i := 3) rfl) _ (List.mem_of_getElem? (i := 95) rfl)) rfl
set_option maxRecDepth 100000 in
theorem ck_N_readQuarters : hx_cal hm_N_readQuarters := ⟨by decide +kernel, cw_N_readQuarters⟩
set_option maxRecDepth 20000 in
theorem mj_N_readQuarters : hx_ms[66]? = some hm_N_readQuarters := rfl
set_option maxRecDepth 100000 in
theorem ok_N_readSign : hx_okO hm_N_readSign = true := hq_okO (by decide +kernel)
theorem cw_N_readSign : Cond.code (hx_y hm_N_readSign) (hx_b hm_N_readSign) (hx_L hm_N_readSign) (hx_ret hm_N_readSign) ∈ hx_T := hx_T_in (hx_ch_in tables_1_3 (List.mem_of_getElem? (i := 3) rfl) _ (List.mem_of_getElem? (i := 100) rfl)) rfl
set_option maxRecDepth 100000 in
theorem ck_N_readSign : hx_cal hm_N_readSign := ⟨by decide +kernel, cw_N_readSign⟩
set_option maxRecDepth 20000 in
theorem mj_N_readSign : hx_ms[67]? = some hm_N_readSign := rfl
set_option maxRecDepth 100000 in
theorem ok_N_readEmpire : hx_okO hm_N_readEmpire = true := hq_okO (by decide +kernel)
theorem cw_N_readEmpire : Cond.code (hx_y hm_N_readEmpire) (hx_b hm_N_readEmpire) (hx_L hm_N_readEmpire) (hx_ret hm_N_readEmpire) ∈ hx_T := hx_T_in (hx_ch_in tables_1_3 (List.mem_of_getElem? (i := 3) rfl) _ (List.mem_of_getElem? (i := 104) rfl)) rfl
set_option maxRecDepth 100000 in
theorem ck_N_readEmpire : hx_cal hm_N_readEmpire := ⟨by decide +kernel, cw_N_readEmpire⟩
set_option maxRecDepth 20000 in
theorem mj_N_readEmpire : hx_ms[68]? = some hm_N_readEmpire := rfl
set_option maxRecDepth 100000 in
theorem ok_W_isEmpire : hx_okO hm_W_isEmpire = true := hq_okO (by decide +kernel)
theorem cw_W_isEmpire : Cond.code (hx_y hm_W_isEmpire) (hx_b hm_W_isEmpire) (hx_L hm_W_isEmpire) (hx_ret hm_W_isEmpire) ∈ hx_T := hx_T_in (hx_ch_in tables_1_3 (List.mem_of_getElem? (i := 3) rfl) _ (List.mem_of_getElem? (i := 107) rfl)) rfl
set_option maxRecDepth 100000 in
theorem ck_W_isEmpire : hx_cal hm_W_isEmpire := ⟨by decide +kernel, cw_W_isEmpire⟩
set_option maxRecDepth 20000 in
theorem mj_W_isEmpire : hx_ms[69]? = some hm_W_isEmpire := rfl
set_option maxRecDepth 100000 in
theorem ok_N_length : hx_okO hm_N_length = true := hq_okO (by decide +kernel)
theorem cw_N_length : Cond.code (hx_y hm_N_length) (hx_b hm_N_length) (hx_L hm_N_length) (hx_ret hm_N_length) ∈ hx_T := hx_T_in (hx_ch_in tables_1_3 (List.mem_of_getElem? (i := 3) rfl) _ (List.mem_of_getElem? (i := 113) rfl)) rfl
set_option maxRecDepth 100000 in
theorem ck_N_length : hx_cal hm_N_length := ⟨by decide +kernel, cw_N_length⟩
set_option maxRecDepth 20000 in
theorem mj_N_length : hx_ms[70]? = some hm_N_length := rfl
set_option maxRecDepth 100000 in
theorem ok_W_isMade : hx_okO hm_W_isMade = true := hq_okO (by decide +kernel)
theorem cw_W_isMade : Cond.code (hx_y hm_W_isMade) (hx_b hm_W_isMade) (hx_L hm_W_isMade) (hx_ret hm_W_isMade) ∈ hx_T := hx_T_in (hx_ch_in tables_1_3 (List.mem_of_getElem? (i := 3) rfl) _ (List.mem_of_getElem? (i := 117) rfl)) rfl
set_option maxRecDepth 100000 in
theorem ck_W_isMade : hx_cal hm_W_isMade := ⟨by decide +kernel, cw_W_isMade⟩
set_option maxRecDepth 20000 in
theorem mj_W_isMade : hx_ms[71]? = some hm_W_isMade := rfl
set_option maxRecDepth 100000 in
theorem ok_N_hue : hx_okO hm_N_hue = true := hq_okO (by decide +kernel)
theorem cw_N_hue : Cond.code (hx_y hm_N_hue) (hx_b hm_N_hue) (hx_L hm_N_hue) (hx_ret hm_N_hue) ∈ hx_T := hx_T_in (hx_ch_in tables_1_3 (List.mem_of_getElem? (i := 3) rfl) _ (List.mem_of_getElem? (i := 121) rfl)) rfl
set_option maxRecDepth 100000 in
theorem ck_N_hue : hx_cal hm_N_hue := ⟨by decide +kernel, cw_N_hue⟩
set_option maxRecDepth 20000 in
theorem mj_N_hue : hx_ms[72]? = some hm_N_hue := rfl
set_option maxRecDepth 100000 in
theorem ok_N_quarters : hx_okO hm_N_quarters = true := hq_okO (by decide +kernel)
theorem cw_N_quarters : Cond.code (hx_y hm_N_quarters) (hx_b hm_N_quarters) (hx_L hm_N_quarters) (hx_ret hm_N_quarters) ∈ hx_T := hx_T_in (hx_ch_in tables_1_3 (List.mem_of_getElem? (i := 3) rfl) _ (List.mem_of_getElem? (i := 126) rfl)) rfl
set_option maxRecDepth 100000 in
theorem ck_N_quarters : hx_cal hm_N_quarters := ⟨by decide +kernel, cw_N_quarters⟩
set_option maxRecDepth 20000 in
theorem mj_N_quarters : hx_ms[73]? = some hm_N_quarters := rfl
set_option maxRecDepth 100000 in
theorem ok_N_giver : hx_okO hm_N_giver = true := hq_okO (by decide +kernel)
theorem cw_N_giver : Cond.code (hx_y hm_N_giver) (hx_b hm_N_giver) (hx_L hm_N_giver) (hx_ret hm_N_giver) ∈ hx_T := hx_T_in (hx_ch_in tables_1_3 (List.mem_of_getElem? (i := 3) rfl) _ (List.mem_of_getElem? (i := 130) rfl)) rfl
set_option maxRecDepth 100000 in
theorem ck_N_giver : hx_cal hm_N_giver := ⟨by decide +kernel, cw_N_giver⟩
set_option maxRecDepth 20000 in
theorem mj_N_giver : hx_ms[74]? = some hm_N_giver := rfl
set_option maxRecDepth 100000 in
theorem ok_N_other : hx_okO hm_N_other = true := hq_okO (by decide +kernel)
theorem cw_N_other : Cond.code (hx_y hm_N_other) (hx_b hm_N_other) (hx_L hm_N_other) (hx_ret hm_N_other) ∈ hx_T := hx_T_in (hx_ch_in tables_1_3 (List.mem_of_getElem? (i := 3) rfl) _ (List.mem_of_getElem? (i := 134) rfl)) rfl
set_option maxRecDepth 100000 in
theorem ck_N_other : hx_cal hm_N_other := ⟨by decide +kernel, cw_N_other⟩
set_option maxRecDepth 20000 in
theorem mj_N_other : hx_ms[75]? = some hm_N_other := rfl
set_option maxRecDepth 100000 in
theorem ok_N_isShared : hx_okO hm_N_isShared = true := hq_okO (by decide +kernel)
theorem cw_N_isShared : Cond.code (hx_y hm_N_isShared) (hx_b hm_N_isShared) (hx_L hm_N_isShared) (hx_ret hm_N_isShared) ∈ hx_T := hx_T_in (hx_ch_in tables_1_3 (List.mem_of_getElem? (i := 3) rfl) _ (List.mem_of_getElem? (i := 138) rfl)) rfl
set_option maxRecDepth 100000 in
theorem ck_N_isShared : hx_cal hm_N_isShared := ⟨by decide +kernel, cw_N_isShared⟩
set_option maxRecDepth 20000 in
theorem mj_N_isShared : hx_ms[76]? = some hm_N_isShared := rfl
set_option maxRecDepth 100000 in
theorem ok_S_isMade : hx_okO hm_S_isMade = true := hq_okO (by decide +kernel)
theorem cw_S_isMade : Cond.code (hx_y hm_S_isMade) (hx_b hm_S_isMade) (hx_L hm_S_isMade) (hx_ret hm_S_isMade) ∈ hx_T := hx_T_in (hx_ch_in tables_1_3 (List.mem_of_getElem? (i := 3) rfl) _ (List.mem_of_getElem? (i := 142) rfl)) rfl
set_option maxRecDepth 100000 in
theorem ck_S_isMade : hx_cal hm_S_isMade := ⟨by decide +kernel, cw_S_isMade⟩
set_option maxRecDepth 20000 in
theorem mj_S_isMade : hx_ms[77]? = some hm_S_isMade := rfl
set_option maxRecDepth 100000 in
theorem ok_S_canGo : hx_okO hm_S_canGo = true := hq_okO (by decide +kernel)
theorem cw_S_canGo : Cond.code (hx_y hm_S_canGo) (hx_b hm_S_canGo) (hx_L hm_S_canGo) (hx_ret hm_S_canGo) ∈ hx_T := hx_T_in (hx_ch_in tables_1_3 (List.mem_of_getElem? (i := 3) rfl) _ (List.mem_of_getElem? (i := 146) rfl)) rfl
set_option maxRecDepth 100000 in
theorem ck_S_canGo : hx_cal hm_S_canGo := ⟨by decide +kernel, cw_S_canGo⟩
set_option maxRecDepth 20000 in
theorem mj_S_canGo : hx_ms[78]? = some hm_S_canGo := rfl
set_option maxRecDepth 100000 in
theorem ok_S_havers : hx_okO hm_S_havers = true := hq_okO (by decide +kernel)
theorem cw_S_havers : Cond.code (hx_y hm_S_havers) (hx_b hm_S_havers) (hx_L hm_S_havers) (hx_ret hm_S_havers) ∈ hx_T := hx_T_in (hx_ch_in tables_1_3 (List.mem_of_getElem? (i := 3) rfl) _ (List.mem_of_getElem? (i := 150) rfl)) rfl
set_option maxRecDepth 100000 in
theorem ck_S_havers : hx_cal hm_S_havers := ⟨by decide +kernel, cw_S_havers⟩
set_option maxRecDepth 20000 in
theorem mj_S_havers : hx_ms[79]? = some hm_S_havers := rfl
