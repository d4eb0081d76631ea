set_option maxRecDepth 100000 in
theorem ok_S_move : hx_okO hm_S_move = true := hq_okO (by decide +kernel)
theorem cw_S_move : Cond.code (hx_y hm_S_move) (hx_b hm_S_move) (hx_L hm_S_move) (hx_ret hm_S_move) ∈ hx_T := hx_T_in (hx_ch_in tables_1_3 (List.mem_of_getElem? (i := 3) rfl) _ (List.mem_of_getElem? (i := 155) rfl)) rfl
set_option maxRecDepth 100000 in
theorem ck_S_move : hx_cal hm_S_move := ⟨by decide +kernel, cw_S_move⟩
set_option maxRecDepth 20000 in
theorem mj_S_move : hx_ms[80]? = some hm_S_move := rfl
set_option maxRecDepth 100000 in
theorem ok_W_judged : hx_okO hm_W_judged = true := hq_okO (by decide +kernel)
theorem cw_W_judged : Cond.code (hx_y hm_W_judged) (hx_b hm_W_judged) (hx_L hm_W_judged) (hx_ret hm_W_judged) ∈ hx_T := hx_T_in (hx_ch_in tables_1_3 (List.mem_of_getElem? (i := 3) rfl) _ (List.mem_of_getElem? (i := 160) rfl)) rfl
set_option maxRecDepth 100000 in
theorem ck_W_judged : hx_cal hm_W_judged := ⟨by decide +kernel, cw_W_judged⟩
set_option maxRecDepth 20000 in
theorem mj_W_judged : hx_ms[81]? = some hm_W_judged := rfl
set_option maxRecDepth 100000 in
theorem ok_S_copyFrom : hx_okO hm_S_copyFrom = true := hq_okO (by decide +kernel)
theorem cw_S_copyFrom : Cond.code (hx_y hm_S_copyFrom) (hx_b hm_S_copyFrom) (hx_L hm_S_copyFrom) (hx_ret hm_S_copyFrom) ∈ hx_T := hx_T_in (hx_ch_in tables_1_3 (List.mem_of_getElem? (i := 3) rfl) _ (List.mem_of_getElem? (i := 164) rfl)) rfl
set_option maxRecDepth 100000 in
theorem ck_S_copyFrom : hx_cal hm_S_copyFrom := ⟨by decide +kernel, cw_S_copyFrom⟩
set_option maxRecDepth 20000 in
theorem mj_S_copyFrom : hx_ms[82]? = some hm_S_copyFrom := rfl
set_option maxRecDepth 100000 in
theorem ok_W_seed : hx_okO hm_W_seed = true := hq_okO (by decide +kernel)
theorem cw_W_seed : Cond.code (hx_y hm_W_seed) (hx_b hm_W_seed) (hx_L hm_W_seed) (hx_ret hm_W_seed) ∈ hx_T := hx_T_in (hx_ch_in tables_1_3 (List.mem_of_getElem? (i := 3) rfl) _ (List.mem_of_getElem? (i := 169) rfl)) rfl
set_option maxRecDepth 100000 in
theorem ck_W_seed : hx_cal hm_W_seed := ⟨by decide +kernel, cw_W_seed⟩
set_option maxRecDepth 20000 in
theorem mj_W_seed : hx_ms[83]? = some hm_W_seed := rfl
set_option maxRecDepth 100000 in
theorem ok_S_setDraw : hx_okO hm_S_setDraw = true := hq_okO (by decide +kernel)
theorem cw_S_setDraw : Cond.code (hx_y hm_S_setDraw) (hx_b hm_S_setDraw) (hx_L hm_S_setDraw) (hx_ret hm_S_setDraw) ∈ hx_T := hx_T_in (hx_ch_in tables_1_3 (List.mem_of_getElem? (i := 3) rfl) _ (List.mem_of_getElem? (i := 174) rfl)) rfl
set_option maxRecDepth 100000 in
theorem ck_S_setDraw : hx_cal hm_S_setDraw := ⟨by decide +kernel, cw_S_setDraw⟩
set_option maxRecDepth 20000 in
theorem mj_S_setDraw : hx_ms[84]? = some hm_S_setDraw := rfl
set_option maxRecDepth 100000 in
theorem ok_W_days : hx_okO hm_W_days = true := hq_okO (by decide +kernel)
theorem cw_W_days : Cond.code (hx_y hm_W_days) (hx_b hm_W_days) (hx_L hm_W_days) (hx_ret hm_W_days) ∈ hx_T := hx_T_in (hx_ch_in tables_1_3 (List.mem_of_getElem? (i := 3) rfl) _ (List.mem_of_getElem? (i := 178) rfl)) rfl
set_option maxRecDepth 100000 in
theorem ck_W_days : hx_cal hm_W_days := ⟨by decide +kernel, cw_W_days⟩
set_option maxRecDepth 20000 in
theorem mj_W_days : hx_ms[85]? = some hm_W_days := rfl
set_option maxRecDepth 100000 in
theorem ok_W_isDays : hx_okO hm_W_isDays = true := hq_okO (by decide +kernel)
theorem cw_W_isDays : Cond.code (hx_y hm_W_isDays) (hx_b hm_W_isDays) (hx_L hm_W_isDays) (hx_ret hm_W_isDays) ∈ hx_T := hx_T_in (hx_ch_in tables_1_3 (List.mem_of_getElem? (i := 3) rfl) _ (List.mem_of_getElem? (i := 181) rfl)) rfl
set_option maxRecDepth 100000 in
theorem ck_W_isDays : hx_cal hm_W_isDays := ⟨by decide +kernel, cw_W_isDays⟩
set_option maxRecDepth 20000 in
theorem mj_W_isDays : hx_ms[86]? = some hm_W_isDays := rfl
set_option maxRecDepth 100000 in
theorem ok_S_goBy : hx_okO hm_S_goBy = true := hq_okO (by decide +kernel)
theorem cw_S_goBy : Cond.code (hx_y hm_S_goBy) (hx_b hm_S_goBy) (hx_L hm_S_goBy) (hx_ret hm_S_goBy) ∈ hx_T := hx_T_in (hx_ch_in tables_1_3 (List.mem_of_getElem? (i := 3) rfl) _ (List.mem_of_getElem? (i := 185) rfl)) rfl
set_option maxRecDepth 100000 in
theorem ck_S_goBy : hx_cal hm_S_goBy := ⟨by decide +kernel, cw_S_goBy⟩
set_option maxRecDepth 20000 in
theorem mj_S_goBy : hx_ms[87]? = some hm_S_goBy := rfl
set_option maxRecDepth 100000 in
theorem ok_S_goByOnce : hx_okO hm_S_goByOnce = true := hq_okO (by decide +kernel)
theorem cw_S_goByOnce : Cond.code (hx_y hm_S_goByOnce) (hx_b hm_S_goByOnce) (hx_L hm_S_goByOnce) (hx_ret hm_S_goByOnce) ∈ hx_T := hx_T_in (hx_ch_in tables_1_3 (List.mem_of_getElem? (i := 3) rfl) _ (List.mem_of_getElem? (i := 189) rfl)) rfl
set_option maxRecDepth 100000 in
theorem ck_S_goByOnce : hx_cal hm_S_goByOnce := ⟨by decide +kernel, cw_S_goByOnce⟩
set_option maxRecDepth 20000 in
theorem mj_S_goByOnce : hx_ms[88]? = some hm_S_goByOnce := rfl
set_option maxRecDepth 100000 in
theorem ok_S_chance : hx_okO hm_S_chance = true := hq_okO (by decide +kernel)
theorem cw_S_chance : Cond.code (hx_y hm_S_chance) (hx_b hm_S_chance) (hx_L hm_S_chance) (hx_ret hm_S_chance) ∈ hx_T := hx_T_in (hx_ch_in tables_1_3 (List.mem_of_getElem? (i := 3) rfl) _ (List.mem_of_getElem? (i := 194) rfl)) rfl
set_option maxRecDepth 100000 in
theorem ck_S_chance : hx_cal hm_S_chance := ⟨by decide +kernel, cw_S_chance⟩
set_option maxRecDepth 20000 in
theorem mj_S_chance : hx_ms[89]? = some hm_S_chance := rfl
set_option maxRecDepth 100000 in
theorem ok_S_part : hx_okO hm_S_part = true := hq_okO (by decide +kernel)
theorem cw_S_part : Cond.code (hx_y hm_S_part) (hx_b hm_S_part) (hx_L hm_S_part) (hx_ret hm_S_part) ∈ hx_T := hx_T_in (hx_ch_in tables_1_3 (List.mem_of_getElem? (i := 3) rfl) _ (List.mem_of_getElem? (i := 198) rfl)) rfl
set_option maxRecDepth 100000 in
theorem ck_S_part : hx_cal hm_S_part := ⟨by decide +kernel, cw_S_part⟩
set_option maxRecDepth 20000 in
theorem mj_S_part : hx_ms[90]? = some hm_S_part := rfl
set_option maxRecDepth 100000 in
theorem ok_S_lowest : hx_okO hm_S_lowest = true := hq_okO (by decide +kernel)
theorem cw_S_lowest : Cond.code (hx_y hm_S_lowest) (hx_b hm_S_lowest) (hx_L hm_S_lowest) (hx_ret hm_S_lowest) ∈ hx_T := hx_T_in (hx_ch_in tables_1_3 (List.mem_of_getElem? (i := 3) rfl) _ (List.mem_of_getElem? (i := 201) rfl)) rfl
set_option maxRecDepth 100000 in
theorem ck_S_lowest : hx_cal hm_S_lowest := ⟨by decide +kernel, cw_S_lowest⟩
set_option maxRecDepth 20000 in
theorem mj_S_lowest : hx_ms[91]? = some hm_S_lowest := rfl
set_option maxRecDepth 100000 in
theorem ok_J_bitCount : hx_okO hm_J_bitCount = true := hq_okO (by decide +kernel)
theorem cw_J_bitCount : Cond.code (hx_y hm_J_bitCount) (hx_b hm_J_bitCount) (hx_L hm_J_bitCount) (hx_ret hm_J_bitCount) ∈ hx_T := hx_T_in (hx_ch_in tables_1_3 (List.mem_of_getElem? (i := 3) rfl) _ (List.mem_of_getElem? (i := 204) rfl)) rfl
set_option maxRecDepth 100000 in
theorem ck_J_bitCount : hx_cal hm_J_bitCount := ⟨by decide +kernel, cw_J_bitCount⟩
set_option maxRecDepth 20000 in
theorem mj_J_bitCount : hx_ms[92]? = some hm_J_bitCount := rfl
set_option maxRecDepth 100000 in
theorem ok_L_tell : hx_okO hm_L_tell = true := hq_okO (by decide +kernel)
theorem cw_L_tell : Cond.code (hx_y hm_L_tell) (hx_b hm_L_tell) (hx_L hm_L_tell) (hx_ret hm_L_tell) ∈ hx_T := hx_T_in (hx_ch_in tables_1_3 (List.mem_of_getElem? (i := 3) rfl) _ (List.mem_of_getElem? (i := 211) rfl)) rfl
set_option maxRecDepth 100000 in
theorem ck_L_tell : hx_cal hm_L_tell := ⟨by decide +kernel, cw_L_tell⟩
set_option maxRecDepth 20000 in
theorem mj_L_tell : hx_ms[93]? = some hm_L_tell := rfl
set_option maxRecDepth 100000 in
theorem ok_L_tellParts : hx_okO hm_L_tellParts = true := hq_okO (by decide +kernel)
theorem cw_L_tellParts : Cond.code (hx_y hm_L_tellParts) (hx_b hm_L_tellParts) (hx_L hm_L_tellParts) (hx_ret hm_L_tellParts) ∈ hx_T := hx_T_in (hx_ch_in tables_1_3 (List.mem_of_getElem? (i := 3) rfl) _ (List.mem_of_getElem? (i := 215) rfl)) rfl
set_option maxRecDepth 100000 in
theorem ck_L_tellParts : hx_cal hm_L_tellParts := ⟨by decide +kernel, cw_L_tellParts⟩
set_option maxRecDepth 20000 in
theorem mj_L_tellParts : hx_ms[94]? = some hm_L_tellParts := rfl
set_option maxRecDepth 100000 in
theorem ok_L_tellFields : hx_okO hm_L_tellFields = true := hq_okO (by decide +kernel)
theorem cw_L_tellFields : Cond.code (hx_y hm_L_tellFields) (hx_b hm_L_tellFields) (hx_L hm_L_tellFields) (hx_ret hm_L_tellFields) ∈ hx_T := hx_T_in (hx_ch_in tables_1_3 (List.mem_of_getElem? (i := 3) rfl) _ (List.mem_of_getElem? (i := 219) rfl)) rfl
set_option maxRecDepth 100000 in
theorem ck_L_tellFields : hx_cal hm_L_tellFields := ⟨by decide +kernel, cw_L_tellFields⟩
set_option maxRecDepth 20000 in
theorem mj_L_tellFields : hx_ms[95]? = some hm_L_tellFields := rfl
set_option maxRecDepth 100000 in
theorem ok_L_tellAge : hx_okO hm_L_tellAge = true := hq_okO (by decide +kernel)
theorem cw_L_tellAge : Cond.code (hx_y hm_L_tellAge) (hx_b hm_L_tellAge) (hx_L hm_L_tellAge) (hx_ret hm_L_tellAge) ∈ hx_T := hx_T_in (hx_ch_in tables_1_3 (List.mem_of_getElem? (i := 3) rfl) _ (List.mem_of_getElem? (i := 223) rfl)) rfl
set_option maxRecDepth 100000 in
theorem ck_L_tellAge : hx_cal hm_L_tellAge := ⟨by decide +kernel, cw_L_tellAge⟩
set_option maxRecDepth 20000 in
theorem mj_L_tellAge : hx_ms[96]? = some hm_L_tellAge := rfl
set_option maxRecDepth 100000 in
theorem ok_L_amount : hx_okO hm_L_amount = true := hq_okO (by decide +kernel)
theorem cw_L_amount : Cond.code (hx_y hm_L_amount) (hx_b hm_L_amount) (hx_L hm_L_amount) (hx_ret hm_L_amount) ∈ hx_T := hx_T_in (hx_ch_in tables_1_3 (List.mem_of_getElem? (i := 3) rfl) _ (List.mem_of_getElem? (i := 228) rfl)) rfl
set_option maxRecDepth 100000 in
theorem ck_L_amount : hx_cal hm_L_amount := ⟨by decide +kernel, cw_L_amount⟩
set_option maxRecDepth 20000 in
theorem mj_L_amount : hx_ms[97]? = some hm_L_amount := rfl
set_option maxRecDepth 100000 in
theorem ok_L_run : hx_okO hm_L_run = true := hq_okO (by decide +kernel)
theorem cw_L_run : Cond.code (hx_y hm_L_run) (hx_b hm_L_run) (hx_L hm_L_run) (hx_ret hm_L_run) ∈ hx_T := hx_T_in (hx_ch_in tables_1_3 (List.mem_of_getElem? (i := 3) rfl) _ (List.mem_of_getElem? (i := 232) rfl)) rfl
set_option maxRecDepth 100000 in
theorem ck_L_run : hx_cal hm_L_run := ⟨by decide +kernel, cw_L_run⟩
set_option maxRecDepth 20000 in
theorem mj_L_run : hx_ms[98]? = some hm_L_run := rfl
set_option maxRecDepth 100000 in
theorem ok_L_reckoned : hx_okO hm_L_reckoned = true := hq_okO (by decide +kernel)
theorem cw_L_reckoned : Cond.code (hx_y hm_L_reckoned) (hx_b hm_L_reckoned) (hx_L hm_L_reckoned) (hx_ret hm_L_reckoned) ∈ hx_T := hx_T_in (hx_ch_in tables_1_3 (List.mem_of_getElem? (i := 3) rfl) _ (List.mem_of_getElem? (i := 235) rfl)) rfl
set_option maxRecDepth 100000 in
theorem ck_L_reckoned : hx_cal hm_L_reckoned := ⟨by decide +kernel, cw_L_reckoned⟩
set_option maxRecDepth 20000 in
theorem mj_L_reckoned : hx_ms[99]? = some hm_L_reckoned := rfl
set_option maxRecDepth 100000 in
theorem ok_S_breakTreaty : hx_okO hm_S_breakTreaty = true := hq_okO (by decide +kernel)
theorem cw_S_breakTreaty : Cond.code (hx_y hm_S_breakTreaty) (hx_b hm_S_breakTreaty) (hx_L hm_S_breakTreaty) (hx_ret hm_S_breakTreaty) ∈ hx_T := hx_T_in (hx_ch_in tables_1_4 (List.mem_of_getElem? (i := 4) rfl) _ (List.mem_of_getElem? (i := 3) rfl)) rfl
set_option maxRecDepth 100000 in
theorem ck_S_breakTreaty : hx_cal hm_S_breakTreaty := ⟨by decide +kernel, cw_S_breakTreaty⟩
set_option maxRecDepth 20000 in
theorem mj_S_breakTreaty : hx_ms[100]? = some hm_S_breakTreaty := rfl
set_option maxRecDepth 100000 in
theorem ok_W_tried : hx_okO hm_W_tried = true := hq_okO (by decide +kernel)
theorem cw_W_tried : Cond.code (hx_y hm_W_tried) (hx_b hm_W_tried) (hx_L hm_W_tried) (hx_ret hm_W_tried) ∈ hx_T := hx_T_in (hx_ch_in tables_1_4 (List.mem_of_getElem? (i := 4) rfl) _ (List.mem_of_getElem? (i := 7) rfl)) rfl
set_option maxRecDepth 100000 in
theorem ck_W_tried : hx_cal hm_W_tried := ⟨by decide +kernel, cw_W_tried⟩
set_option maxRecDepth 20000 in
theorem mj_W_tried : hx_ms[101]? = some hm_W_tried := rfl
set_option maxRecDepth 100000 in
theorem ok_S_firstBreakDay : hx_okO hm_S_firstBreakDay = true := hq_okO (by decide +kernel)
theorem cw_S_firstBreakDay : Cond.code (hx_y hm_S_firstBreakDay) (hx_b hm_S_firstBreakDay) (hx_L hm_S_firstBreakDay) (hx_ret hm_S_firstBreakDay) ∈ hx_T := hx_T_in (hx_ch_in tables_1_4 (List.mem_of_getElem? (i := 4) rfl) _ (List.mem_of_getElem? (i := 11) rfl)) rfl
set_option maxRecDepth 100000 in
theorem ck_S_firstBreakDay : hx_cal hm_S_firstBreakDay := ⟨by decide +kernel, cw_S_firstBreakDay⟩
set_option maxRecDepth 20000 in
theorem mj_S_firstBreakDay : hx_ms[102]? = some hm_S_firstBreakDay := rfl
set_option maxRecDepth 100000 in
theorem ok_S_firstBreaker : hx_okO hm_S_firstBreaker = true := hq_okO (by decide +kernel)
theorem cw_S_firstBreaker : Cond.code (hx_y hm_S_firstBreaker) (hx_b hm_S_firstBreaker) (hx_L hm_S_firstBreaker) (hx_ret hm_S_firstBreaker) ∈ hx_T := hx_T_in (hx_ch_in tables_1_4 (List.mem_of_getElem? (i := 4) rfl) _ (List.mem_of_getElem? (i := 15) rfl)) rfl
set_option maxRecDepth 100000 in
theorem ck_S_firstBreaker : hx_cal hm_S_firstBreaker := ⟨by decide +kernel, cw_S_firstBreaker⟩
set_option maxRecDepth 20000 in
theorem mj_S_firstBreaker : hx_ms[103]? = some hm_S_firstBreaker := rfl
set_option maxRecDepth 100000 in
theorem ok_S_quartersHad : hx_okO hm_S_quartersHad = true := hq_okO (by decide +kernel)
theorem cw_S_quartersHad : Cond.code (hx_y hm_S_quartersHad) (hx_b hm_S_quartersHad) (hx_L hm_S_quartersHad) (hx_ret hm_S_quartersHad) ∈ hx_T := hx_T_in (hx_ch_in tables_1_4 (List.mem_of_getElem? (i := 4) rfl) _ (List.mem_of_getElem? (i := 19) rfl)) rfl
set_option maxRecDepth 100000 in
theorem ck_S_quartersHad : hx_cal hm_S_quartersHad := ⟨by decide +kernel, cw_S_quartersHad⟩
set_option maxRecDepth 20000 in
theorem mj_S_quartersHad : hx_ms[104]? = some hm_S_quartersHad := rfl
set_option maxRecDepth 100000 in
theorem ok_W_treatyIs : hx_okO hm_W_treatyIs = true := hq_okO (by decide +kernel)
theorem cw_W_treatyIs : Cond.code (hx_y hm_W_treatyIs) (hx_b hm_W_treatyIs) (hx_L hm_W_treatyIs) (hx_ret hm_W_treatyIs) ∈ hx_T := hx_T_in (hx_ch_in tables_1_4 (List.mem_of_getElem? (i := 4) rfl) _ (List.mem_of_getElem? (i := 23) rfl)) rfl
set_option maxRecDepth 100000 in
theorem ck_W_treatyIs : hx_cal hm_W_treatyIs := ⟨by decide +kernel, cw_W_treatyIs⟩
set_option maxRecDepth 20000 in
theorem mj_W_treatyIs : hx_ms[105]? = some hm_W_treatyIs := rfl
set_option maxRecDepth 100000 in
theorem ok_S_treatyCount : hx_okO hm_S_treatyCount = true := hq_okO (by decide +kernel)
theorem cw_S_treatyCount : Cond.code (hx_y hm_S_treatyCount) (hx_b hm_S_treatyCount) (hx_L hm_S_treatyCount) (hx_ret hm_S_treatyCount) ∈ hx_T := hx_T_in (hx_ch_in tables_1_4 (List.mem_of_getElem? (i := 4) rfl) _ (List.mem_of_getElem? (i := 27) rfl)) rfl
set_option maxRecDepth 100000 in
theorem ck_S_treatyCount : hx_cal hm_S_treatyCount := ⟨by decide +kernel, cw_S_treatyCount⟩
set_option maxRecDepth 20000 in
theorem mj_S_treatyCount : hx_ms[106]? = some hm_S_treatyCount := rfl
set_option maxRecDepth 100000 in
theorem ok_W_keep : hx_okO hm_W_keep = true := hq_okO (by decide +kernel)
theorem cw_W_keep : Cond.code (hx_y hm_W_keep) (hx_b hm_W_keep) (hx_L hm_W_keep) (hx_ret hm_W_keep) ∈ hx_T := hx_T_in (hx_ch_in tables_1_4 (List.mem_of_getElem? (i := 4) rfl) _ (List.mem_of_getElem? (i := 32) rfl)) rfl
set_option maxRecDepth 100000 in
theorem ck_W_keep : hx_cal hm_W_keep := ⟨by decide +kernel, cw_W_keep⟩
set_option maxRecDepth 20000 in
theorem mj_W_keep : hx_ms[107]? = some hm_W_keep := rfl
set_option maxRecDepth 100000 in
theorem ok_W_undo : hx_okO hm_W_undo = true := hq_okO (by decide +kernel)
theorem cw_W_undo : Cond.code (hx_y hm_W_undo) (hx_b hm_W_undo) (hx_L hm_W_undo) (hx_ret hm_W_undo) ∈ hx_T := hx_T_in (hx_ch_in tables_1_4 (List.mem_of_getElem? (i := 4) rfl) _ (List.mem_of_getElem? (i := 36) rfl)) rfl
set_option maxRecDepth 100000 in
theorem ck_W_undo : hx_cal hm_W_undo := ⟨by decide +kernel, cw_W_undo⟩
set_option maxRecDepth 20000 in
theorem mj_W_undo : hx_ms[108]? = some hm_W_undo := rfl
set_option maxRecDepth 100000 in
theorem ok_W_check : hx_okO hm_W_check = true := hq_okO (by decide +kernel)
theorem cw_W_check : Cond.code (hx_y hm_W_check) (hx_b hm_W_check) (hx_L hm_W_check) (hx_ret hm_W_check) ∈ hx_T := hx_T_in (hx_ch_in tables_1_4 (List.mem_of_getElem? (i := 4) rfl) _ (List.mem_of_getElem? (i := 40) rfl)) rfl
set_option maxRecDepth 100000 in
theorem ck_W_check : hx_cal hm_W_check := ⟨by decide +kernel, cw_W_check⟩
set_option maxRecDepth 20000 in
theorem mj_W_check : hx_ms[109]? = some hm_W_check := rfl
set_option maxRecDepth 100000 in
theorem ok_T_number : hx_okO hm_T_number = true := hq_okO (by decide +kernel)
theorem cw_T_number : Cond.code (hx_y hm_T_number) (hx_b hm_T_number) (hx_L hm_T_number) (hx_ret hm_T_number) ∈ hx_T := hx_T_in (hx_ch_in tables_1_4 (List.mem_of_getElem? (i := 4) rfl) _ (List.mem_of_getElem? (i := 44) rfl)) rfl
set_option maxRecDepth 100000 in
theorem ck_T_number : hx_cal hm_T_number := ⟨by decide +kernel, cw_T_number⟩
set_option maxRecDepth 20000 in
theorem mj_T_number : hx_ms[110]? = some hm_T_number := rfl
set_option maxRecDepth 100000 in
theorem ok_T_at : hx_okO hm_T_at = true := hq_okO (by decide +kernel)
theorem cw_T_at : Cond.code (hx_y hm_T_at) (hx_b hm_T_at) (hx_L hm_T_at) (hx_ret hm_T_at) ∈ hx_T := hx_T_in (hx_ch_in tables_1_4 (List.mem_of_getElem? (i := 4) rfl) _ (List.mem_of_getElem? (i := 48) rfl)) rfl
set_option maxRecDepth 100000 in
theorem ck_T_at : hx_cal hm_T_at := ⟨by decide +kernel, cw_T_at⟩
set_option maxRecDepth 20000 in
theorem mj_T_at : hx_ms[111]? = some hm_T_at := rfl
set_option maxRecDepth 100000 in
theorem ok_S_ownerOf : hx_okO hm_S_ownerOf = true := hq_okO (by decide +kernel)
theorem cw_S_ownerOf : Cond.code (hx_y hm_S_ownerOf) (hx_b hm_S_ownerOf) (hx_L hm_S_ownerOf) (hx_ret hm_S_ownerOf) ∈ hx_T := hx_T_in (hx_ch_in tables_1_4 (List.mem_of_getElem? (i := 4) rfl) _ (List.mem_of_getElem? (i := 52) rfl)) rfl
set_option maxRecDepth 100000 in
theorem ck_S_ownerOf : hx_cal hm_S_ownerOf := ⟨by decide +kernel, cw_S_ownerOf⟩
set_option maxRecDepth 20000 in
theorem mj_S_ownerOf : hx_ms[112]? = some hm_S_ownerOf := rfl
set_option maxRecDepth 100000 in
theorem ok_W_sees : hx_okO hm_W_sees = true := hq_okO (by decide +kernel)
theorem cw_W_sees : Cond.code (hx_y hm_W_sees) (hx_b hm_W_sees) (hx_L hm_W_sees) (hx_ret hm_W_sees) ∈ hx_T := hx_T_in (hx_ch_in tables_1_4 (List.mem_of_getElem? (i := 4) rfl) _ (List.mem_of_getElem? (i := 56) rfl)) rfl
set_option maxRecDepth 100000 in
theorem ck_W_sees : hx_cal hm_W_sees := ⟨by decide +kernel, cw_W_sees⟩
set_option maxRecDepth 20000 in
theorem mj_W_sees : hx_ms[113]? = some hm_W_sees := rfl
set_option maxRecDepth 100000 in
theorem ok_E_seen : hx_okO hm_E_seen = true := hq_okO (by decide +kernel)
theorem cw_E_seen : Cond.code (hx_y hm_E_seen) (hx_b hm_E_seen) (hx_L hm_E_seen) (hx_ret hm_E_seen) ∈ hx_T := hx_T_in (hx_ch_in tables_1_4 (List.mem_of_getElem? (i := 4) rfl) _ (List.mem_of_getElem? (i := 62) rfl)) rfl
set_option maxRecDepth 100000 in
theorem ck_E_seen : hx_cal hm_E_seen := ⟨by decide +kernel, cw_E_seen⟩
set_option maxRecDepth 20000 in
theorem mj_E_seen : hx_ms[114]? = some hm_E_seen := rfl
set_option maxRecDepth 100000 in
theorem ok_S_had : hx_okO hm_S_had = true := hq_okO (by decide +kernel)
theorem cw_S_had : Cond.code (hx_y hm_S_had) (hx_b hm_S_had) (hx_L hm_S_had) (hx_ret hm_S_had) ∈ hx_T := hx_T_in (hx_ch_in tables_1_4 (List.mem_of_getElem? (i := 4) rfl) _ (List.mem_of_getElem? (i := 66) rfl)) rfl
set_option maxRecDepth 100000 in
theorem ck_S_had : hx_cal hm_S_had := ⟨by decide +kernel, cw_S_had⟩
set_option maxRecDepth 20000 in
theorem mj_S_had : hx_ms[115]? = some hm_S_had := rfl
set_option maxRecDepth 100000 in
theorem ok_E_seenWith : hx_okO hm_E_seenWith = true := hq_okO (by decide +kernel)
theorem cw_E_seenWith : Cond.code (hx_y hm_E_seenWith) (hx_b hm_E_seenWith) (hx_L hm_E_seenWith) (hx_ret hm_E_seenWith) ∈ hx_T := hx_T_in (hx_ch_in tables_1_4 (List.mem_of_getElem? (i := 4) rfl) _ (List.mem_of_getElem? (i := 70) rfl)) rfl
set_option maxRecDepth 100000 in
theorem ck_E_seenWith : hx_cal hm_E_seenWith := ⟨by decide +kernel, cw_E_seenWith⟩
set_option maxRecDepth 20000 in
theorem mj_E_seenWith : hx_ms[116]? = some hm_E_seenWith := rfl
set_option maxRecDepth 100000 in
theorem ok_L_hasKind : hx_okO hm_L_hasKind = true := hq_okO (by decide +kernel)
theorem cw_L_hasKind : Cond.code (hx_y hm_L_hasKind) (hx_b hm_L_hasKind) (hx_L hm_L_hasKind) (hx_ret hm_L_hasKind) ∈ hx_T := hx_T_in (hx_ch_in tables_1_4 (List.mem_of_getElem? (i := 4) rfl) _ (List.mem_of_getElem? (i := 74) rfl)) rfl
set_option maxRecDepth 100000 in
theorem ck_L_hasKind : hx_cal hm_L_hasKind := ⟨by decide +kernel, cw_L_hasKind⟩
set_option maxRecDepth 20000 in
theorem mj_L_hasKind : hx_ms[117]? = some hm_L_hasKind := rfl
set_option maxRecDepth 100000 in
theorem ok_P_first : hx_okO hm_P_first = true := hq_okO (by decide +kernel)
theorem cw_P_first : Cond.code (hx_y hm_P_first) (hx_b hm_P_first) (hx_L hm_P_first) (hx_ret hm_P_first) ∈ hx_T := hx_T_in (hx_ch_in tables_1_4 (List.mem_of_getElem? (i := 4) rfl) _ (List.mem_of_getElem? (i := 79) rfl)) rfl
set_option maxRecDepth 100000 in
theorem ck_P_first : hx_cal hm_P_first := ⟨by decide +kernel, cw_P_first⟩
set_option maxRecDepth 20000 in
theorem mj_P_first : hx_ms[118]? = some hm_P_first := rfl
set_option maxRecDepth 100000 in
theorem ok_P_second : hx_okO hm_P_second = true := hq_okO (by decide +kernel)
theorem cw_P_second : Cond.code (hx_y hm_P_second) (hx_b hm_P_second) (hx_L hm_P_second) (hx_ret hm_P_second) ∈ hx_T := hx_T_in (hx_ch_in tables_1_4 (List.mem_of_getElem? (i := 4) rfl) _ (List.mem_of_getElem? (i := 84) rfl)) rfl
set_option maxRecDepth 100000 in
theorem ck_P_second : hx_cal hm_P_second := ⟨by decide +kernel, cw_P_second⟩
set_option maxRecDepth 20000 in
theorem mj_P_second : hx_ms[119]? = some hm_P_second := rfl
set_option maxRecDepth 100000 in
theorem ok_S_day : hx_okO hm_S_day = true := hq_okO (by decide +kernel)
theorem cw_S_day : Cond.code (hx_y hm_S_day) (hx_b hm_S_day) (hx_L hm_S_day) (hx_ret hm_S_day) ∈ hx_T := hx_T_in (hx_ch_in tables_1_4 (List.mem_of_getElem? (i := 4) rfl) _ (List.mem_of_getElem? (i := 88) rfl)) rfl
set_option maxRecDepth 100000 in
theorem ck_S_day : hx_cal hm_S_day := ⟨by decide +kernel, cw_S_day⟩
set_option maxRecDepth 20000 in
theorem mj_S_day : hx_ms[120]? = some hm_S_day := rfl
set_option maxRecDepth 100000 in
theorem ok_L_holds : hx_okO hm_L_holds = true := hq_okO (by decide +kernel)
theorem cw_L_holds : Cond.code (hx_y hm_L_holds) (hx_b hm_L_holds) (hx_L hm_L_holds) (hx_ret hm_L_holds) ∈ hx_T := hx_T_in (hx_ch_in tables_1_4 (List.mem_of_getElem? (i := 4) rfl) _ (List.mem_of_getElem? (i := 94) rfl)) rfl
set_option maxRecDepth 100000 in
theorem ck_L_holds : hx_cal hm_L_holds := ⟨by decide +kernel, cw_L_holds⟩
set_option maxRecDepth 20000 in
theorem mj_L_holds : hx_ms[121]? = some hm_L_holds := rfl
set_option maxRecDepth 100000 in
theorem ok_W_appears : hx_okO hm_W_appears = true := hq_okO (by decide +kernel)
theorem cw_W_appears : Cond.code (hx_y hm_W_appears) (hx_b hm_W_appears) (hx_L hm_W_appears) (hx_ret hm_W_appears) ∈ hx_T := hx_T_in (hx_ch_in tables_1_4 (List.mem_of_getElem? (i := 4) rfl) _ (List.mem_of_getElem? (i := 99) rfl)) rfl
set_option maxRecDepth 100000 in
theorem ck_W_appears : hx_cal hm_W_appears := ⟨by decide +kernel, cw_W_appears⟩
set_option maxRecDepth 20000 in
theorem mj_W_appears : hx_ms[122]? = some hm_W_appears := rfl
set_option maxRecDepth 100000 in
theorem ok_E_look : hx_okO hm_E_look = true := hq_okO (by decide +kernel)
theorem cw_E_look : Cond.code (hx_y hm_E_look) (hx_b hm_E_look) (hx_L hm_E_look) (hx_ret hm_E_look) ∈ hx_T := hx_T_in (hx_ch_in tables_1_4 (List.mem_of_getElem? (i := 4) rfl) _ (List.mem_of_getElem? (i := 103) rfl)) rfl
set_option maxRecDepth 100000 in
theorem ck_E_look : hx_cal hm_E_look := ⟨by decide +kernel, cw_E_look⟩
set_option maxRecDepth 20000 in
theorem mj_E_look : hx_ms[123]? = some hm_E_look := rfl
set_option maxRecDepth 100000 in
theorem ok_E_looks : hx_okO hm_E_looks = true := hq_okO (by decide +kernel)
theorem cw_E_looks : Cond.code (hx_y hm_E_looks) (hx_b hm_E_looks) (hx_L hm_E_looks) (hx_ret hm_E_looks) ∈ hx_T := hx_T_in (hx_ch_in tables_1_4 (List.mem_of_getElem? (i := 4) rfl) _ (List.mem_of_getElem? (i := 107) rfl)) rfl
set_option maxRecDepth 100000 in
theorem ck_E_looks : hx_cal hm_E_looks := ⟨by decide +kernel, cw_E_looks⟩
set_option maxRecDepth 20000 in
theorem mj_E_looks : hx_ms[124]? = some hm_E_looks := rfl
set_option maxRecDepth 100000 in
theorem ok_W_child : hx_okO hm_W_child = true := hq_okO (by decide +kernel)
theorem cw_W_child : Cond.code (hx_y hm_W_child) (hx_b hm_W_child) (hx_L hm_W_child) (hx_ret hm_W_child) ∈ hx_T := hx_T_in (hx_ch_in tables_1_4 (List.mem_of_getElem? (i := 4) rfl) _ (List.mem_of_getElem? (i := 113) rfl)) rfl
set_option maxRecDepth 100000 in
theorem ck_W_child : hx_cal hm_W_child := ⟨by decide +kernel, cw_W_child⟩
set_option maxRecDepth 20000 in
theorem mj_W_child : hx_ms[125]? = some hm_W_child := rfl
set_option maxRecDepth 100000 in
theorem ok_E_childSees : hx_okO hm_E_childSees = true := hq_okO (by decide +kernel)
theorem cw_E_childSees : Cond.code (hx_y hm_E_childSees) (hx_b hm_E_childSees) (hx_L hm_E_childSees) (hx_ret hm_E_childSees) ∈ hx_T := hx_T_in (hx_ch_in tables_1_4 (List.mem_of_getElem? (i := 4) rfl) _ (List.mem_of_getElem? (i := 117) rfl)) rfl
set_option maxRecDepth 100000 in
theorem ck_E_childSees : hx_cal hm_E_childSees := ⟨by decide +kernel, cw_E_childSees⟩
set_option maxRecDepth 20000 in
theorem mj_E_childSees : hx_ms[126]? = some hm_E_childSees := rfl
set_option maxRecDepth 100000 in
theorem ok_W_unseen : hx_okO hm_W_unseen = true := hq_okO (by decide +kernel)
theorem cw_W_unseen : Cond.code (hx_y hm_W_unseen) (hx_b hm_W_unseen) (hx_L hm_W_unseen) (hx_ret hm_W_unseen) ∈ hx_T := hx_T_in (hx_ch_in tables_1_4 (List.mem_of_getElem? (i := 4) rfl) _ (List.mem_of_getElem? (i := 124) rfl)) rfl
set_option maxRecDepth 100000 in
theorem ck_W_unseen : hx_cal hm_W_unseen := ⟨by decide +kernel, cw_W_unseen⟩
set_option maxRecDepth 20000 in
theorem mj_W_unseen : hx_ms[127]? = some hm_W_unseen := rfl
set_option maxRecDepth 100000 in
theorem ok_W_isHidden : hx_okO hm_W_isHidden = true := hq_okO (by decide +kernel)
theorem cw_W_isHidden : Cond.code (hx_y hm_W_isHidden) (hx_b hm_W_isHidden) (hx_L hm_W_isHidden) (hx_ret hm_W_isHidden) ∈ hx_T := hx_T_in (hx_ch_in tables_1_4 (List.mem_of_getElem? (i := 4) rfl) _ (List.mem_of_getElem? (i := 128) rfl)) rfl
set_option maxRecDepth 100000 in
theorem ck_W_isHidden : hx_cal hm_W_isHidden := ⟨by decide +kernel, cw_W_isHidden⟩
set_option maxRecDepth 20000 in
theorem mj_W_isHidden : hx_ms[128]? = some hm_W_isHidden := rfl
set_option maxRecDepth 100000 in
theorem ok_G_at : hx_okO hm_G_at = true := hq_okO (by decide +kernel)
theorem cw_G_at : Cond.code (hx_y hm_G_at) (hx_b hm_G_at) (hx_L hm_G_at) (hx_ret hm_G_at) ∈ hx_T := hx_T_in (hx_ch_in tables_1_4 (List.mem_of_getElem? (i := 4) rfl) _ (List.mem_of_getElem? (i := 132) rfl)) rfl
set_option maxRecDepth 100000 in
theorem ck_G_at : hx_cal hm_G_at := ⟨by decide +kernel, cw_G_at⟩
set_option maxRecDepth 20000 in
theorem mj_G_at : hx_ms[129]? = some hm_G_at := rfl
set_option maxRecDepth 100000 in
theorem ok_W_way : hx_okO hm_W_way = true := hq_okO (by decide +kernel)
theorem cw_W_way : Cond.code (hx_y hm_W_way) (hx_b hm_W_way) (hx_L hm_W_way) (hx_ret hm_W_way) ∈ hx_T := hx_T_in (hx_ch_in tables_1_4 (List.mem_of_getElem? (i := 4) rfl) _ (List.mem_of_getElem? (i := 137) rfl)) rfl
set_option maxRecDepth 100000 in
theorem ck_W_way : hx_cal hm_W_way := ⟨by decide +kernel, cw_W_way⟩
set_option maxRecDepth 20000 in
theorem mj_W_way : hx_ms[130]? = some hm_W_way := rfl
set_option maxRecDepth 100000 in
theorem ok_A_mark : hx_okO hm_A_mark = true := hq_okO (by decide +kernel)
theorem cw_A_mark : Cond.code (hx_y hm_A_mark) (hx_b hm_A_mark) (hx_L hm_A_mark) (hx_ret hm_A_mark) ∈ hx_T := hx_T_in (hx_ch_in tables_1_4 (List.mem_of_getElem? (i := 4) rfl) _ (List.mem_of_getElem? (i := 141) rfl)) rfl
set_option maxRecDepth 100000 in
theorem ck_A_mark : hx_cal hm_A_mark := ⟨by decide +kernel, cw_A_mark⟩
set_option maxRecDepth 20000 in
theorem mj_A_mark : hx_ms[131]? = some hm_A_mark := rfl
set_option maxRecDepth 100000 in
theorem ok_A_search : hx_okO hm_A_search = true := hq_okO (by decide +kernel)
theorem cw_A_search : Cond.code (hx_y hm_A_search) (hx_b hm_A_search) (hx_L hm_A_search) (hx_ret hm_A_search) ∈ hx_T := hx_T_in (hx_ch_in tables_1_4 (List.mem_of_getElem? (i := 4) rfl) _ (List.mem_of_getElem? (i := 146) rfl)) rfl
set_option maxRecDepth 100000 in
theorem ck_A_search : hx_cal hm_A_search := ⟨by decide +kernel, cw_A_search⟩
set_option maxRecDepth 20000 in
theorem mj_A_search : hx_ms[132]? = some hm_A_search := rfl
set_option maxRecDepth 100000 in
theorem ok_A_forget : hx_okO hm_A_forget = true := hq_okO (by decide +kernel)
theorem cw_A_forget : Cond.code (hx_y hm_A_forget) (hx_b hm_A_forget) (hx_L hm_A_forget) (hx_ret hm_A_forget) ∈ hx_T := hx_T_in (hx_ch_in tables_1_4 (List.mem_of_getElem? (i := 4) rfl) _ (List.mem_of_getElem? (i := 150) rfl)) rfl
set_option maxRecDepth 100000 in
theorem ck_A_forget : hx_cal hm_A_forget := ⟨by decide +kernel, cw_A_forget⟩
set_option maxRecDepth 20000 in
theorem mj_A_forget : hx_ms[133]? = some hm_A_forget := rfl
set_option maxRecDepth 100000 in
theorem ok_A_nearest : hx_okO hm_A_nearest = true := hq_okO (by decide +kernel)
theorem cw_A_nearest : Cond.code (hx_y hm_A_nearest) (hx_b hm_A_nearest) (hx_L hm_A_nearest) (hx_ret hm_A_nearest) ∈ hx_T := hx_T_in (hx_ch_in tables_1_4 (List.mem_of_getElem? (i := 4) rfl) _ (List.mem_of_getElem? (i := 155) rfl)) rfl
set_option maxRecDepth 100000 in
theorem ck_A_nearest : hx_cal hm_A_nearest := ⟨by decide +kernel, cw_A_nearest⟩
set_option maxRecDepth 20000 in
theorem mj_A_nearest : hx_ms[134]? = some hm_A_nearest := rfl
set_option maxRecDepth 100000 in
theorem ok_A_leave : hx_okO hm_A_leave = true := hq_okO (by decide +kernel)
theorem cw_A_leave : Cond.code (hx_y hm_A_leave) (hx_b hm_A_leave) (hx_L hm_A_leave) (hx_ret hm_A_leave) ∈ hx_T := hx_T_in (hx_ch_in tables_1_4 (List.mem_of_getElem? (i := 4) rfl) _ (List.mem_of_getElem? (i := 159) rfl)) rfl
set_option maxRecDepth 100000 in
theorem ck_A_leave : hx_cal hm_A_leave := ⟨by decide +kernel, cw_A_leave⟩
set_option maxRecDepth 20000 in
theorem mj_A_leave : hx_ms[135]? = some hm_A_leave := rfl
set_option maxRecDepth 100000 in
theorem ok_A_beside : hx_okO hm_A_beside = true := hq_okO (by decide +kernel)
theorem cw_A_beside : Cond.code (hx_y hm_A_beside) (hx_b hm_A_beside) (hx_L hm_A_beside) (hx_ret hm_A_beside) ∈ hx_T := hx_T_in (hx_ch_in tables_1_4 (List.mem_of_getElem? (i := 4) rfl) _ (List.mem_of_getElem? (i := 162) rfl)) rfl
set_option maxRecDepth 100000 in
theorem ck_A_beside : hx_cal hm_A_beside := ⟨by decide +kernel, cw_A_beside⟩
set_option maxRecDepth 20000 in
theorem mj_A_beside : hx_ms[136]? = some hm_A_beside := rfl
set_option maxRecDepth 100000 in
theorem ok_A_watchedTo : hx_okO hm_A_watchedTo = true := hq_okO (by decide +kernel)
theorem cw_A_watchedTo : Cond.code (hx_y hm_A_watchedTo) (hx_b hm_A_watchedTo) (hx_L hm_A_watchedTo) (hx_ret hm_A_watchedTo) ∈ hx_T := hx_T_in (hx_ch_in tables_1_4 (List.mem_of_getElem? (i := 4) rfl) _ (List.mem_of_getElem? (i := 167) rfl)) rfl
set_option maxRecDepth 100000 in
theorem ck_A_watchedTo : hx_cal hm_A_watchedTo := ⟨by decide +kernel, cw_A_watchedTo⟩
set_option maxRecDepth 20000 in
theorem mj_A_watchedTo : hx_ms[137]? = some hm_A_watchedTo := rfl
set_option maxRecDepth 100000 in
theorem ok_A_stepsTo : hx_okO hm_A_stepsTo = true := hq_okO (by decide +kernel)
theorem cw_A_stepsTo : Cond.code (hx_y hm_A_stepsTo) (hx_b hm_A_stepsTo) (hx_L hm_A_stepsTo) (hx_ret hm_A_stepsTo) ∈ hx_T := hx_T_in (hx_ch_in tables_1_4 (List.mem_of_getElem? (i := 4) rfl) _ (List.mem_of_getElem? (i := 171) rfl)) rfl
set_option maxRecDepth 100000 in
theorem ck_A_stepsTo : hx_cal hm_A_stepsTo := ⟨by decide +kernel, cw_A_stepsTo⟩
set_option maxRecDepth 20000 in
theorem mj_A_stepsTo : hx_ms[138]? = some hm_A_stepsTo := rfl
set_option maxRecDepth 100000 in
theorem ok_W_painting : hx_okO hm_W_painting = true := hq_okO (by decide +kernel)
theorem cw_W_painting : Cond.code (hx_y hm_W_painting) (hx_b hm_W_painting) (hx_L hm_W_painting) (hx_ret hm_W_painting) ∈ hx_T := hx_T_in (hx_ch_in tables_1_4 (List.mem_of_getElem? (i := 4) rfl) _ (List.mem_of_getElem? (i := 175) rfl)) rfl
set_option maxRecDepth 100000 in
theorem ck_W_painting : hx_cal hm_W_painting := ⟨by decide +kernel, cw_W_painting⟩
set_option maxRecDepth 20000 in
theorem mj_W_painting : hx_ms[139]? = some hm_W_painting := rfl
set_option maxRecDepth 100000 in
theorem ok_P_areTold : hx_okO hm_P_areTold = true := hq_okO (by decide +kernel)
theorem cw_P_areTold : Cond.code (hx_y hm_P_areTold) (hx_b hm_P_areTold) (hx_L hm_P_areTold) (hx_ret hm_P_areTold) ∈ hx_T := hx_T_in (hx_ch_in tables_1_4 (List.mem_of_getElem? (i := 4) rfl) _ (List.mem_of_getElem? (i := 179) rfl)) rfl
set_option maxRecDepth 100000 in
theorem ck_P_areTold : hx_cal hm_P_areTold := ⟨by decide +kernel, cw_P_areTold⟩
set_option maxRecDepth 20000 in
theorem mj_P_areTold : hx_ms[140]? = some hm_P_areTold := rfl
set_option maxRecDepth 100000 in
theorem ok_W_ash : hx_okO hm_W_ash = true := hq_okO (by decide +kernel)
theorem cw_W_ash : Cond.code (hx_y hm_W_ash) (hx_b hm_W_ash) (hx_L hm_W_ash) (hx_ret hm_W_ash) ∈ hx_T := hx_T_in (hx_ch_in tables_1_4 (List.mem_of_getElem? (i := 4) rfl) _ (List.mem_of_getElem? (i := 183) rfl)) rfl
set_option maxRecDepth 100000 in
theorem ck_W_ash : hx_cal hm_W_ash := ⟨by decide +kernel, cw_W_ash⟩
set_option maxRecDepth 20000 in
theorem mj_W_ash : hx_ms[141]? = some hm_W_ash := rfl
set_option maxRecDepth 100000 in
theorem ok_A_findSeas : hx_okO hm_A_findSeas = true := hq_okO (by decide +kernel)
theorem cw_A_findSeas : Cond.code (hx_y hm_A_findSeas) (hx_b hm_A_findSeas) (hx_L hm_A_findSeas) (hx_ret hm_A_findSeas) ∈ hx_T := hx_T_in (hx_ch_in tables_1_4 (List.mem_of_getElem? (i := 4) rfl) _ (List.mem_of_getElem? (i := 187) rfl)) rfl
set_option maxRecDepth 100000 in
theorem ck_A_findSeas : hx_cal hm_A_findSeas := ⟨by decide +kernel, cw_A_findSeas⟩
set_option maxRecDepth 20000 in
theorem mj_A_findSeas : hx_ms[142]? = some hm_A_findSeas := rfl
set_option maxRecDepth 100000 in
theorem ok_A_fill : hx_okO hm_A_fill = true := hq_okO (by decide +kernel)
theorem cw_A_fill : Cond.code (hx_y hm_A_fill) (hx_b hm_A_fill) (hx_L hm_A_fill) (hx_ret hm_A_fill) ∈ hx_T := hx_T_in (hx_ch_in tables_1_4 (List.mem_of_getElem? (i := 4) rfl) _ (List.mem_of_getElem? (i := 191) rfl)) rfl
set_option maxRecDepth 100000 in
theorem ck_A_fill : hx_cal hm_A_fill := ⟨by decide +kernel, cw_A_fill⟩
set_option maxRecDepth 20000 in
theorem mj_A_fill : hx_ms[143]? = some hm_A_fill := rfl
set_option maxRecDepth 100000 in
theorem ok_A_push : hx_okO hm_A_push = true := hq_okO (by decide +kernel)
theorem cw_A_push : Cond.code (hx_y hm_A_push) (hx_b hm_A_push) (hx_L hm_A_push) (hx_ret hm_A_push) ∈ hx_T := hx_T_in (hx_ch_in tables_1_4 (List.mem_of_getElem? (i := 4) rfl) _ (List.mem_of_getElem? (i := 195) rfl)) rfl
set_option maxRecDepth 100000 in
theorem ck_A_push : hx_cal hm_A_push := ⟨by decide +kernel, cw_A_push⟩
set_option maxRecDepth 20000 in
theorem mj_A_push : hx_ms[144]? = some hm_A_push := rfl
set_option maxRecDepth 100000 in
theorem ok_A_largestSea : hx_okO hm_A_largestSea = true := hq_okO (by decide +kernel)
theorem cw_A_largestSea : Cond.code (hx_y hm_A_largestSea) (hx_b hm_A_largestSea) (hx_L hm_A_largestSea) (hx_ret hm_A_largestSea) ∈ hx_T := hx_T_in (hx_ch_in tables_1_4 (List.mem_of_getElem? (i := 4) rfl) _ (List.mem_of_getElem? (i := 200) rfl)) rfl
set_option maxRecDepth 100000 in
theorem ck_A_largestSea : hx_cal hm_A_largestSea := ⟨by decide +kernel, cw_A_largestSea⟩
set_option maxRecDepth 20000 in
theorem mj_A_largestSea : hx_ms[145]? = some hm_A_largestSea := rfl
set_option maxRecDepth 100000 in
theorem ok_A_seas : hx_okO hm_A_seas = true := hq_okO (by decide +kernel)
theorem cw_A_seas : Cond.code (hx_y hm_A_seas) (hx_b hm_A_seas) (hx_L hm_A_seas) (hx_ret hm_A_seas) ∈ hx_T := hx_T_in (hx_ch_in tables_1_4 (List.mem_of_getElem? (i := 4) rfl) _ (List.mem_of_getElem? (i := 204) rfl)) rfl
set_option maxRecDepth 100000 in
theorem ck_A_seas : hx_cal hm_A_seas := ⟨by decide +kernel, cw_A_seas⟩
set_option maxRecDepth 20000 in
theorem mj_A_seas : hx_ms[146]? = some hm_A_seas := rfl
set_option maxRecDepth 100000 in
theorem ok_W_worth : hx_okO hm_W_worth = true := hq_okO (by decide +kernel)
theorem cw_W_worth : Cond.code (hx_y hm_W_worth) (hx_b hm_W_worth) (hx_L hm_W_worth) (hx_ret hm_W_worth) ∈ hx_T := hx_T_in (hx_ch_in tables_1_4 (List.mem_of_getElem? (i := 4) rfl) _ (List.mem_of_getElem? (i := 208) rfl)) rfl
set_option maxRecDepth 100000 in
theorem ck_W_worth : hx_cal hm_W_worth := ⟨by decide +kernel, cw_W_worth⟩
set_option maxRecDepth 20000 in
theorem mj_W_worth : hx_ms[147]? = some hm_W_worth := rfl
set_option maxRecDepth 100000 in
theorem ok_U_worthTo : hx_okO hm_U_worthTo = true := hq_okO (by decide +kernel)
theorem cw_U_worthTo : Cond.code (hx_y hm_U_worthTo) (hx_b hm_U_worthTo) (hx_L hm_U_worthTo) (hx_ret hm_U_worthTo) ∈ hx_T := hx_T_in (hx_ch_in tables_1_4 (List.mem_of_getElem? (i := 4) rfl) _ (List.mem_of_getElem? (i := 212) rfl)) rfl
set_option maxRecDepth 100000 in
theorem ck_U_worthTo : hx_cal hm_U_worthTo := ⟨by decide +kernel, cw_U_worthTo⟩
set_option maxRecDepth 20000 in
theorem mj_U_worthTo : hx_ms[148]? = some hm_U_worthTo := rfl
set_option maxRecDepth 100000 in
theorem ok_U_price : hx_okO hm_U_price = true := hq_okO (by decide +kernel)
theorem cw_U_price : Cond.code (hx_y hm_U_price) (hx_b hm_U_price) (hx_L hm_U_price) (hx_ret hm_U_price) ∈ hx_T := hx_T_in (hx_ch_in tables_1_4 (List.mem_of_getElem? (i := 4) rfl) _ (List.mem_of_getElem? (i := 216) rfl)) rfl
set_option maxRecDepth 100000 in
theorem ck_U_price : hx_cal hm_U_price := ⟨by decide +kernel, cw_U_price⟩
set_option maxRecDepth 20000 in
theorem mj_U_price : hx_ms[149]? = some hm_U_price := rfl
set_option maxRecDepth 100000 in
theorem ok_U_fieldsOf : hx_okO hm_U_fieldsOf = true := hq_okO (by decide +kernel)
theorem cw_U_fieldsOf : Cond.code (hx_y hm_U_fieldsOf) (hx_b hm_U_fieldsOf) (hx_L hm_U_fieldsOf) (hx_ret hm_U_fieldsOf) ∈ hx_T := hx_T_in (hx_ch_in tables_1_4 (List.mem_of_getElem? (i := 4) rfl) _ (List.mem_of_getElem? (i := 220) rfl)) rfl
set_option maxRecDepth 100000 in
theorem ck_U_fieldsOf : hx_cal hm_U_fieldsOf := ⟨by decide +kernel, cw_U_fieldsOf⟩
set_option maxRecDepth 20000 in
theorem mj_U_fieldsOf : hx_ms[150]? = some hm_U_fieldsOf := rfl
set_option maxRecDepth 100000 in
theorem ok_U_priceOf : hx_okO hm_U_priceOf = true := hq_okO (by decide +kernel)
theorem cw_U_priceOf : Cond.code (hx_y hm_U_priceOf) (hx_b hm_U_priceOf) (hx_L hm_U_priceOf) (hx_ret hm_U_priceOf) ∈ hx_T := hx_T_in (hx_ch_in tables_1_4 (List.mem_of_getElem? (i := 4) rfl) _ (List.mem_of_getElem? (i := 229) rfl)) rfl
set_option maxRecDepth 100000 in
theorem ck_U_priceOf : hx_cal hm_U_priceOf := ⟨by decide +kernel, cw_U_priceOf⟩
set_option maxRecDepth 20000 in
theorem mj_U_priceOf : hx_ms[151]? = some hm_U_priceOf := rfl
set_option maxRecDepth 100000 in
theorem ok_U_worthWith : hx_okO hm_U_worthWith = true := hq_okO (by decide +kernel)
theorem cw_U_worthWith : Cond.code (hx_y hm_U_worthWith) (hx_b hm_U_worthWith) (hx_L hm_U_worthWith) (hx_ret hm_U_worthWith) ∈ hx_T := hx_T_in (hx_ch_in tables_1_4 (List.mem_of_getElem? (i := 4) rfl) _ (List.mem_of_getElem? (i := 239) rfl)) rfl
set_option maxRecDepth 100000 in
theorem ck_U_worthWith : hx_cal hm_U_worthWith := ⟨by decide +kernel, cw_U_worthWith⟩
set_option maxRecDepth 20000 in
theorem mj_U_worthWith : hx_ms[152]? = some hm_U_worthWith := rfl
set_option maxRecDepth 100000 in
theorem ok_W_gain : hx_okO hm_W_gain = true := hq_okO (by decide +kernel)
theorem cw_W_gain : Cond.code (hx_y hm_W_gain) (hx_b hm_W_gain) (hx_L hm_W_gain) (hx_ret hm_W_gain) ∈ hx_T := hx_T_in (hx_ch_in tables_1_5 (List.mem_of_getElem? (i := 5) rfl) _ (List.mem_of_getElem? (i := 4) rfl)) rfl
set_option maxRecDepth 100000 in
theorem ck_W_gain : hx_cal hm_W_gain := ⟨by decide +kernel, cw_W_gain⟩
set_option maxRecDepth 20000 in
theorem mj_W_gain : hx_ms[153]? = some hm_W_gain := rfl
set_option maxRecDepth 100000 in
theorem ok_W_power : hx_okO hm_W_power = true := hq_okO (by decide +kernel)
theorem cw_W_power : Cond.code (hx_y hm_W_power) (hx_b hm_W_power) (hx_L hm_W_power) (hx_ret hm_W_power) ∈ hx_T := hx_T_in (hx_ch_in tables_1_5 (List.mem_of_getElem? (i := 5) rfl) _ (List.mem_of_getElem? (i := 10) rfl)) rfl
set_option maxRecDepth 100000 in
theorem ck_W_power : hx_cal hm_W_power := ⟨by decide +kernel, cw_W_power⟩
set_option maxRecDepth 20000 in
theorem mj_W_power : hx_ms[154]? = some hm_W_power := rfl
set_option maxRecDepth 100000 in
theorem ok_P_arePlain : hx_okO hm_P_arePlain = true := hq_okO (by decide +kernel)
theorem cw_P_arePlain : Cond.code (hx_y hm_P_arePlain) (hx_b hm_P_arePlain) (hx_L hm_P_arePlain) (hx_ret hm_P_arePlain) ∈ hx_T := hx_T_in (hx_ch_in tables_1_5 (List.mem_of_getElem? (i := 5) rfl) _ (List.mem_of_getElem? (i := 15) rfl)) rfl
set_option maxRecDepth 100000 in
theorem ck_P_arePlain : hx_cal hm_P_arePlain := ⟨by decide +kernel, cw_P_arePlain⟩
set_option maxRecDepth 20000 in
theorem mj_P_arePlain : hx_ms[155]? = some hm_P_arePlain := rfl
set_option maxRecDepth 100000 in
theorem ok_U_addedBy : hx_okO hm_U_addedBy = true := hq_okO (by decide +kernel)
theorem cw_U_addedBy : Cond.code (hx_y hm_U_addedBy) (hx_b hm_U_addedBy) (hx_L hm_U_addedBy) (hx_ret hm_U_addedBy) ∈ hx_T := hx_T_in (hx_ch_in tables_1_5 (List.mem_of_getElem? (i := 5) rfl) _ (List.mem_of_getElem? (i := 19) rfl)) rfl
set_option maxRecDepth 100000 in
theorem ck_U_addedBy : hx_cal hm_U_addedBy := ⟨by decide +kernel, cw_U_addedBy⟩
set_option maxRecDepth 20000 in
theorem mj_U_addedBy : hx_ms[156]? = some hm_U_addedBy := rfl
set_option maxRecDepth 100000 in
theorem ok_U_orders : hx_okO hm_U_orders = true := hq_okO (by decide +kernel)
theorem cw_U_orders : Cond.code (hx_y hm_U_orders) (hx_b hm_U_orders) (hx_L hm_U_orders) (hx_ret hm_U_orders) ∈ hx_T := hx_T_in (hx_ch_in tables_1_5 (List.mem_of_getElem? (i := 5) rfl) _ (List.mem_of_getElem? (i := 22) rfl)) rfl
set_option maxRecDepth 100000 in
theorem ck_U_orders : hx_cal hm_U_orders := ⟨by decide +kernel, cw_U_orders⟩
set_option maxRecDepth 20000 in
theorem mj_U_orders : hx_ms[157]? = some hm_U_orders := rfl
set_option maxRecDepth 100000 in
theorem ok_W_commonDivisor : hx_okO hm_W_commonDivisor = true := hq_okO (by decide +kernel)
theorem cw_W_commonDivisor : Cond.code (hx_y hm_W_commonDivisor) (hx_b hm_W_commonDivisor) (hx_L hm_W_commonDivisor) (hx_ret hm_W_commonDivisor) ∈ hx_T := hx_T_in (hx_ch_in tables_1_5 (List.mem_of_getElem? (i := 5) rfl) _ (List.mem_of_getElem? (i := 32) rfl)) rfl
set_option maxRecDepth 100000 in
theorem ck_W_commonDivisor : hx_cal hm_W_commonDivisor := ⟨by decide +kernel, cw_W_commonDivisor⟩
set_option maxRecDepth 20000 in
theorem mj_W_commonDivisor : hx_ms[158]? = some hm_W_commonDivisor := rfl
set_option maxRecDepth 100000 in
theorem ok_W_battle : hx_okO hm_W_battle = true := hq_okO (by decide +kernel)
theorem cw_W_battle : Cond.code (hx_y hm_W_battle) (hx_b hm_W_battle) (hx_L hm_W_battle) (hx_ret hm_W_battle) ∈ hx_T := hx_T_in (hx_ch_in tables_1_5 (List.mem_of_getElem? (i := 5) rfl) _ (List.mem_of_getElem? (i := 36) rfl)) rfl
set_option maxRecDepth 100000 in
theorem ck_W_battle : hx_cal hm_W_battle := ⟨by decide +kernel, cw_W_battle⟩
set_option maxRecDepth 20000 in
theorem mj_W_battle : hx_ms[159]? = some hm_W_battle := rfl
