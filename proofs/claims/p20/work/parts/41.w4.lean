/-! the class's own methods: refusals, count -/
theorem wf_sub {w k : Int} (hR : hy_R w) (hk : 0 ≤ k ∧ k ≤ 1000) : (-2147483648 ≤ w - k → (Int32.ofInt (w - k)).toInt = w - k) ∧ (w - k < -2147483648 → 2000000000 < (Int32.ofInt (w - k)).toInt) := by
  obtain ⟨h1, h2⟩ := hR
  rw [Int32.toInt_ofInt]
  constructor
  · intro h
    simp only [Int.bmod, Int32.size]
    omega
  · intro h
    simp only [Int.bmod, Int32.size]
    omega
def wf_count (t : hy_T) (w : Int) : Int :=
  if 10 ≤ w ∧ w < 22 then (if sp_told (t 5 3) (w - 10) = true then 100 * t 6 (w - 10).toNat + t 7 (w - 10).toNat else -1)
  else if 100 ≤ w ∧ w < 148 then (if wf_plain t ((w - 100) / 4) = true then sp_hav (t 34) ((w - 100) / 4) ((w - 100) % 4) else -1)
  else if 200 ≤ w ∧ w < 264 then t 9 (w - 200).toNat
  else if 300 ≤ w ∧ w < 364 then t 35 (w - 300).toNat
  else if w = 0 then t 5 2 else if w = 1 then t 5 3 else if w = 2 then t 11 7 else if w = 3 then t 3 1 else if w = 4 then t 33 5 else if w = 5 then t 33 4 else if w = 6 then t 33 3 else -1
section WD
variable {sc : List Int32} {t : hy_T}
theorem c_W_treaties0 {n : Int} (h : ¬ (1 ≤ n ∧ n ≤ 120 ∧ n ≤ t 3 1)) : hy_Ct sc hm_W_treaties 5 [.inr (some 2), .inl n] t (hy_e (some (-1)) t) := by
  refine hy_mk_ct ok_W_treaties ck_W_treaties (Nat.le_of_ble_eq_true rfl) ?_
  refine hy_aload (i := 0) rfl rfl ?_
  refine hy_iload (i := 1) rfl rfl ?_
  refine hy_const (i := 2) rfl (by decide) ?_
  refine hy_cV2e (i := 3) rfl mj_W_isOnTape (by decide) rfl (Nat.le_of_ble_eq_true rfl) rfl rfl rfl (c_W_isOnTape) ?_
  refine hy_ib_ne (i := 4) (tt := 7) rfl (fun zc1 => ?_) (fun zc1 => ?_)
  · simp only [decide_eq_true_eq, decide_eq_false_iff_not] at zc1; omega
  · refine hy_const (i := 5) rfl (by decide) ?_
    refine hy_ireturn (i := 6) rfl rfl ?_
    exact ⟨rfl, rfl⟩
theorem c_W_judged0 {n : Int} (h : ¬ (1 ≤ n ∧ n ≤ 120 ∧ n ≤ t 3 1)) : hy_Ct sc hm_W_judged 5 [.inr (some 2), .inl n] t (hy_e (some (-1)) t) := by
  refine hy_mk_ct ok_W_judged ck_W_judged (Nat.le_of_ble_eq_true rfl) ?_
  refine hy_aload (i := 0) rfl rfl ?_
  refine hy_iload (i := 1) rfl rfl ?_
  refine hy_const (i := 2) rfl (by decide) ?_
  refine hy_cV2e (i := 3) rfl mj_W_isOnTape (by decide) rfl (Nat.le_of_ble_eq_true rfl) rfl rfl rfl (c_W_isOnTape) ?_
  refine hy_ib_ne (i := 4) (tt := 7) rfl (fun zc1 => ?_) (fun zc1 => ?_)
  · simp only [decide_eq_true_eq, decide_eq_false_iff_not] at zc1; omega
  · refine hy_const (i := 5) rfl (by decide) ?_
    refine hy_ireturn (i := 6) rfl rfl ?_
    exact ⟨rfl, rfl⟩
theorem c_W_way0 {a b u e q w : Int} (h : sp_told (t 5 2) u = false) : hy_Ct sc hm_W_way 5 [.inr (some 2), .inl a, .inl b, .inl u, .inl e, .inl q, .inl w] t (hy_e (some (-1)) t) := by
  refine hy_mk_ct ok_W_way ck_W_way (Nat.le_of_ble_eq_true rfl) ?_
  refine hy_iload (i := 0) rfl rfl ?_
  refine hy_const (i := 1) rfl (by decide) ?_
  refine hy_cS2e (i := 2) rfl (by decide) mj_W_isAmong (by decide) rfl (Nat.le_of_ble_eq_true rfl) (c_W_isAmong) ?_
  refine hy_ib_eq (i := 3) (tt := 13) rfl (fun zc1 => ?_) (fun zc1 => ?_)
  · refine hy_const (i := 13) rfl (by decide) ?_
    refine hy_ireturn (i := 14) rfl rfl ?_
    exact ⟨rfl, rfl⟩
  · refine hy_iload (i := 4) rfl rfl ?_
    refine hy_const (i := 5) rfl (by decide) ?_
    refine hy_cS2e (i := 6) rfl (by decide) mj_W_isAmong (by decide) rfl (Nat.le_of_ble_eq_true rfl) (c_W_isAmong) ?_
    refine hy_ib_eq (i := 7) (tt := 13) rfl (fun zc2 => ?_) (fun zc2 => ?_)
    · refine hy_const (i := 13) rfl (by decide) ?_
      refine hy_ireturn (i := 14) rfl rfl ?_
      exact ⟨rfl, rfl⟩
    · refine hy_aload (i := 8) rfl rfl ?_
      refine hy_getr (i := 9) rfl rfl ?_
      refine hy_iload (i := 10) rfl rfl ?_
      refine hy_cV1e (i := 11) rfl mj_P_isTold (by decide) rfl (Nat.le_of_ble_eq_true rfl) rfl rfl rfl (c_P_isTold) ?_
      refine hy_ib_ne (i := 12) (tt := 15) rfl (fun zc3 => ?_) (fun zc3 => ?_)
      · rw [h] at zc3; cases zc3
      · refine hy_const (i := 13) rfl (by decide) ?_
        refine hy_ireturn (i := 14) rfl rfl ?_
        exact ⟨rfl, rfl⟩
theorem c_W_gain0 {e c q : Int} (h : wf_plain t c = false) : hy_Ct sc hm_W_gain 6 [.inr (some 2), .inl e, .inl c, .inl q] t (hy_e (some (-1000000000)) t) := by
  refine hy_mk_ct ok_W_gain ck_W_gain (Nat.le_of_ble_eq_true rfl) ?_
  refine hy_iload (i := 0) rfl rfl ?_
  refine hy_cS1e (i := 1) rfl (by decide) mj_W_isEmpire (by decide) rfl (Nat.le_of_ble_eq_true rfl) (c_W_isEmpire) ?_
  refine hy_ib_eq (i := 2) (tt := 11) rfl (fun zc1 => ?_) (fun zc1 => ?_)
  · refine hy_const (i := 11) rfl (by decide) ?_
    refine hy_ireturn (i := 12) rfl rfl ?_
    exact ⟨rfl, rfl⟩
  · refine hy_aload (i := 3) rfl rfl ?_
    refine hy_getr (i := 4) rfl rfl ?_
    refine hy_iload (i := 5) rfl rfl ?_
    refine hy_cV1e (i := 6) rfl mj_P_isPlain (by decide) rfl (Nat.le_of_ble_eq_true rfl) rfl rfl rfl (c_P_isPlain) ?_
    refine hy_ib_eq (i := 7) (tt := 11) rfl (fun zc2 => ?_) (fun zc2 => ?_)
    · refine hy_const (i := 11) rfl (by decide) ?_
      refine hy_ireturn (i := 12) rfl rfl ?_
      exact ⟨rfl, rfl⟩
    · exact absurd (show wf_plain t c = true from zc2) (by rw [h]; decide)
theorem c_W_power0 {cs c e q w : Int} (h : hz_iand cs (hz_ixor (hz_iand (t 5 2) (hz_ixor (t 5 3) (-1))) (-1)) ≠ 0 ∨ sp_bc cs < 1) : hy_Ct sc hm_W_power 6 [.inr (some 2), .inl cs, .inl c, .inl e, .inl q, .inl w] t (hy_e (some (-1000000000)) t) := by
  refine hy_mk_ct ok_W_power ck_W_power (Nat.le_of_ble_eq_true rfl) ?_
  by_cases h2 : hz_iand cs (hz_ixor (hz_iand (t 5 2) (hz_ixor (t 5 3) (-1))) (-1)) = 0
  · skip
    refine hy_iload (i := 0) rfl rfl ?_
    refine hy_cS1e (i := 1) rfl (by decide) mj_J_bitCount (by decide) rfl (Nat.le_of_ble_eq_true rfl) (c_J_bitCount) ?_
    refine hy_istore (i := 2) rfl ?_
    refine hy_aload (i := 3) rfl rfl ?_
    refine hy_getr (i := 4) rfl rfl ?_
    refine hy_iload (i := 5) rfl rfl ?_
    refine hy_cV1e (i := 6) rfl mj_P_arePlain (by decide) rfl (Nat.le_of_ble_eq_true rfl) rfl rfl rfl (c_P_arePlain) ?_
    refine hy_ib_eq (i := 7) (tt := 14) rfl (fun zc1 => ?_) (fun zc1 => ?_)
    · refine hy_const (i := 14) rfl (by decide) ?_
      refine hy_ireturn (i := 15) rfl rfl ?_
      exact ⟨rfl, rfl⟩
    · refine hy_iload (i := 8) rfl rfl ?_
      refine hy_const (i := 9) rfl (by decide) ?_
      refine hy_ic_lt (i := 10) (tt := 14) rfl (fun zc2 => ?_) (fun zc2 => ?_)
      · refine hy_const (i := 14) rfl (by decide) ?_
        refine hy_ireturn (i := 15) rfl rfl ?_
        exact ⟨rfl, rfl⟩
      · omega
  · skip
    refine hy_iload (i := 0) rfl rfl ?_
    refine hy_cS1e (i := 1) rfl (by decide) mj_J_bitCount (by decide) rfl (Nat.le_of_ble_eq_true rfl) (c_J_bitCount) ?_
    refine hy_istore (i := 2) rfl ?_
    refine hy_aload (i := 3) rfl rfl ?_
    refine hy_getr (i := 4) rfl rfl ?_
    refine hy_iload (i := 5) rfl rfl ?_
    refine hy_cV1e (i := 6) rfl mj_P_arePlain (by decide) rfl (Nat.le_of_ble_eq_true rfl) rfl rfl rfl (c_P_arePlain) ?_
    refine hy_ib_eq (i := 7) (tt := 14) rfl (fun zc1 => ?_) (fun zc1 => ?_)
    · refine hy_const (i := 14) rfl (by decide) ?_
      refine hy_ireturn (i := 15) rfl rfl ?_
      exact ⟨rfl, rfl⟩
    · exact absurd (of_decide_eq_true zc1) h2
theorem c_W_parted0 {m w : Int} (h : t 3 1 < 8) : hy_Ct sc hm_W_parted 4 [.inr (some 2), .inl m, .inl w] t (hy_e (some (-1)) t) := by
  refine hy_mk_ct ok_W_parted ck_W_parted (Nat.le_of_ble_eq_true rfl) ?_
  refine hy_iload (i := 0) rfl rfl ?_
  refine hy_const (i := 1) rfl (by decide) ?_
  refine hy_isubw (i := 2) rfl ?_
  refine hy_cS1e (i := 3) rfl (by decide) mj_W_isQuarter (by decide) rfl (Nat.le_of_ble_eq_true rfl) (c_W_isQuarter) ?_
  refine hy_istore (i := 4) rfl ?_
  refine hy_iload (i := 5) rfl rfl ?_
  refine hy_const (i := 6) rfl (by decide) ?_
  refine hy_ic_lt (i := 7) (tt := 24) rfl (fun zc1 => ?_) (fun zc1 => ?_)
  · refine hy_const (i := 24) rfl (by decide) ?_
    refine hy_ireturn (i := 25) rfl rfl ?_
    exact ⟨rfl, rfl⟩
  · refine hy_iload (i := 8) rfl rfl ?_
    refine hy_const (i := 9) rfl (by decide) ?_
    refine hy_ic_gt (i := 10) (tt := 24) rfl (fun zc2 => ?_) (fun zc2 => ?_)
    · refine hy_const (i := 24) rfl (by decide) ?_
      refine hy_ireturn (i := 25) rfl rfl ?_
      exact ⟨rfl, rfl⟩
    · refine hy_iload (i := 11) rfl rfl ?_
      refine hy_const (i := 12) rfl (by decide) ?_
      refine hy_cS2e (i := 13) rfl (by decide) mj_W_isAmong (by decide) rfl (Nat.le_of_ble_eq_true rfl) (c_W_isAmong) ?_
      refine hy_ib_ne (i := 14) (tt := 17) rfl (fun zc3 => ?_) (fun zc3 => ?_)
      · refine hy_aload (i := 17) rfl rfl ?_
        refine hy_getr (i := 18) rfl rfl ?_
        refine hy_cV0e (i := 19) rfl mj_T_length (by decide) rfl (Nat.le_of_ble_eq_true rfl) rfl rfl rfl (c_T_length) ?_
        refine hy_const (i := 20) rfl (by decide) ?_
        refine hy_iload (i := 21) rfl rfl ?_
        refine hy_imul (i := 22) rfl (by omega) ?_
        refine hy_ic_ge (i := 23) (tt := 26) rfl (fun zc4 => ?_) (fun zc4 => ?_)
        · omega
        · refine hy_const (i := 24) rfl (by decide) ?_
          refine hy_ireturn (i := 25) rfl rfl ?_
          exact ⟨rfl, rfl⟩
      · refine hy_iload (i := 15) rfl rfl ?_
        refine hy_ib_eq (i := 16) (tt := 24) rfl (fun zc4 => ?_) (fun zc4 => ?_)
        · refine hy_const (i := 24) rfl (by decide) ?_
          refine hy_ireturn (i := 25) rfl rfl ?_
          exact ⟨rfl, rfl⟩
        · refine hy_aload (i := 17) rfl rfl ?_
          refine hy_getr (i := 18) rfl rfl ?_
          refine hy_cV0e (i := 19) rfl mj_T_length (by decide) rfl (Nat.le_of_ble_eq_true rfl) rfl rfl rfl (c_T_length) ?_
          refine hy_const (i := 20) rfl (by decide) ?_
          refine hy_iload (i := 21) rfl rfl ?_
          refine hy_imul (i := 22) rfl (by omega) ?_
          refine hy_ic_ge (i := 23) (tt := 26) rfl (fun zc5 => ?_) (fun zc5 => ?_)
          · omega
          · refine hy_const (i := 24) rfl (by decide) ?_
            refine hy_ireturn (i := 25) rfl rfl ?_
            exact ⟨rfl, rfl⟩
theorem c_W_spies0 {n w : Int} (h : t 3 1 < 3) : hy_Ct sc hm_W_spies 6 [.inr (some 2), .inl n, .inl w] t (hy_e (some (-1)) t) := by
  refine hy_mk_ct ok_W_spies ck_W_spies (Nat.le_of_ble_eq_true rfl) ?_
  refine hy_iload (i := 0) rfl rfl ?_
  refine hy_const (i := 1) rfl (by decide) ?_
  refine hy_ic_lt (i := 2) (tt := 17) rfl (fun zc1 => ?_) (fun zc1 => ?_)
  · refine hy_const (i := 17) rfl (by decide) ?_
    refine hy_ireturn (i := 18) rfl rfl ?_
    exact ⟨rfl, rfl⟩
  · refine hy_iload (i := 3) rfl rfl ?_
    refine hy_const (i := 4) rfl (by decide) ?_
    refine hy_ic_gt (i := 5) (tt := 17) rfl (fun zc2 => ?_) (fun zc2 => ?_)
    · refine hy_const (i := 17) rfl (by decide) ?_
      refine hy_ireturn (i := 18) rfl rfl ?_
      exact ⟨rfl, rfl⟩
    · refine hy_iload (i := 6) rfl rfl ?_
      refine hy_const (i := 7) rfl (by decide) ?_
      refine hy_cS2e (i := 8) rfl (by decide) mj_W_isAmong (by decide) rfl (Nat.le_of_ble_eq_true rfl) (c_W_isAmong) ?_
      refine hy_ib_eq (i := 9) (tt := 17) rfl (fun zc3 => ?_) (fun zc3 => ?_)
      · refine hy_const (i := 17) rfl (by decide) ?_
        refine hy_ireturn (i := 18) rfl rfl ?_
        exact ⟨rfl, rfl⟩
      · refine hy_aload (i := 10) rfl rfl ?_
        refine hy_getr (i := 11) rfl rfl ?_
        refine hy_cV0e (i := 12) rfl mj_T_length (by decide) rfl (Nat.le_of_ble_eq_true rfl) rfl rfl rfl (c_T_length) ?_
        refine hy_const (i := 13) rfl (by decide) ?_
        refine hy_iload (i := 14) rfl rfl ?_
        refine hy_imul (i := 15) rfl (by omega) ?_
        refine hy_ic_ge (i := 16) (tt := 19) rfl (fun zc4 => ?_) (fun zc4 => ?_)
        · omega
        · refine hy_const (i := 17) rfl (by decide) ?_
          refine hy_ireturn (i := 18) rfl rfl ?_
          exact ⟨rfl, rfl⟩
theorem c_W_count {w : Int} (hR : hy_R w) (hf : ∀ j : Nat, j < 12 → -1 ≤ t 6 j ∧ t 6 j < 12) (hs : ∀ j : Nat, j < 12 → -1 ≤ t 7 j ∧ t 7 j < 12) : hy_Ct sc hm_W_count 3 [.inr (some 2), .inl w] t (hy_e (some (wf_count t w)) t) := by
  refine hy_mk_ct ok_W_count ck_W_count (Nat.le_of_ble_eq_true rfl) ?_
  have e10 := wf_sub hR (k := 10) (by decide)
  have e100 := wf_sub hR (k := 100) (by decide)
  have e200 := wf_sub hR (k := 200) (by decide)
  have e300 := wf_sub hR (k := 300) (by decide)
  unfold wf_count
  by_cases q1 : 10 ≤ w ∧ w < 22
  · rw [if_pos q1]
    have d10 := e10.1 (by omega)
    refine hy_iload (i := 0) rfl rfl ?_
    refine hy_const (i := 1) rfl (by decide) ?_
    refine hy_isubw (i := 2) rfl ?_
    rw [d10]
    refine hy_const (i := 3) rfl (by decide) ?_
    refine hy_cS2e (i := 4) rfl (by decide) mj_W_isAmong (by decide) rfl (Nat.le_of_ble_eq_true rfl) (c_W_isAmong) ?_
    refine hy_ib_eq (i := 5) (tt := 13) rfl (fun zc1 => ?_) (fun zc1 => ?_)
    · simp only [decide_eq_true_eq, decide_eq_false_iff_not] at zc1; omega
    · refine hy_aload (i := 6) rfl rfl ?_
      refine hy_getr (i := 7) rfl rfl ?_
      refine hy_iload (i := 8) rfl rfl ?_
      refine hy_const (i := 9) rfl (by decide) ?_
      refine hy_isub (i := 10) rfl (by omega) ?_
      refine hy_cV1e (i := 11) rfl mj_P_parts (by decide) rfl (Nat.le_of_ble_eq_true rfl) rfl rfl rfl (c_P_parts hf hs) ?_
      refine hy_ireturn (i := 12) rfl rfl ?_
      exact ⟨rfl, rfl⟩
  · rw [if_neg q1]
    by_cases q2 : 100 ≤ w ∧ w < 148
    · rw [if_pos q2]
      have d10 := e10.1 (by omega)
      have d100 := e100.1 (by omega)
      refine hy_iload (i := 0) rfl rfl ?_
      refine hy_const (i := 1) rfl (by decide) ?_
      refine hy_isubw (i := 2) rfl ?_
      rw [d10]
      refine hy_const (i := 3) rfl (by decide) ?_
      refine hy_cS2e (i := 4) rfl (by decide) mj_W_isAmong (by decide) rfl (Nat.le_of_ble_eq_true rfl) (c_W_isAmong) ?_
      refine hy_ib_eq (i := 5) (tt := 13) rfl (fun zc1 => ?_) (fun zc1 => ?_)
      · refine hy_iload (i := 13) rfl rfl ?_
        refine hy_const (i := 14) rfl (by decide) ?_
        refine hy_isubw (i := 15) rfl ?_
        rw [d100]
        refine hy_const (i := 16) rfl (by decide) ?_
        refine hy_cS2e (i := 17) rfl (by decide) mj_W_isAmong (by decide) rfl (Nat.le_of_ble_eq_true rfl) (c_W_isAmong) ?_
        refine hy_ib_eq (i := 18) (tt := 42) rfl (fun zc2 => ?_) (fun zc2 => ?_)
        · simp only [decide_eq_true_eq, decide_eq_false_iff_not] at zc2; omega
        · refine hy_iload (i := 19) rfl rfl ?_
          refine hy_const (i := 20) rfl (by decide) ?_
          refine hy_isub (i := 21) rfl (by omega) ?_
          refine hy_const (i := 22) rfl (by decide) ?_
          refine hy_idiv (i := 23) rfl (by omega) (by omega) ?_
          refine hy_istore (i := 24) rfl ?_
          refine hy_aload (i := 25) rfl rfl ?_
          refine hy_getr (i := 26) rfl rfl ?_
          refine hy_iload (i := 27) rfl rfl ?_
          refine hy_cV1e (i := 28) rfl mj_P_isPlain (by decide) rfl (Nat.le_of_ble_eq_true rfl) rfl rfl rfl (c_P_isPlain) ?_
          refine hy_ib_eq (i := 29) (tt := 40) rfl (fun zc3 => ?_) (fun zc3 => ?_)
          · refine hy_const (i := 40) rfl (by decide) ?_
            refine hy_ireturn (i := 41) rfl rfl ?_
            exact ⟨congrArg some (by first | (rw [if_pos (show wf_plain t ((w - 100) / 4) = true by assumption)]; done) | (rw [if_neg (show ¬ wf_plain t ((w - 100) / 4) = true by rw [show wf_plain t ((w - 100) / 4) = false by assumption]; decide)]; done)), rfl⟩
          · refine hy_aload (i := 30) rfl rfl ?_
            refine hy_getr (i := 31) rfl rfl ?_
            refine hy_iload (i := 32) rfl rfl ?_
            refine hy_iload (i := 33) rfl rfl ?_
            refine hy_const (i := 34) rfl (by decide) ?_
            refine hy_isub (i := 35) rfl (by omega) ?_
            refine hy_const (i := 36) rfl (by decide) ?_
            refine hy_irem (i := 37) rfl (by omega) (by omega) ?_
            refine hy_cV2e (i := 38) rfl mj_S_havers (by decide) rfl (Nat.le_of_ble_eq_true rfl) rfl rfl rfl (c_S_havers_33) ?_
            refine hy_goto (i := 39) (tt := 41) rfl ?_
            refine hy_ireturn (i := 41) rfl rfl ?_
            exact ⟨congrArg some (by first | (rw [if_pos (show wf_plain t ((w - 100) / 4) = true by assumption)]; done) | (rw [if_neg (show ¬ wf_plain t ((w - 100) / 4) = true by rw [show wf_plain t ((w - 100) / 4) = false by assumption]; decide)]; done)), rfl⟩
      · simp only [decide_eq_true_eq, decide_eq_false_iff_not] at zc1; omega
    · rw [if_neg q2]
      by_cases q3 : 200 ≤ w ∧ w < 264
      · rw [if_pos q3]
        have d10 := e10.1 (by omega)
        have d100 := e100.1 (by omega)
        have d200 := e200.1 (by omega)
        refine hy_iload (i := 0) rfl rfl ?_
        refine hy_const (i := 1) rfl (by decide) ?_
        refine hy_isubw (i := 2) rfl ?_
        rw [d10]
        refine hy_const (i := 3) rfl (by decide) ?_
        refine hy_cS2e (i := 4) rfl (by decide) mj_W_isAmong (by decide) rfl (Nat.le_of_ble_eq_true rfl) (c_W_isAmong) ?_
        refine hy_ib_eq (i := 5) (tt := 13) rfl (fun zc1 => ?_) (fun zc1 => ?_)
        · refine hy_iload (i := 13) rfl rfl ?_
          refine hy_const (i := 14) rfl (by decide) ?_
          refine hy_isubw (i := 15) rfl ?_
          rw [d100]
          refine hy_const (i := 16) rfl (by decide) ?_
          refine hy_cS2e (i := 17) rfl (by decide) mj_W_isAmong (by decide) rfl (Nat.le_of_ble_eq_true rfl) (c_W_isAmong) ?_
          refine hy_ib_eq (i := 18) (tt := 42) rfl (fun zc2 => ?_) (fun zc2 => ?_)
          · refine hy_iload (i := 42) rfl rfl ?_
            refine hy_const (i := 43) rfl (by decide) ?_
            refine hy_isubw (i := 44) rfl ?_
            rw [d200]
            refine hy_const (i := 45) rfl (by decide) ?_
            refine hy_cS2e (i := 46) rfl (by decide) mj_W_isAmong (by decide) rfl (Nat.le_of_ble_eq_true rfl) (c_W_isAmong) ?_
            refine hy_ib_eq (i := 47) (tt := 55) rfl (fun zc3 => ?_) (fun zc3 => ?_)
            · simp only [decide_eq_true_eq, decide_eq_false_iff_not] at zc3; omega
            · refine hy_aload (i := 48) rfl rfl ?_
              refine hy_getr (i := 49) rfl rfl ?_
              refine hy_iload (i := 50) rfl rfl ?_
              refine hy_const (i := 51) rfl (by decide) ?_
              refine hy_isub (i := 52) rfl (by omega) ?_
              refine hy_cV1e (i := 53) rfl mj_G_at (by decide) rfl (Nat.le_of_ble_eq_true rfl) rfl rfl rfl (c_G_at) ?_
              refine hy_ireturn (i := 54) rfl rfl ?_
              exact ⟨congrArg some (by rw [if_pos (by omega)]), rfl⟩
          · simp only [decide_eq_true_eq, decide_eq_false_iff_not] at zc2; omega
        · simp only [decide_eq_true_eq, decide_eq_false_iff_not] at zc1; omega
      · rw [if_neg q3]
        by_cases q4 : 300 ≤ w ∧ w < 364
        · rw [if_pos q4]
          have d10 := e10.1 (by omega)
          have d100 := e100.1 (by omega)
          have d200 := e200.1 (by omega)
          have d300 := e300.1 (by omega)
          refine hy_iload (i := 0) rfl rfl ?_
          refine hy_const (i := 1) rfl (by decide) ?_
          refine hy_isubw (i := 2) rfl ?_
          rw [d10]
          refine hy_const (i := 3) rfl (by decide) ?_
          refine hy_cS2e (i := 4) rfl (by decide) mj_W_isAmong (by decide) rfl (Nat.le_of_ble_eq_true rfl) (c_W_isAmong) ?_
          refine hy_ib_eq (i := 5) (tt := 13) rfl (fun zc1 => ?_) (fun zc1 => ?_)
          · refine hy_iload (i := 13) rfl rfl ?_
            refine hy_const (i := 14) rfl (by decide) ?_
            refine hy_isubw (i := 15) rfl ?_
            rw [d100]
            refine hy_const (i := 16) rfl (by decide) ?_
            refine hy_cS2e (i := 17) rfl (by decide) mj_W_isAmong (by decide) rfl (Nat.le_of_ble_eq_true rfl) (c_W_isAmong) ?_
            refine hy_ib_eq (i := 18) (tt := 42) rfl (fun zc2 => ?_) (fun zc2 => ?_)
            · refine hy_iload (i := 42) rfl rfl ?_
              refine hy_const (i := 43) rfl (by decide) ?_
              refine hy_isubw (i := 44) rfl ?_
              rw [d200]
              refine hy_const (i := 45) rfl (by decide) ?_
              refine hy_cS2e (i := 46) rfl (by decide) mj_W_isAmong (by decide) rfl (Nat.le_of_ble_eq_true rfl) (c_W_isAmong) ?_
              refine hy_ib_eq (i := 47) (tt := 55) rfl (fun zc3 => ?_) (fun zc3 => ?_)
              · refine hy_iload (i := 55) rfl rfl ?_
                refine hy_const (i := 56) rfl (by decide) ?_
                refine hy_isubw (i := 57) rfl ?_
                rw [d300]
                refine hy_const (i := 58) rfl (by decide) ?_
                refine hy_cS2e (i := 59) rfl (by decide) mj_W_isAmong (by decide) rfl (Nat.le_of_ble_eq_true rfl) (c_W_isAmong) ?_
                refine hy_ib_eq (i := 60) (tt := 68) rfl (fun zc4 => ?_) (fun zc4 => ?_)
                · simp only [decide_eq_true_eq, decide_eq_false_iff_not] at zc4; omega
                · refine hy_aload (i := 61) rfl rfl ?_
                  refine hy_getr (i := 62) rfl rfl ?_
                  refine hy_iload (i := 63) rfl rfl ?_
                  refine hy_const (i := 64) rfl (by decide) ?_
                  refine hy_isub (i := 65) rfl (by omega) ?_
                  refine hy_cV1e (i := 66) rfl mj_S_ownerOf (by decide) rfl (Nat.le_of_ble_eq_true rfl) rfl rfl rfl (c_S_ownerOf_33) ?_
                  refine hy_ireturn (i := 67) rfl rfl ?_
                  exact ⟨congrArg some (by rw [if_pos (by omega)]), rfl⟩
              · simp only [decide_eq_true_eq, decide_eq_false_iff_not] at zc3; omega
            · simp only [decide_eq_true_eq, decide_eq_false_iff_not] at zc2; omega
          · simp only [decide_eq_true_eq, decide_eq_false_iff_not] at zc1; omega
        · rw [if_neg q4]
          refine hy_iload (i := 0) rfl rfl ?_
          refine hy_const (i := 1) rfl (by decide) ?_
          refine hy_isubw (i := 2) rfl ?_
          refine hy_const (i := 3) rfl (by decide) ?_
          refine hy_cS2e (i := 4) rfl (by decide) mj_W_isAmong (by decide) rfl (Nat.le_of_ble_eq_true rfl) (c_W_isAmong) ?_
          refine hy_ib_eq (i := 5) (tt := 13) rfl (fun zc1 => ?_) (fun zc1 => ?_)
          · refine hy_iload (i := 13) rfl rfl ?_
            refine hy_const (i := 14) rfl (by decide) ?_
            refine hy_isubw (i := 15) rfl ?_
            refine hy_const (i := 16) rfl (by decide) ?_
            refine hy_cS2e (i := 17) rfl (by decide) mj_W_isAmong (by decide) rfl (Nat.le_of_ble_eq_true rfl) (c_W_isAmong) ?_
            refine hy_ib_eq (i := 18) (tt := 42) rfl (fun zc2 => ?_) (fun zc2 => ?_)
            · refine hy_iload (i := 42) rfl rfl ?_
              refine hy_const (i := 43) rfl (by decide) ?_
              refine hy_isubw (i := 44) rfl ?_
              refine hy_const (i := 45) rfl (by decide) ?_
              refine hy_cS2e (i := 46) rfl (by decide) mj_W_isAmong (by decide) rfl (Nat.le_of_ble_eq_true rfl) (c_W_isAmong) ?_
              refine hy_ib_eq (i := 47) (tt := 55) rfl (fun zc3 => ?_) (fun zc3 => ?_)
              · refine hy_iload (i := 55) rfl rfl ?_
                refine hy_const (i := 56) rfl (by decide) ?_
                refine hy_isubw (i := 57) rfl ?_
                refine hy_const (i := 58) rfl (by decide) ?_
                refine hy_cS2e (i := 59) rfl (by decide) mj_W_isAmong (by decide) rfl (Nat.le_of_ble_eq_true rfl) (c_W_isAmong) ?_
                refine hy_ib_eq (i := 60) (tt := 68) rfl (fun zc4 => ?_) (fun zc4 => ?_)
                · refine hy_iload (i := 68) rfl rfl ?_
                  by_cases zq5 : w = 0
                  · refine hy_tsw (i := 69) (tt := 70) rfl (by rw [zq5]; rfl) ?_
                    refine hy_aload (i := 70) rfl rfl ?_
                    refine hy_getr (i := 71) rfl rfl ?_
                    refine hy_cV0e (i := 72) rfl mj_P_told (by decide) rfl (Nat.le_of_ble_eq_true rfl) rfl rfl rfl (c_P_told) ?_
                    refine hy_ireturn (i := 73) rfl rfl ?_
                    refine ⟨congrArg some ?_, rfl⟩
                    repeat (first | (rw [if_pos (by assumption)]; done) | rw [if_neg (by omega)])
                  · skip
                    by_cases zq5 : w = 1
                    · refine hy_tsw (i := 69) (tt := 74) rfl (by rw [zq5]; rfl) ?_
                      refine hy_aload (i := 74) rfl rfl ?_
                      refine hy_getr (i := 75) rfl rfl ?_
                      refine hy_cV0e (i := 76) rfl mj_P_mixed (by decide) rfl (Nat.le_of_ble_eq_true rfl) rfl rfl rfl (c_P_mixed) ?_
                      refine hy_ireturn (i := 77) rfl rfl ?_
                      refine ⟨congrArg some ?_, rfl⟩
                      repeat (first | (rw [if_pos (by assumption)]; done) | rw [if_neg (by omega)])
                    · skip
                      by_cases zq5 : w = 2
                      · refine hy_tsw (i := 69) (tt := 78) rfl (by rw [zq5]; rfl) ?_
                        refine hy_aload (i := 78) rfl rfl ?_
                        refine hy_getr (i := 79) rfl rfl ?_
                        refine hy_cV0e (i := 80) rfl mj_L_clauses (by decide) rfl (Nat.le_of_ble_eq_true rfl) rfl rfl rfl (c_L_clauses) ?_
                        refine hy_ireturn (i := 81) rfl rfl ?_
                        refine ⟨congrArg some ?_, rfl⟩
                        repeat (first | (rw [if_pos (by assumption)]; done) | rw [if_neg (by omega)])
                      · skip
                        by_cases zq5 : w = 3
                        · refine hy_tsw (i := 69) (tt := 82) rfl (by rw [zq5]; rfl) ?_
                          refine hy_aload (i := 82) rfl rfl ?_
                          refine hy_getr (i := 83) rfl rfl ?_
                          refine hy_cV0e (i := 84) rfl mj_T_length (by decide) rfl (Nat.le_of_ble_eq_true rfl) rfl rfl rfl (c_T_length) ?_
                          refine hy_ireturn (i := 85) rfl rfl ?_
                          refine ⟨congrArg some ?_, rfl⟩
                          repeat (first | (rw [if_pos (by assumption)]; done) | rw [if_neg (by omega)])
                        · skip
                          by_cases zq5 : w = 4
                          · refine hy_tsw (i := 69) (tt := 86) rfl (by rw [zq5]; rfl) ?_
                            refine hy_aload (i := 86) rfl rfl ?_
                            refine hy_getr (i := 87) rfl rfl ?_
                            refine hy_cV0e (i := 88) rfl mj_S_draw (by decide) rfl (Nat.le_of_ble_eq_true rfl) rfl rfl rfl (c_S_draw_33) ?_
                            refine hy_ireturn (i := 89) rfl rfl ?_
                            refine ⟨congrArg some ?_, rfl⟩
                            repeat (first | (rw [if_pos (by assumption)]; done) | rw [if_neg (by omega)])
                          · skip
                            by_cases zq5 : w = 5
                            · refine hy_tsw (i := 69) (tt := 90) rfl (by rw [zq5]; rfl) ?_
                              refine hy_aload (i := 90) rfl rfl ?_
                              refine hy_getr (i := 91) rfl rfl ?_
                              refine hy_cV0e (i := 92) rfl mj_S_day (by decide) rfl (Nat.le_of_ble_eq_true rfl) rfl rfl rfl (c_S_day_33) ?_
                              refine hy_ireturn (i := 93) rfl rfl ?_
                              refine ⟨congrArg some ?_, rfl⟩
                              repeat (first | (rw [if_pos (by assumption)]; done) | rw [if_neg (by omega)])
                            · skip
                              by_cases zq5 : w = 6
                              · refine hy_tsw (i := 69) (tt := 94) rfl (by rw [zq5]; rfl) ?_
                                refine hy_aload (i := 94) rfl rfl ?_
                                refine hy_getr (i := 95) rfl rfl ?_
                                refine hy_cV0e (i := 96) rfl mj_S_treatyCount (by decide) rfl (Nat.le_of_ble_eq_true rfl) rfl rfl rfl (c_S_treatyCount_33) ?_
                                refine hy_ireturn (i := 97) rfl rfl ?_
                                refine ⟨congrArg some ?_, rfl⟩
                                repeat (first | (rw [if_pos (by assumption)]; done) | rw [if_neg (by omega)])
                              · skip
                                refine hy_tsw (i := 69) (tt := 98) rfl (by rcases (show w < 0 ∨ 6 < w by omega) with hh | hh <;> first | (rw [if_pos (by omega)]; rfl) | (rw [hh]; rfl)) ?_
                                refine hy_const (i := 98) rfl (by decide) ?_
                                refine hy_ireturn (i := 99) rfl rfl ?_
                                refine ⟨congrArg some ?_, rfl⟩
                                repeat (first | (rw [if_pos (by assumption)]; done) | rw [if_neg (by omega)])
                · simp only [decide_eq_true_eq, decide_eq_false_iff_not] at zc4; omega
              · simp only [decide_eq_true_eq, decide_eq_false_iff_not] at zc3; omega
            · simp only [decide_eq_true_eq, decide_eq_false_iff_not] at zc2; omega
          · simp only [decide_eq_true_eq, decide_eq_false_iff_not] at zc1; omega
end WD
