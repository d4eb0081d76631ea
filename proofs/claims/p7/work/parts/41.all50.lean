/-! the class's own methods: refusals, count -/
theorem wf_sub {w k : Int} (hR : hy_R w) (hk : 0 ≤ k ∧ k ≤ 1000) : (-2147483648 ≤ w - k → (Int32.ofInt (w - k)).toInt = w - k) ∧ (w - k < -2147483648 → 2000000000 < (Int32.ofInt (w - k)).toInt) := by
  obtain ⟨h1, h2⟩ := hR
  rw [Int32.toInt_ofInt]
  constructor
  · intro h
    simp only [Int.bmod, Int32.size]
    omega
  · intro h
    simp only [Int.bmod, Int32.size]
    omega
def wf_count (t : hy_T) (w : Int) : Int :=
  if 10 ≤ w ∧ w < 22 then (if sp_told (t 5 3) (w - 10) = true then 100 * t 6 (w - 10).toNat + t 7 (w - 10).toNat else -1)
  else if 100 ≤ w ∧ w < 148 then (if wf_plain t ((w - 100) / 4) = true then sp_hav (t 34) ((w - 100) / 4) ((w - 100) % 4) else -1)
  else if 200 ≤ w ∧ w < 264 then t 9 (w - 200).toNat
  else if 300 ≤ w ∧ w < 364 then t 35 (w - 300).toNat
  else if w = 0 then t 5 2 else if w = 1 then t 5 3 else if w = 2 then t 11 7 else if w = 3 then t 3 1 else if w = 4 then t 33 5 else if w = 5 then t 33 4 else if w = 6 then t 33 3 else -1
section WD
variable {sc : List Int32} {t : hy_T}
theorem c_W_treaties0 {n : Int} (h : ¬ (1 ≤ n ∧ n ≤ 120 ∧ n ≤ t 3 1)) : hy_Ct sc hm_W_treaties 5 [.inr (some 2), .inl n] t (hy_e (some (-1)) t) := by
  refine hy_mk_ct ok_W_treaties ck_W_treaties (Nat.le_of_ble_eq_true rfl) ?_
  refine hy_aload (i := 0) rfl rfl ?_
  refine hy_iload (i := 1) rfl rfl ?_
  refine hy_const (i := 2) rfl (by decide) ?_
  refine hy_cV2e (i := 3) rfl mj_W_isOnTape (by decide) rfl (Nat.le_of_ble_eq_true rfl) rfl rfl rfl (c_W_isOnTape) ?_
  refine hy_ib_ne (i := 4) (tt := 7) rfl (fun zc1 => ?_) (fun zc1 => ?_)
  · simp only [decide_eq_true_eq, decide_eq_false_iff_not] at zc1; omega
  · refine hy_const (i := 5) rfl (by decide) ?_
    refine hy_ireturn (i := 6) rfl rfl ?_
    exact ⟨rfl, rfl⟩
theorem c_W_judged0 {n : Int} (h : ¬ (1 ≤ n ∧ n ≤ 120 ∧ n ≤ t 3 1)) : hy_Ct sc hm_W_judged 5 [.inr (some 2), .inl n] t (hy_e (some (-1)) t) := by
  refine hy_mk_ct ok_W_judged ck_W_judged (Nat.le_of_ble_eq_true rfl) ?_
  refine hy_aload (i := 0) rfl rfl ?_
  refine hy_iload (i := 1) rfl rfl ?_
  refine hy_const (i := 2) rfl (by decide) ?_
  refine hy_cV2e (i := 3) rfl mj_W_isOnTape (by decide) rfl (Nat.le_of_ble_eq_true rfl) rfl rfl rfl (c_W_isOnTape) ?_
  refine hy_ib_ne (i := 4) (tt := 7) rfl (fun zc1 => ?_) (fun zc1 => ?_)
  · simp only [decide_eq_true_eq, decide_eq_false_iff_not] at zc1; omega
  · refine hy_const (i := 5) rfl (by decide) ?_
    refine hy_ireturn (i := 6) rfl rfl ?_
    exact ⟨rfl, rfl⟩
theorem c_W_way0 {a b u e q w : Int} (h : sp_told (t 5 2) u = false) : hy_Ct sc hm_W_way 5 [.inr (some 2), .inl a, .inl b, .inl u, .inl e, .inl q, .inl w] t (hy_e (some (-1)) t) := by
  refine hy_mk_ct ok_W_way ck_W_way (Nat.le_of_ble_eq_true rfl) ?_
  refine hy_iload (i := 0) rfl rfl ?_
  refine hy_const (i := 1) rfl (by decide) ?_
  refine hy_cS2e (i := 2) rfl (by decide) mj_W_isAmong (by decide) rfl (Nat.le_of_ble_eq_true rfl) (c_W_isAmong) ?_
  refine hy_ib_eq (i := 3) (tt := 13) rfl (fun zc1 => ?_) (fun zc1 => ?_)
  · refine hy_const (i := 13) rfl (by decide) ?_
    refine hy_ireturn (i := 14) rfl rfl ?_
    exact ⟨rfl, rfl⟩
  · refine hy_iload (i := 4) rfl rfl ?_
    refine hy_const (i := 5) rfl (by decide) ?_
    refine hy_cS2e (i := 6) rfl (by decide) mj_W_isAmong (by decide) rfl (Nat.le_of_ble_eq_true rfl) (c_W_isAmong) ?_
    refine hy_ib_eq (i := 7) (tt := 13) rfl (fun zc2 => ?_) (fun zc2 => ?_)
    · refine hy_const (i := 13) rfl (by decide) ?_
      refine hy_ireturn (i := 14) rfl rfl ?_
      exact ⟨rfl, rfl⟩
    · refine hy_aload (i := 8) rfl rfl ?_
      refine hy_getr (i := 9) rfl rfl ?_
      refine hy_iload (i := 10) rfl rfl ?_
      refine hy_cV1e (i := 11) rfl mj_P_isTold (by decide) rfl (Nat.le_of_ble_eq_true rfl) rfl rfl rfl (c_P_isTold) ?_
      refine hy_ib_ne (i := 12) (tt := 15) rfl (fun zc3 => ?_) (fun zc3 => ?_)
      · rw [h] at zc3; cases zc3
      · refine hy_const (i := 13) rfl (by decide) ?_
        refine hy_ireturn (i := 14) rfl rfl ?_
        exact ⟨rfl, rfl⟩
theorem c_W_gain0 {e c q : Int} (h : wf_plain t c = false) : hy_Ct sc hm_W_gain 6 [.inr (some 2), .inl e, .inl c, .inl q] t (hy_e (some (-1000000000)) t) := by
  refine hy_mk_ct ok_W_gain ck_W_gain (Nat.le_of_ble_eq_true rfl) ?_
  refine hy_iload (i := 0) rfl rfl ?_
  refine hy_cS1e (i := 1) rfl (by decide) mj_W_isEmpire (by decide) rfl (Nat.le_of_ble_eq_true rfl) (c_W_isEmpire) ?_
  refine hy_ib_eq (i := 2) (tt := 11) rfl (fun zc1 => ?_) (fun zc1 => ?_)
  · refine hy_const (i := 11) rfl (by decide) ?_
    refine hy_ireturn (i := 12) rfl rfl ?_
    exact ⟨rfl, rfl⟩
  · refine hy_aload (i := 3) rfl rfl ?_
    refine hy_getr (i := 4) rfl rfl ?_
    refine hy_iload (i := 5) rfl rfl ?_
    refine hy_cV1e (i := 6) rfl mj_P_isPlain (by decide) rfl (Nat.le_of_ble_eq_true rfl) rfl rfl rfl (c_P_isPlain) ?_
    refine hy_ib_eq (i := 7) (tt := 11) rfl (fun zc2 => ?_) (fun zc2 => ?_)
    · refine hy_const (i := 11) rfl (by decide) ?_
      refine hy_ireturn (i := 12) rfl rfl ?_
      exact ⟨rfl, rfl⟩
    · exact absurd (show wf_plain t c = true from zc2) (by rw [h]; decide)
theorem c_W_power0 {cs c e q w : Int} (h : hz_iand cs (hz_ixor (hz_iand (t 5 2) (hz_ixor (t 5 3) (-1))) (-1)) ≠ 0 ∨ sp_bc cs < 1) : hy_Ct sc hm_W_power 6 [.inr (some 2), .inl cs, .inl c, .inl e, .inl q, .inl w] t (hy_e (some (-1000000000)) t) := by
  refine hy_mk_ct ok_W_power ck_W_power (Nat.le_of_ble_eq_true rfl) ?_
  by_cases h2 : hz_iand cs (hz_ixor (hz_iand (t 5 2) (hz_ixor (t 5 3) (-1))) (-1)) = 0
  · skip
    refine hy_iload (i := 0) rfl rfl ?_
    refine hy_cS1e (i := 1) rfl (by decide) mj_J_bitCount (by decide) rfl (Nat.le_of_ble_eq_true rfl) (c_J_bitCount) ?_
    refine hy_istore (i := 2) rfl ?_
    refine hy_aload (i := 3) rfl rfl ?_
    refine hy_getr (i := 4) rfl rfl ?_
    refine hy_iload (i := 5) rfl rfl ?_
    refine hy_cV1e (i := 6) rfl mj_P_arePlain (by decide) rfl (Nat.le_of_ble_eq_true rfl) rfl rfl rfl (c_P_arePlain) ?_
    refine hy_ib_eq (i := 7) (tt := 14) rfl (fun zc1 => ?_) (fun zc1 => ?_)
    · refine hy_const (i := 14) rfl (by decide) ?_
      refine hy_ireturn (i := 15) rfl rfl ?_
      exact ⟨rfl, rfl⟩
    · refine hy_iload (i := 8) rfl rfl ?_
      refine hy_const (i := 9) rfl (by decide) ?_
      refine hy_ic_lt (i := 10) (tt := 14) rfl (fun zc2 => ?_) (fun zc2 => ?_)
      · refine hy_const (i := 14) rfl (by decide) ?_
        refine hy_ireturn (i := 15) rfl rfl ?_
        exact ⟨rfl, rfl⟩
      · omega
  · skip
    refine hy_iload (i := 0) rfl rfl ?_
    refine hy_cS1e (i := 1) rfl (by decide) mj_J_bitCount (by decide) rfl (Nat.le_of_ble_eq_true rfl) (c_J_bitCount) ?_
    refine hy_istore (i := 2) rfl ?_
    refine hy_aload (i := 3) rfl rfl ?_
    refine hy_getr (i := 4) rfl rfl ?_
    refine hy_iload (i := 5) rfl rfl ?_
    refine hy_cV1e (i := 6) rfl mj_P_arePlain (by decide) rfl (Nat.le_of_ble_eq_true rfl) rfl rfl rfl (c_P_arePlain) ?_
    refine hy_ib_eq (i := 7) (tt := 14) rfl (fun zc1 => ?_) (fun zc1 => ?_)
    · refine hy_const (i := 14) rfl (by decide) ?_
      refine hy_ireturn (i := 15) rfl rfl ?_
      exact ⟨rfl, rfl⟩
    · exact absurd (of_decide_eq_true zc1) h2
theorem c_W_parted0 {m w : Int} (h : t 3 1 < 8) : hy_Ct sc hm_W_parted 4 [.inr (some 2), .inl m, .inl w] t (hy_e (some (-1)) t) := by
  refine hy_mk_ct ok_W_parted ck_W_parted (Nat.le_of_ble_eq_true rfl) ?_
  refine hy_iload (i := 0) rfl rfl ?_
  refine hy_const (i := 1) rfl (by decide) ?_
  refine hy_isubw (i := 2) rfl ?_
  refine hy_cS1e (i := 3) rfl (by decide) mj_W_isQuarter (by decide) rfl (Nat.le_of_ble_eq_true rfl) (c_W_isQuarter) ?_
  refine hy_istore (i := 4) rfl ?_
  refine hy_iload (i := 5) rfl rfl ?_
  refine hy_const (i := 6) rfl (by decide) ?_
  refine hy_ic_lt (i := 7) (tt := 24) rfl (fun zc1 => ?_) (fun zc1 => ?_)
  · refine hy_const (i := 24) rfl (by decide) ?_
    refine hy_ireturn (i := 25) rfl rfl ?_
    exact ⟨rfl, rfl⟩
  · refine hy_iload (i := 8) rfl rfl ?_
    refine hy_const (i := 9) rfl (by decide) ?_
    refine hy_ic_gt (i := 10) (tt := 24) rfl (fun zc2 => ?_) (fun zc2 => ?_)
    · refine hy_const (i := 24) rfl (by decide) ?_
      refine hy_ireturn (i := 25) rfl rfl ?_
      exact ⟨rfl, rfl⟩
    · refine hy_iload (i := 11) rfl rfl ?_
      refine hy_const (i := 12) rfl (by decide) ?_
      refine hy_cS2e (i := 13) rfl (by decide) mj_W_isAmong (by decide) rfl (Nat.le_of_ble_eq_true rfl) (c_W_isAmong) ?_
      refine hy_ib_ne (i := 14) (tt := 17) rfl (fun zc3 => ?_) (fun zc3 => ?_)
      · refine hy_aload (i := 17) rfl rfl ?_
        refine hy_getr (i := 18) rfl rfl ?_
        refine hy_cV0e (i := 19) rfl mj_T_length (by decide) rfl (Nat.le_of_ble_eq_true rfl) rfl rfl rfl (c_T_length) ?_
        refine hy_const (i := 20) rfl (by decide) ?_
        refine hy_iload (i := 21) rfl rfl ?_
        refine hy_imul (i := 22) rfl (by omega) ?_
        refine hy_ic_ge (i := 23) (tt := 26) rfl (fun zc4 => ?_) (fun zc4 => ?_)
        · omega
        · refine hy_const (i := 24) rfl (by decide) ?_
          refine hy_ireturn (i := 25) rfl rfl ?_
          exact ⟨rfl, rfl⟩
      · refine hy_iload (i := 15) rfl rfl ?_
        refine hy_ib_eq (i := 16) (tt := 24) rfl (fun zc4 => ?_) (fun zc4 => ?_)
        · refine hy_const (i := 24) rfl (by decide) ?_
          refine hy_ireturn (i := 25) rfl rfl ?_
          exact ⟨rfl, rfl⟩
        · refine hy_aload (i := 17) rfl rfl ?_
          refine hy_getr (i := 18) rfl rfl ?_
          refine hy_cV0e (i := 19) rfl mj_T_length (by decide) rfl (Nat.le_of_ble_eq_true rfl) rfl rfl rfl (c_T_length) ?_
          refine hy_const (i := 20) rfl (by decide) ?_
          refine hy_iload (i := 21) rfl rfl ?_
          refine hy_imul (i := 22) rfl (by omega) ?_
          refine hy_ic_ge (i := 23) (tt := 26) rfl (fun zc5 => ?_) (fun zc5 => ?_)
          · omega
          · refine hy_const (i := 24) rfl (by decide) ?_
            refine hy_ireturn (i := 25) rfl rfl ?_
            exact ⟨rfl, rfl⟩
theorem c_W_spies0 {n w : Int} (h : t 3 1 < 3) : hy_Ct sc hm_W_spies 6 [.inr (some 2), .inl n, .inl w] t (hy_e (some (-1)) t) := by
  refine hy_mk_ct ok_W_spies ck_W_spies (Nat.le_of_ble_eq_true rfl) ?_
  refine hy_iload (i := 0) rfl rfl ?_
  refine hy_const (i := 1) rfl (by decide) ?_
  refine hy_ic_lt (i := 2) (tt := 17) rfl (fun zc1 => ?_) (fun zc1 => ?_)
  · refine hy_const (i := 17) rfl (by decide) ?_
    refine hy_ireturn (i := 18) rfl rfl ?_
    exact ⟨rfl, rfl⟩
  · refine hy_iload (i := 3) rfl rfl ?_
    refine hy_const (i := 4) rfl (by decide) ?_
    refine hy_ic_gt (i := 5) (tt := 17) rfl (fun zc2 => ?_) (fun zc2 => ?_)
    · refine hy_const (i := 17) rfl (by decide) ?_
      refine hy_ireturn (i := 18) rfl rfl ?_
      exact ⟨rfl, rfl⟩
    · refine hy_iload (i := 6) rfl rfl ?_
      refine hy_const (i := 7) rfl (by decide) ?_
      refine hy_cS2e (i := 8) rfl (by decide) mj_W_isAmong (by decide) rfl (Nat.le_of_ble_eq_true rfl) (c_W_isAmong) ?_
      refine hy_ib_eq (i := 9) (tt := 17) rfl (fun zc3 => ?_) (fun zc3 => ?_)
      · refine hy_const (i := 17) rfl (by decide) ?_
        refine hy_ireturn (i := 18) rfl rfl ?_
        exact ⟨rfl, rfl⟩
      · refine hy_aload (i := 10) rfl rfl ?_
        refine hy_getr (i := 11) rfl rfl ?_
        refine hy_cV0e (i := 12) rfl mj_T_length (by decide) rfl (Nat.le_of_ble_eq_true rfl) rfl rfl rfl (c_T_length) ?_
        refine hy_const (i := 13) rfl (by decide) ?_
        refine hy_iload (i := 14) rfl rfl ?_
        refine hy_imul (i := 15) rfl (by omega) ?_
        refine hy_ic_ge (i := 16) (tt := 19) rfl (fun zc4 => ?_) (fun zc4 => ?_)
        · omega
        · refine hy_const (i := 17) rfl (by decide) ?_
          refine hy_ireturn (i := 18) rfl rfl ?_
          exact ⟨rfl, rfl⟩
theorem c_W_count {w : Int} (hR : hy_R w) (hf : ∀ j : Nat, j < 12 → -1 ≤ t 6 j ∧ t 6 j < 12) (hs : ∀ j : Nat, j < 12 → -1 ≤ t 7 j ∧ t 7 j < 12) : hy_Ct sc hm_W_count 3 [.inr (some 2), .inl w] t (hy_e (some (wf_count t w)) t) := by
  refine hy_mk_ct ok_W_count ck_W_count (Nat.le_of_ble_eq_true rfl) ?_
  have e10 := wf_sub hR (k := 10) (by decide)
  have e100 := wf_sub hR (k := 100) (by decide)
  have e200 := wf_sub hR (k := 200) (by decide)
  have e300 := wf_sub hR (k := 300) (by decide)
  unfold wf_count
  by_cases q1 : 10 ≤ w ∧ w < 22
  · rw [if_pos q1]
    have d10 := e10.1 (by omega)
    refine hy_iload (i := 0) rfl rfl ?_
    refine hy_const (i := 1) rfl (by decide) ?_
    refine hy_isubw (i := 2) rfl ?_
    rw [d10]
    refine hy_const (i := 3) rfl (by decide) ?_
    refine hy_cS2e (i := 4) rfl (by decide) mj_W_isAmong (by decide) rfl (Nat.le_of_ble_eq_true rfl) (c_W_isAmong) ?_
    refine hy_ib_eq (i := 5) (tt := 13) rfl (fun zc1 => ?_) (fun zc1 => ?_)
    · simp only [decide_eq_true_eq, decide_eq_false_iff_not] at zc1; omega
    · refine hy_aload (i := 6) rfl rfl ?_
      refine hy_getr (i := 7) rfl rfl ?_
      refine hy_iload (i := 8) rfl rfl ?_
      refine hy_const (i := 9) rfl (by decide) ?_
      refine hy_isub (i := 10) rfl (by omega) ?_
      refine hy_cV1e (i := 11) rfl mj_P_parts (by decide) rfl (Nat.le_of_ble_eq_true rfl) rfl rfl rfl (c_P_parts hf hs) ?_
      refine hy_ireturn (i := 12) rfl rfl ?_
      exact ⟨rfl, rfl⟩
  · rw [if_neg q1]
    by_cases q2 : 100 ≤ w ∧ w < 148
    · rw [if_pos q2]
      have d10 := e10.1 (by omega)
      have d100 := e100.1 (by omega)
      refine hy_iload (i := 0) rfl rfl ?_
      refine hy_const (i := 1) rfl (by decide) ?_
      refine hy_isubw (i := 2) rfl ?_
      rw [d10]
      refine hy_const (i := 3) rfl (by decide) ?_
      refine hy_cS2e (i := 4) rfl (by decide) mj_W_isAmong (by decide) rfl (Nat.le_of_ble_eq_true rfl) (c_W_isAmong) ?_
      refine hy_ib_eq (i := 5) (tt := 13) rfl (fun zc1 => ?_) (fun zc1 => ?_)
      · refine hy_iload (i := 13) rfl rfl ?_
        refine hy_const (i := 14) rfl (by decide) ?_
        refine hy_isubw (i := 15) rfl ?_
        rw [d100]
        refine hy_const (i := 16) rfl (by decide) ?_
        refine hy_cS2e (i := 17) rfl (by decide) mj_W_isAmong (by decide) rfl (Nat.le_of_ble_eq_true rfl) (c_W_isAmong) ?_
        refine hy_ib_eq (i := 18) (tt := 42) rfl (fun zc2 => ?_) (fun zc2 => ?_)
        · simp only [decide_eq_true_eq, decide_eq_false_iff_not] at zc2; omega
        · refine hy_iload (i := 19) rfl rfl ?_
          refine hy_const (i := 20) rfl (by decide) ?_
          refine hy_isub (i := 21) rfl (by omega) ?_
          refine hy_const (i := 22) rfl (by decide) ?_
          refine hy_idiv (i := 23) rfl (by omega) (by omega) ?_
          refine hy_istore (i := 24) rfl ?_
          refine hy_aload (i := 25) rfl rfl ?_
          refine hy_getr (i := 26) rfl rfl ?_
          refine hy_iload (i := 27) rfl rfl ?_
          refine hy_cV1e (i := 28) rfl mj_P_isPlain (by decide) rfl (Nat.le_of_ble_eq_true rfl) rfl rfl rfl (c_P_isPlain) ?_
          refine hy_ib_eq (i := 29) (tt := 40) rfl (fun zc3 => ?_) (fun zc3 => ?_)
          · refine hy_const (i := 40) rfl (by decide) ?_
            refine hy_ireturn (i := 41) rfl rfl ?_
            exact ⟨congrArg some (by first | (rw [if_pos (show wf_plain t ((w - 100) / 4) = true by assumption)]; done) | (rw [if_neg (show ¬ wf_plain t ((w - 100) / 4) = true by rw [show wf_plain t ((w - 100) / 4) = false by assumption]; decide)]; done)), rfl⟩
          · refine hy_aload (i := 30) rfl rfl ?_
            refine hy_getr (i := 31) rfl rfl ?_
            refine hy_iload (i := 32) rfl rfl ?_
            refine hy_iload (i := 33) rfl rfl ?_
            refine hy_const (i := 34) rfl (by decide) ?_
            refine hy_isub (i := 35) rfl (by omega) ?_
            refine hy_const (i := 36) rfl (by decide) ?_
            refine hy_irem (i := 37) rfl (by omega) (by omega) ?_
            refine hy_cV2e (i := 38) rfl mj_S_havers (by decide) rfl (Nat.le_of_ble_eq_true rfl) rfl rfl rfl (c_S_havers_33) ?_
            refine hy_goto (i := 39) (tt := 41) rfl ?_
            refine hy_ireturn (i := 41) rfl rfl ?_
            exact ⟨congrArg some (by first | (rw [if_pos (show wf_plain t ((w - 100) / 4) = true by assumption)]; done) | (rw [if_neg (show ¬ wf_plain t ((w - 100) / 4) = true by rw [show wf_plain t ((w - 100) / 4) = false by assumption]; decide)]; done)), rfl⟩
      · simp only [decide_eq_true_eq, decide_eq_false_iff_not] at zc1; omega
    · rw [if_neg q2]
      by_cases q3 : 200 ≤ w ∧ w < 264
      · rw [if_pos q3]
        have d10 := e10.1 (by omega)
        have d100 := e100.1 (by omega)
        have d200 := e200.1 (by omega)
        refine hy_iload (i := 0) rfl rfl ?_
        refine hy_const (i := 1) rfl (by decide) ?_
        refine hy_isubw (i := 2) rfl ?_
        rw [d10]
        refine hy_const (i := 3) rfl (by decide) ?_
        refine hy_cS2e (i := 4) rfl (by decide) mj_W_isAmong (by decide) rfl (Nat.le_of_ble_eq_true rfl) (c_W_isAmong) ?_
        refine hy_ib_eq (i := 5) (tt := 13) rfl (fun zc1 => ?_) (fun zc1 => ?_)
        · refine hy_iload (i := 13) rfl rfl ?_
          refine hy_const (i := 14) rfl (by decide) ?_
          refine hy_isubw (i := 15) rfl ?_
          rw [d100]
          refine hy_const (i := 16) rfl (by decide) ?_
          refine hy_cS2e (i := 17) rfl (by decide) mj_W_isAmong (by decide) rfl (Nat.le_of_ble_eq_true rfl) (c_W_isAmong) ?_
          refine hy_ib_eq (i := 18) (tt := 42) rfl (fun zc2 => ?_) (fun zc2 => ?_)
          · refine hy_iload (i := 42) rfl rfl ?_
            refine hy_const (i := 43) rfl (by decide) ?_
            refine hy_isubw (i := 44) rfl ?_
            rw [d200]
            refine hy_const (i := 45) rfl (by decide) ?_
            refine hy_cS2e (i := 46) rfl (by decide) mj_W_isAmong (by decide) rfl (Nat.le_of_ble_eq_true rfl) (c_W_isAmong) ?_
            refine hy_ib_eq (i := 47) (tt := 55) rfl (fun zc3 => ?_) (fun zc3 => ?_)
            · simp only [decide_eq_true_eq, decide_eq_false_iff_not] at zc3; omega
            · refine hy_aload (i := 48) rfl rfl ?_
              refine hy_getr (i := 49) rfl rfl ?_
              refine hy_iload (i := 50) rfl rfl ?_
              refine hy_const (i := 51) rfl (by decide) ?_
              refine hy_isub (i := 52) rfl (by omega) ?_
              refine hy_cV1e (i := 53) rfl mj_G_at (by decide) rfl (Nat.le_of_ble_eq_true rfl) rfl rfl rfl (c_G_at) ?_
              refine hy_ireturn (i := 54) rfl rfl ?_
              exact ⟨congrArg some (by rw [if_pos (by omega)]), rfl⟩
          · simp only [decide_eq_true_eq, decide_eq_false_iff_not] at zc2; omega
        · simp only [decide_eq_true_eq, decide_eq_false_iff_not] at zc1; omega
      · rw [if_neg q3]
        by_cases q4 : 300 ≤ w ∧ w < 364
        · rw [if_pos q4]
          have d10 := e10.1 (by omega)
          have d100 := e100.1 (by omega)
          have d200 := e200.1 (by omega)
          have d300 := e300.1 (by omega)
          refine hy_iload (i := 0) rfl rfl ?_
          refine hy_const (i := 1) rfl (by decide) ?_
          refine hy_isubw (i := 2) rfl ?_
          rw [d10]
          refine hy_const (i := 3) rfl (by decide) ?_
          refine hy_cS2e (i := 4) rfl (by decide) mj_W_isAmong (by decide) rfl (Nat.le_of_ble_eq_true rfl) (c_W_isAmong) ?_
          refine hy_ib_eq (i := 5) (tt := 13) rfl (fun zc1 => ?_) (fun zc1 => ?_)
          · refine hy_iload (i := 13) rfl rfl ?_
            refine hy_const (i := 14) rfl (by decide) ?_
            refine hy_isubw (i := 15) rfl ?_
            rw [d100]
            refine hy_const (i := 16) rfl (by decide) ?_
            refine hy_cS2e (i := 17) rfl (by decide) mj_W_isAmong (by decide) rfl (Nat.le_of_ble_eq_true rfl) (c_W_isAmong) ?_
            refine hy_ib_eq (i := 18) (tt := 42) rfl (fun zc2 => ?_) (fun zc2 => ?_)
            · refine hy_iload (i := 42) rfl rfl ?_
              refine hy_const (i := 43) rfl (by decide) ?_
              refine hy_isubw (i := 44) rfl ?_
              rw [d200]
              refine hy_const (i := 45) rfl (by decide) ?_
              refine hy_cS2e (i := 46) rfl (by decide) mj_W_isAmong (by decide) rfl (Nat.le_of_ble_eq_true rfl) (c_W_isAmong) ?_
              refine hy_ib_eq (i := 47) (tt := 55) rfl (fun zc3 => ?_) (fun zc3 => ?_)
              · refine hy_iload (i := 55) rfl rfl ?_
                refine hy_const (i := 56) rfl (by decide) ?_
                refine hy_isubw (i := 57) rfl ?_
                rw [d300]
                refine hy_const (i := 58) rfl (by decide) ?_
                refine hy_cS2e (i := 59) rfl (by decide) mj_W_isAmong (by decide) rfl (Nat.le_of_ble_eq_true rfl) (c_W_isAmong) ?_
                refine hy_ib_eq (i := 60) (tt := 68) rfl (fun zc4 => ?_) (fun zc4 => ?_)
                · simp only [decide_eq_true_eq, decide_eq_false_iff_not] at zc4; omega
                · refine hy_aload (i := 61) rfl rfl ?_
                  refine hy_getr (i := 62) rfl rfl ?_
                  refine hy_iload (i := 63) rfl rfl ?_
                  refine hy_const (i := 64) rfl (by decide) ?_
                  refine hy_isub (i := 65) rfl (by omega) ?_
                  refine hy_cV1e (i := 66) rfl mj_S_ownerOf (by decide) rfl (Nat.le_of_ble_eq_true rfl) rfl rfl rfl (c_S_ownerOf_33) ?_
                  refine hy_ireturn (i := 67) rfl rfl ?_
                  exact ⟨congrArg some (by rw [if_pos (by omega)]), rfl⟩
              · simp only [decide_eq_true_eq, decide_eq_false_iff_not] at zc3; omega
            · simp only [decide_eq_true_eq, decide_eq_false_iff_not] at zc2; omega
          · simp only [decide_eq_true_eq, decide_eq_false_iff_not] at zc1; omega
        · rw [if_neg q4]
          refine hy_iload (i := 0) rfl rfl ?_
          refine hy_const (i := 1) rfl (by decide) ?_
          refine hy_isubw (i := 2) rfl ?_
          refine hy_const (i := 3) rfl (by decide) ?_
          refine hy_cS2e (i := 4) rfl (by decide) mj_W_isAmong (by decide) rfl (Nat.le_of_ble_eq_true rfl) (c_W_isAmong) ?_
          refine hy_ib_eq (i := 5) (tt := 13) rfl (fun zc1 => ?_) (fun zc1 => ?_)
          · refine hy_iload (i := 13) rfl rfl ?_
            refine hy_const (i := 14) rfl (by decide) ?_
            refine hy_isubw (i := 15) rfl ?_
            refine hy_const (i := 16) rfl (by decide) ?_
            refine hy_cS2e (i := 17) rfl (by decide) mj_W_isAmong (by decide) rfl (Nat.le_of_ble_eq_true rfl) (c_W_isAmong) ?_
            refine hy_ib_eq (i := 18) (tt := 42) rfl (fun zc2 => ?_) (fun zc2 => ?_)
            · refine hy_iload (i := 42) rfl rfl ?_
              refine hy_const (i := 43) rfl (by decide) ?_
              refine hy_isubw (i := 44) rfl ?_
              refine hy_const (i := 45) rfl (by decide) ?_
              refine hy_cS2e (i := 46) rfl (by decide) mj_W_isAmong (by decide) rfl (Nat.le_of_ble_eq_true rfl) (c_W_isAmong) ?_
              refine hy_ib_eq (i := 47) (tt := 55) rfl (fun zc3 => ?_) (fun zc3 => ?_)
              · refine hy_iload (i := 55) rfl rfl ?_
                refine hy_const (i := 56) rfl (by decide) ?_
                refine hy_isubw (i := 57) rfl ?_
                refine hy_const (i := 58) rfl (by decide) ?_
                refine hy_cS2e (i := 59) rfl (by decide) mj_W_isAmong (by decide) rfl (Nat.le_of_ble_eq_true rfl) (c_W_isAmong) ?_
                refine hy_ib_eq (i := 60) (tt := 68) rfl (fun zc4 => ?_) (fun zc4 => ?_)
                · refine hy_iload (i := 68) rfl rfl ?_
                  by_cases zq5 : w = 0
                  · refine hy_tsw (i := 69) (tt := 70) rfl (by rw [zq5]; rfl) ?_
                    refine hy_aload (i := 70) rfl rfl ?_
                    refine hy_getr (i := 71) rfl rfl ?_
                    refine hy_cV0e (i := 72) rfl mj_P_told (by decide) rfl (Nat.le_of_ble_eq_true rfl) rfl rfl rfl (c_P_told) ?_
                    refine hy_ireturn (i := 73) rfl rfl ?_
                    refine ⟨congrArg some ?_, rfl⟩
                    repeat (first | (rw [if_pos (by assumption)]; done) | rw [if_neg (by omega)])
                  · skip
                    by_cases zq5 : w = 1
                    · refine hy_tsw (i := 69) (tt := 74) rfl (by rw [zq5]; rfl) ?_
                      refine hy_aload (i := 74) rfl rfl ?_
                      refine hy_getr (i := 75) rfl rfl ?_
                      refine hy_cV0e (i := 76) rfl mj_P_mixed (by decide) rfl (Nat.le_of_ble_eq_true rfl) rfl rfl rfl (c_P_mixed) ?_
                      refine hy_ireturn (i := 77) rfl rfl ?_
                      refine ⟨congrArg some ?_, rfl⟩
                      repeat (first | (rw [if_pos (by assumption)]; done) | rw [if_neg (by omega)])
                    · skip
                      by_cases zq5 : w = 2
                      · refine hy_tsw (i := 69) (tt := 78) rfl (by rw [zq5]; rfl) ?_
                        refine hy_aload (i := 78) rfl rfl ?_
                        refine hy_getr (i := 79) rfl rfl ?_
                        refine hy_cV0e (i := 80) rfl mj_L_clauses (by decide) rfl (Nat.le_of_ble_eq_true rfl) rfl rfl rfl (c_L_clauses) ?_
                        refine hy_ireturn (i := 81) rfl rfl ?_
                        refine ⟨congrArg some ?_, rfl⟩
                        repeat (first | (rw [if_pos (by assumption)]; done) | rw [if_neg (by omega)])
                      · skip
                        by_cases zq5 : w = 3
                        · refine hy_tsw (i := 69) (tt := 82) rfl (by rw [zq5]; rfl) ?_
                          refine hy_aload (i := 82) rfl rfl ?_
                          refine hy_getr (i := 83) rfl rfl ?_
                          refine hy_cV0e (i := 84) rfl mj_T_length (by decide) rfl (Nat.le_of_ble_eq_true rfl) rfl rfl rfl (c_T_length) ?_
                          refine hy_ireturn (i := 85) rfl rfl ?_
                          refine ⟨congrArg some ?_, rfl⟩
                          repeat (first | (rw [if_pos (by assumption)]; done) | rw [if_neg (by omega)])
                        · skip
                          by_cases zq5 : w = 4
                          · refine hy_tsw (i := 69) (tt := 86) rfl (by rw [zq5]; rfl) ?_
                            refine hy_aload (i := 86) rfl rfl ?_
                            refine hy_getr (i := 87) rfl rfl ?_
                            refine hy_cV0e (i := 88) rfl mj_S_draw (by decide) rfl (Nat.le_of_ble_eq_true rfl) rfl rfl rfl (c_S_draw_33) ?_
                            refine hy_ireturn (i := 89) rfl rfl ?_
                            refine ⟨congrArg some ?_, rfl⟩
                            repeat (first | (rw [if_pos (by assumption)]; done) | rw [if_neg (by omega)])
                          · skip
                            by_cases zq5 : w = 5
                            · refine hy_tsw (i := 69) (tt := 90) rfl (by rw [zq5]; rfl) ?_
                              refine hy_aload (i := 90) rfl rfl ?_
                              refine hy_getr (i := 91) rfl rfl ?_
                              refine hy_cV0e (i := 92) rfl mj_S_day (by decide) rfl (Nat.le_of_ble_eq_true rfl) rfl rfl rfl (c_S_day_33) ?_
                              refine hy_ireturn (i := 93) rfl rfl ?_
                              refine ⟨congrArg some ?_, rfl⟩
                              repeat (first | (rw [if_pos (by assumption)]; done) | rw [if_neg (by omega)])
                            · skip
                              by_cases zq5 : w = 6
                              · refine hy_tsw (i := 69) (tt := 94) rfl (by rw [zq5]; rfl) ?_
                                refine hy_aload (i := 94) rfl rfl ?_
                                refine hy_getr (i := 95) rfl rfl ?_
                                refine hy_cV0e (i := 96) rfl mj_S_treatyCount (by decide) rfl (Nat.le_of_ble_eq_true rfl) rfl rfl rfl (c_S_treatyCount_33) ?_
                                refine hy_ireturn (i := 97) rfl rfl ?_
                                refine ⟨congrArg some ?_, rfl⟩
                                repeat (first | (rw [if_pos (by assumption)]; done) | rw [if_neg (by omega)])
                              · skip
                                refine hy_tsw (i := 69) (tt := 98) rfl (by rcases (show w < 0 ∨ 6 < w by omega) with hh | hh <;> first | (rw [if_pos (by omega)]; rfl) | (rw [hh]; rfl)) ?_
                                refine hy_const (i := 98) rfl (by decide) ?_
                                refine hy_ireturn (i := 99) rfl rfl ?_
                                refine ⟨congrArg some ?_, rfl⟩
                                repeat (first | (rw [if_pos (by assumption)]; done) | rw [if_neg (by omega)])
                · simp only [decide_eq_true_eq, decide_eq_false_iff_not] at zc4; omega
              · simp only [decide_eq_true_eq, decide_eq_false_iff_not] at zc3; omega
            · simp only [decide_eq_true_eq, decide_eq_false_iff_not] at zc2; omega
          · simp only [decide_eq_true_eq, decide_eq_false_iff_not] at zc1; omega
end WD
/-! the class's signals -/
abbrev snX : Nat → Nat → Bool := fun r _ => r == 17 || r == 18 || r == 46 || r == 58
theorem snX_law {t t1 : hy_T} (h : hy_F snX t t1) : lc_same t t1 := lc_same_of h (fun r j q => by revert q; simp [lawX, snX]; omega)
theorem sn_seen {t t1 : hy_T} (h : hy_F snX t t1) (e q : Int) : sp_seen t1 e q = sp_seen t e q := by
  unfold sp_seen
  rw [sp_seenN_G h (snX_law h) rfl rfl (fun _ => rfl) (fun _ => rfl), show t1 34 = t 34 from funext fun j => h 34 j rfl]
theorem sn_as {t t1 : hy_T} (h : hy_F snX t t1) (s : Int) (f : Nat → Int) : ∀ n : Nat, sp_asN t1 s f n = sp_asN t s f n
  | 0 => rfl
  | n + 1 => by
    simp only [sp_asN]
    rw [sn_as h s f n, h 5 3 rfl, show t1 6 n = t 6 n from h 6 n rfl, show t1 7 n = t 7 n from h 7 n rfl]
def wf_alk (L : Nat → Int) (c : Int) : Int := sp_alikeN L (lk L c) 12
def wf_unl (w : Int) (L : Nat → Int) (c : Int) : Int := if lk L c = 12 then 0 else hz_ior (hz_iand (hz_iand w (hz_ixor (wf_alk L c) (-1))) (hz_ixor (wf_alk L 12) (-1))) (hz_ishl 1 c)
def wf_aL (t : hy_T) (q fr fo : Int) : Nat → Nat → Int
  | 0 => t 46
  | e + 1 => if hz_b fr e = true ∨ hz_b fo e = true then sp_asN t (sp_seen t e q) (wf_aL t q fr fo e) 12 else wf_aL t q fr fo e
def wf_pr (t : hy_T) (q fr fo : Int) : Nat → Nat → Int
  | 0, c => if sp_told (t 5 2) c = true then t 5 2 else 0
  | e + 1, c => if hz_b fr e = true then hz_iand (wf_pr t q fr fo e c) (wf_unl (t 5 2) (wf_aL t q fr fo (e + 1)) c) else if hz_b fo e = true then hz_iand (wf_pr t q fr fo e c) (wf_alk (wf_aL t q fr fo (e + 1)) c) else wf_pr t q fr fo e c
def wf_sig (P : Nat → Int) (s : Int) : Bool := decide (∀ c : Nat, c < 12 → hz_b s c = true → hz_iand s (hz_ixor (P c) (-1)) = 0)
def wf_setsN (P : Nat → Int) (n : Int) : Nat → Int
  | 0 => 0
  | k + 1 => if sp_bc k = n ∧ wf_sig P k = true then wf_setsN P n k + 1 else wf_setsN P n k
theorem wf_setsN_e (P : Nat → Int) (n : Int) (k : Nat) : wf_setsN P n (k + 1) = if sp_bc k = n ∧ wf_sig P k = true then wf_setsN P n k + 1 else wf_setsN P n k := rfl
theorem wf_setsN_in (P : Nat → Int) (n : Int) : ∀ k : Nat, 0 ≤ wf_setsN P n k ∧ wf_setsN P n k ≤ k
  | 0 => by simp [wf_setsN]
  | k + 1 => by
    have h := wf_setsN_in P n k
    simp only [wf_setsN]
    split <;> omega
def wf_firstN (P : Nat → Int) (n : Int) : Nat → Nat → Int
  | 0, _ => -2
  | m + 1, k => if sp_bc k = n ∧ wf_sig P k = true then (k : Int) else wf_firstN P n m (k + 1)
def wf_mostN (P : Nat → Int) : Nat → Int
  | 0 => 0
  | m + 1 => if 0 ≤ wf_firstN P ((m : Int) + 2) 4096 0 then (m : Int) + 2 else wf_mostN P m
section WS
variable {sc : List Int32} {t : hy_T}
theorem c_W_unlike {c : Int} : hy_Ct sc hm_W_unlike 3 [.inr (some 2), .inl c] t (hy_e (some (wf_unl (t 5 2) (t 46) c)) t) := by
  refine hy_mk_ct ok_W_unlike ck_W_unlike (Nat.le_of_ble_eq_true rfl) ?_
  refine hy_aload (i := 0) rfl rfl ?_
  refine hy_getr (i := 1) rfl rfl ?_
  refine hy_iload (i := 2) rfl rfl ?_
  refine hy_cV1e (i := 3) rfl mj_E_looks (by decide) rfl (Nat.le_of_ble_eq_true rfl) rfl rfl rfl (c_E_looks) ?_
  refine hy_const (i := 4) rfl (by decide) ?_
  refine hy_ic_ne (i := 5) (tt := 8) rfl (fun zc1 => ?_) (fun zc1 => ?_)
  · refine hy_aload (i := 8) rfl rfl ?_
    refine hy_getr (i := 9) rfl rfl ?_
    refine hy_cV0e (i := 10) rfl mj_P_told (by decide) rfl (Nat.le_of_ble_eq_true rfl) rfl rfl rfl (c_P_told) ?_
    refine hy_aload (i := 11) rfl rfl ?_
    refine hy_getr (i := 12) rfl rfl ?_
    refine hy_iload (i := 13) rfl rfl ?_
    refine hy_cV1e (i := 14) rfl mj_E_alike (by decide) rfl (Nat.le_of_ble_eq_true rfl) rfl rfl rfl (c_E_alike) ?_
    refine hy_const (i := 15) rfl (by decide) ?_
    refine hy_ixor (i := 16) rfl ?_
    refine hy_iand (i := 17) rfl ?_
    refine hy_aload (i := 18) rfl rfl ?_
    refine hy_getr (i := 19) rfl rfl ?_
    refine hy_const (i := 20) rfl (by decide) ?_
    refine hy_cV1e (i := 21) rfl mj_E_alike (by decide) rfl (Nat.le_of_ble_eq_true rfl) rfl rfl rfl (c_E_alike) ?_
    refine hy_const (i := 22) rfl (by decide) ?_
    refine hy_ixor (i := 23) rfl ?_
    refine hy_iand (i := 24) rfl ?_
    refine hy_const (i := 25) rfl (by decide) ?_
    refine hy_iload (i := 26) rfl rfl ?_
    refine hy_ishl (i := 27) rfl ?_
    refine hy_ior (i := 28) rfl ?_
    refine hy_ireturn (i := 29) rfl rfl ?_
    exact ⟨congrArg some (by unfold wf_unl; first | (rw [if_pos (by assumption)]; done) | (rw [if_neg (by assumption)]; rfl)), rfl⟩
  · refine hy_const (i := 6) rfl (by decide) ?_
    refine hy_goto (i := 7) (tt := 29) rfl ?_
    refine hy_ireturn (i := 29) rfl rfl ?_
    exact ⟨congrArg some (by unfold wf_unl; first | (rw [if_pos (by assumption)]; done) | (rw [if_neg (by assumption)]; rfl)), rfl⟩
theorem c_W_isSignalSet {s : Int} : hy_Ct sc hm_W_isSignalSet 1 [.inr (some 2), .inl s] t (hy_e (some (hy_b (wf_sig (t 58) s))) t) := by
  refine hy_mk_ct ok_W_isSignalSet ck_W_isSignalSet (Nat.le_of_ble_eq_true rfl) ?_
  have loop : ∀ (m : Nat), ∀ (k : Nat), m + k = 12 → (∀ c : Nat, c < k → hz_b s c = true → hz_iand s (hz_ixor (t 58 c) (-1)) = 0) → hy_W sc hm_W_isSignalSet 1 2 [.inr (some 2), .inl s, .inl (k : Int)] [] t (hy_e (some (hy_b (wf_sig (t 58) s))) t) := by
    intro m
    induction m with
    | zero =>
      intro k hm hk
      obtain rfl : k = 12 := by omega
      rw [show wf_sig (t 58) s = true from decide_eq_true hk]
      refine hy_iload (i := 2) rfl rfl ?_
      refine hy_const (i := 3) rfl (by decide) ?_
      refine hy_ic_ge (i := 4) (tt := 23) rfl (fun zc1 => ?_) (fun zc1 => ?_)
      · refine hy_const (i := 23) rfl (by decide) ?_
        refine hy_zreturn (i := 24) rfl rfl (by first | decide | exact hy_b01 _) ?_
        exact ⟨rfl, rfl⟩
      · omega
    | succ m ih =>
      intro k hm hk
      by_cases hb : hz_b s k = true
      · by_cases hp : hz_iand s (hz_ixor (t 58 k) (-1)) = 0
        · skip
          refine hy_iload (i := 2) rfl rfl ?_
          refine hy_const (i := 3) rfl (by decide) ?_
          refine hy_ic_ge (i := 4) (tt := 23) rfl (fun zc1 => ?_) (fun zc1 => ?_)
          · omega
          · refine hy_iload (i := 5) rfl rfl ?_
            refine hy_iload (i := 6) rfl rfl ?_
            refine hy_cS2e (i := 7) rfl (by decide) mj_W_bit (by decide) rfl (Nat.le_of_ble_eq_true rfl) (c_W_bit) ?_
            refine hy_const (i := 8) rfl (by decide) ?_
            refine hy_icb_ne (i := 9) (tt := 21) rfl (fun zc2 => ?_) (fun zc2 => ?_)
            · rw [hb] at zc2; cases zc2
            · refine hy_iload (i := 10) rfl rfl ?_
              refine hy_aload (i := 11) rfl rfl ?_
              refine hy_getr (i := 12) rfl rfl ?_
              refine hy_iload (i := 13) rfl rfl ?_
              refine hy_iald (i := 14) rfl rfl (by omega) (k := k) (by omega) ?_
              refine hy_const (i := 15) rfl (by decide) ?_
              refine hy_ixor (i := 16) rfl ?_
              refine hy_iand (i := 17) rfl ?_
              refine hy_if_eq (i := 18) (tt := 21) rfl (fun zc3 => ?_) (fun zc3 => ?_)
              · refine hy_iinc (i := 21) rfl rfl (by omega) ?_
                refine hy_goto (i := 22) (tt := 2) rfl ?_
                exact ih (k + 1) (by omega) (fun c hc h => if e : c = k then by rw [e]; exact hp else hk c (by omega) h)
              · omega
        · rw [show wf_sig (t 58) s = false from decide_eq_false (fun h => hp (h k (by omega) hb))]
          refine hy_iload (i := 2) rfl rfl ?_
          refine hy_const (i := 3) rfl (by decide) ?_
          refine hy_ic_ge (i := 4) (tt := 23) rfl (fun zc1 => ?_) (fun zc1 => ?_)
          · omega
          · refine hy_iload (i := 5) rfl rfl ?_
            refine hy_iload (i := 6) rfl rfl ?_
            refine hy_cS2e (i := 7) rfl (by decide) mj_W_bit (by decide) rfl (Nat.le_of_ble_eq_true rfl) (c_W_bit) ?_
            refine hy_const (i := 8) rfl (by decide) ?_
            refine hy_icb_ne (i := 9) (tt := 21) rfl (fun zc2 => ?_) (fun zc2 => ?_)
            · rw [hb] at zc2; cases zc2
            · refine hy_iload (i := 10) rfl rfl ?_
              refine hy_aload (i := 11) rfl rfl ?_
              refine hy_getr (i := 12) rfl rfl ?_
              refine hy_iload (i := 13) rfl rfl ?_
              refine hy_iald (i := 14) rfl rfl (by omega) (k := k) (by omega) ?_
              refine hy_const (i := 15) rfl (by decide) ?_
              refine hy_ixor (i := 16) rfl ?_
              refine hy_iand (i := 17) rfl ?_
              refine hy_if_eq (i := 18) (tt := 21) rfl (fun zc3 => ?_) (fun zc3 => ?_)
              · omega
              · refine hy_const (i := 19) rfl (by decide) ?_
                refine hy_zreturn (i := 20) rfl rfl (by first | decide | exact hy_b01 _) ?_
                exact ⟨rfl, rfl⟩
      · skip
        refine hy_iload (i := 2) rfl rfl ?_
        refine hy_const (i := 3) rfl (by decide) ?_
        refine hy_ic_ge (i := 4) (tt := 23) rfl (fun zc1 => ?_) (fun zc1 => ?_)
        · omega
        · refine hy_iload (i := 5) rfl rfl ?_
          refine hy_iload (i := 6) rfl rfl ?_
          refine hy_cS2e (i := 7) rfl (by decide) mj_W_bit (by decide) rfl (Nat.le_of_ble_eq_true rfl) (c_W_bit) ?_
          refine hy_const (i := 8) rfl (by decide) ?_
          refine hy_icb_ne (i := 9) (tt := 21) rfl (fun zc2 => ?_) (fun zc2 => ?_)
          · refine hy_iinc (i := 21) rfl rfl (by omega) ?_
            refine hy_goto (i := 22) (tt := 2) rfl ?_
            exact ih (k + 1) (by omega) (fun c hc h => if e : c = k then by rw [e] at h; exact absurd h hb else hk c (by omega) h)
          · exact absurd zc2 hb
  refine hy_const (i := 0) rfl (by decide) ?_
  refine hy_istore (i := 1) rfl ?_
  exact loop 12 0 rfl (fun c hc => by omega)
theorem c_W_setsOf {n : Int} : hy_Ct sc hm_W_setsOf 2 [.inr (some 2), .inl n] t (hy_e (some (wf_setsN (t 58) n 4096)) t) := by
  refine hy_mk_ct ok_W_setsOf ck_W_setsOf (Nat.le_of_ble_eq_true rfl) ?_
  have loop : ∀ (m : Nat), ∀ (k : Nat), m + k = 4096 → hy_W sc hm_W_setsOf 2 4 [.inr (some 2), .inl n, .inl (wf_setsN (t 58) n k), .inl (k : Int)] [] t (hy_e (some (wf_setsN (t 58) n 4096)) t) := by
    intro m
    induction m with
    | zero =>
      intro k hm
      obtain rfl : k = 4096 := by omega
      refine hy_iload (i := 4) rfl rfl ?_
      refine hy_const (i := 5) rfl (by decide) ?_
      refine hy_ic_ge (i := 6) (tt := 18) rfl (fun zc1 => ?_) (fun zc1 => ?_)
      · refine hy_iload (i := 18) rfl rfl ?_
        refine hy_ireturn (i := 19) rfl rfl ?_
        exact ⟨rfl, rfl⟩
      · omega
    | succ m ih =>
      intro k hm
      have hin := wf_setsN_in (t 58) n k
      refine hy_iload (i := 4) rfl rfl ?_
      refine hy_const (i := 5) rfl (by decide) ?_
      refine hy_ic_ge (i := 6) (tt := 18) rfl (fun zc1 => ?_) (fun zc1 => ?_)
      · omega
      · refine hy_iload (i := 7) rfl rfl ?_
        refine hy_cS1e (i := 8) rfl (by decide) mj_J_bitCount (by decide) rfl (Nat.le_of_ble_eq_true rfl) (c_J_bitCount) ?_
        refine hy_iload (i := 9) rfl rfl ?_
        refine hy_ic_ne (i := 10) (tt := 16) rfl (fun zc2 => ?_) (fun zc2 => ?_)
        · refine hy_iinc (i := 16) rfl rfl (by omega) ?_
          refine hy_goto (i := 17) (tt := 4) rfl ?_
          have h := ih (k + 1) (by omega)
          rw [wf_setsN_e (t 58) n k] at h
          first | (rw [if_pos ⟨by assumption, by assumption⟩] at h; exact h) | (rw [if_neg (fun q => by first | exact absurd q.1 (by assumption) | (rw [zc3] at q; exact absurd q.2 (by decide)))] at h; exact h)
        · refine hy_aload (i := 11) rfl rfl ?_
          refine hy_iload (i := 12) rfl rfl ?_
          refine hy_cV1e (i := 13) rfl mj_W_isSignalSet (by decide) rfl (Nat.le_of_ble_eq_true rfl) rfl rfl rfl (c_W_isSignalSet) ?_
          refine hy_ib_eq (i := 14) (tt := 16) rfl (fun zc3 => ?_) (fun zc3 => ?_)
          · refine hy_iinc (i := 16) rfl rfl (by omega) ?_
            refine hy_goto (i := 17) (tt := 4) rfl ?_
            have h := ih (k + 1) (by omega)
            rw [wf_setsN_e (t 58) n k] at h
            first | (rw [if_pos ⟨by assumption, by assumption⟩] at h; exact h) | (rw [if_neg (fun q => by first | exact absurd q.1 (by assumption) | (rw [zc3] at q; exact absurd q.2 (by decide)))] at h; exact h)
          · refine hy_iinc (i := 15) rfl rfl (by omega) ?_
            refine hy_iinc (i := 16) rfl rfl (by omega) ?_
            refine hy_goto (i := 17) (tt := 4) rfl ?_
            have h := ih (k + 1) (by omega)
            rw [wf_setsN_e (t 58) n k] at h
            first | (rw [if_pos ⟨by assumption, by assumption⟩] at h; exact h) | (rw [if_neg (fun q => by first | exact absurd q.1 (by assumption) | (rw [zc3] at q; exact absurd q.2 (by decide)))] at h; exact h)
  refine hy_const (i := 0) rfl (by decide) ?_
  refine hy_istore (i := 1) rfl ?_
  refine hy_const (i := 2) rfl (by decide) ?_
  refine hy_istore (i := 3) rfl ?_
  exact loop 4096 0 rfl
theorem c_W_firstSetOf {n : Int} : hy_Ct sc hm_W_firstSetOf 2 [.inr (some 2), .inl n] t (hy_e (some (wf_firstN (t 58) n 4096 0)) t) := by
  refine hy_mk_ct ok_W_firstSetOf ck_W_firstSetOf (Nat.le_of_ble_eq_true rfl) ?_
  have loop : ∀ (m : Nat), ∀ (k : Nat), m + k = 4096 → wf_firstN (t 58) n m k = wf_firstN (t 58) n 4096 0 → hy_W sc hm_W_firstSetOf 2 2 [.inr (some 2), .inl n, .inl (k : Int)] [] t (hy_e (some (wf_firstN (t 58) n 4096 0)) t) := by
    intro m
    induction m with
    | zero =>
      intro k hm he
      rw [← he]
      refine hy_iload (i := 2) rfl rfl ?_
      refine hy_const (i := 3) rfl (by decide) ?_
      refine hy_ic_ge (i := 4) (tt := 17) rfl (fun zc1 => ?_) (fun zc1 => ?_)
      · refine hy_const (i := 17) rfl (by decide) ?_
        refine hy_ireturn (i := 18) rfl rfl ?_
        exact ⟨rfl, rfl⟩
      · omega
    | succ m ih =>
      intro k hm he
      by_cases hc : sp_bc k = n ∧ wf_sig (t 58) k = true
      · have e : wf_firstN (t 58) n (m + 1) k = k := by simp only [wf_firstN]; rw [if_pos hc]
        rw [← he, e]
        refine hy_iload (i := 2) rfl rfl ?_
        refine hy_const (i := 3) rfl (by decide) ?_
        refine hy_ic_ge (i := 4) (tt := 17) rfl (fun zc1 => ?_) (fun zc1 => ?_)
        · omega
        · refine hy_iload (i := 5) rfl rfl ?_
          refine hy_cS1e (i := 6) rfl (by decide) mj_J_bitCount (by decide) rfl (Nat.le_of_ble_eq_true rfl) (c_J_bitCount) ?_
          refine hy_iload (i := 7) rfl rfl ?_
          refine hy_ic_ne (i := 8) (tt := 15) rfl (fun zc2 => ?_) (fun zc2 => ?_)
          · exact absurd hc.1 (by assumption)
          · refine hy_aload (i := 9) rfl rfl ?_
            refine hy_iload (i := 10) rfl rfl ?_
            refine hy_cV1e (i := 11) rfl mj_W_isSignalSet (by decide) rfl (Nat.le_of_ble_eq_true rfl) rfl rfl rfl (c_W_isSignalSet) ?_
            refine hy_ib_eq (i := 12) (tt := 15) rfl (fun zc3 => ?_) (fun zc3 => ?_)
            · rw [hc.2] at zc3; cases zc3
            · refine hy_iload (i := 13) rfl rfl ?_
              refine hy_ireturn (i := 14) rfl rfl ?_
              exact ⟨rfl, rfl⟩
      · have e : wf_firstN (t 58) n (m + 1) k = wf_firstN (t 58) n m (k + 1) := by simp only [wf_firstN]; rw [if_neg hc]
        rw [e] at he
        refine hy_iload (i := 2) rfl rfl ?_
        refine hy_const (i := 3) rfl (by decide) ?_
        refine hy_ic_ge (i := 4) (tt := 17) rfl (fun zc1 => ?_) (fun zc1 => ?_)
        · omega
        · refine hy_iload (i := 5) rfl rfl ?_
          refine hy_cS1e (i := 6) rfl (by decide) mj_J_bitCount (by decide) rfl (Nat.le_of_ble_eq_true rfl) (c_J_bitCount) ?_
          refine hy_iload (i := 7) rfl rfl ?_
          refine hy_ic_ne (i := 8) (tt := 15) rfl (fun zc2 => ?_) (fun zc2 => ?_)
          · refine hy_iinc (i := 15) rfl rfl (by omega) ?_
            refine hy_goto (i := 16) (tt := 2) rfl ?_
            exact ih (k + 1) (by omega) he
          · refine hy_aload (i := 9) rfl rfl ?_
            refine hy_iload (i := 10) rfl rfl ?_
            refine hy_cV1e (i := 11) rfl mj_W_isSignalSet (by decide) rfl (Nat.le_of_ble_eq_true rfl) rfl rfl rfl (c_W_isSignalSet) ?_
            refine hy_ib_eq (i := 12) (tt := 15) rfl (fun zc3 => ?_) (fun zc3 => ?_)
            · refine hy_iinc (i := 15) rfl rfl (by omega) ?_
              refine hy_goto (i := 16) (tt := 2) rfl ?_
              exact ih (k + 1) (by omega) he
            · exfalso; exact hc ⟨by first | assumption | omega, zc3⟩
  refine hy_const (i := 0) rfl (by decide) ?_
  refine hy_istore (i := 1) rfl ?_
  exact loop 4096 0 rfl rfl
theorem c_W_mostSignals : hy_Ct sc hm_W_mostSignals 3 [.inr (some 2)] t (hy_e (some (wf_mostN (t 58) 5)) t) := by
  refine hy_mk_ct ok_W_mostSignals ck_W_mostSignals (Nat.le_of_ble_eq_true rfl) ?_
  have loop : ∀ (m : Nat), m ≤ 5 → wf_mostN (t 58) m = wf_mostN (t 58) 5 → hy_W sc hm_W_mostSignals 3 2 [.inr (some 2), .inl ((m : Int) + 1)] [] t (hy_e (some (wf_mostN (t 58) 5)) t) := by
    intro m
    induction m with
    | zero =>
      intro hm he
      rw [← he]
      refine hy_iload (i := 2) rfl rfl ?_
      refine hy_const (i := 3) rfl (by decide) ?_
      refine hy_ic_lt (i := 4) (tt := 13) rfl (fun zc1 => ?_) (fun zc1 => ?_)
      · refine hy_const (i := 13) rfl (by decide) ?_
        refine hy_ireturn (i := 14) rfl rfl ?_
        exact ⟨rfl, rfl⟩
      · omega
    | succ m ih =>
      intro hm he
      rw [show (((m + 1 : Nat) : Int) + 1) = (m : Int) + 2 by omega]
      by_cases hc : 0 ≤ wf_firstN (t 58) ((m : Int) + 2) 4096 0
      · have e : wf_mostN (t 58) (m + 1) = (m : Int) + 2 := by simp only [wf_mostN]; rw [if_pos hc]
        rw [← he, e]
        refine hy_iload (i := 2) rfl rfl ?_
        refine hy_const (i := 3) rfl (by decide) ?_
        refine hy_ic_lt (i := 4) (tt := 13) rfl (fun zc1 => ?_) (fun zc1 => ?_)
        · omega
        · refine hy_aload (i := 5) rfl rfl ?_
          refine hy_iload (i := 6) rfl rfl ?_
          refine hy_cV1e (i := 7) rfl mj_W_firstSetOf (by decide) rfl (Nat.le_of_ble_eq_true rfl) rfl rfl rfl (c_W_firstSetOf) ?_
          refine hy_if_lt (i := 8) (tt := 11) rfl (fun zc2 => ?_) (fun zc2 => ?_)
          · omega
          · refine hy_iload (i := 9) rfl rfl ?_
            refine hy_ireturn (i := 10) rfl rfl ?_
            exact ⟨rfl, rfl⟩
      · have e : wf_mostN (t 58) (m + 1) = wf_mostN (t 58) m := by simp only [wf_mostN]; rw [if_neg hc]
        rw [e] at he
        refine hy_iload (i := 2) rfl rfl ?_
        refine hy_const (i := 3) rfl (by decide) ?_
        refine hy_ic_lt (i := 4) (tt := 13) rfl (fun zc1 => ?_) (fun zc1 => ?_)
        · omega
        · refine hy_aload (i := 5) rfl rfl ?_
          refine hy_iload (i := 6) rfl rfl ?_
          refine hy_cV1e (i := 7) rfl mj_W_firstSetOf (by decide) rfl (Nat.le_of_ble_eq_true rfl) rfl rfl rfl (c_W_firstSetOf) ?_
          refine hy_if_lt (i := 8) (tt := 11) rfl (fun zc2 => ?_) (fun zc2 => ?_)
          · refine hy_iinc (i := 11) rfl rfl (by omega) ?_
            refine hy_goto (i := 12) (tt := 2) rfl ?_
            rw [show (m : Int) + 2 + -1 = (m : Int) + 1 by omega]
            exact ih (by omega) he
          · omega
  refine hy_const (i := 0) rfl (by decide) ?_
  refine hy_istore (i := 1) rfl ?_
  exact loop 5 (by decide) rfl
theorem c_W_findPartners {fr fo q : Int} (hk : lc_ok t) : hy_Ct sc hm_W_findPartners 5 [.inr (some 2), .inl fr, .inl fo, .inl q] t (fun r t' => r = none ∧ (∀ c : Nat, c < 12 → t' 58 c = wf_pr t q fr fo 6 c) ∧ hy_F snX t t') := by
  refine hy_mk_ct ok_W_findPartners ck_W_findPartners (Nat.le_of_ble_eq_true rfl) ?_
  have loop2 : ∀ (m : Nat), ∀ (k : Nat) (t1 : hy_T) (v5 v6 : hy_V), m + k = 6 → hy_F snX t t1 → t1 46 = wf_aL t q fr fo k → (∀ c : Nat, c < 12 → t1 58 c = wf_pr t q fr fo k c) → hy_W sc hm_W_findPartners 5 23 [.inr (some 2), .inl fr, .inl fo, .inl q, .inl (k : Int), v5, v6] [] t1 (fun r t' => r = none ∧ (∀ c : Nat, c < 12 → t' 58 c = wf_pr t q fr fo 6 c) ∧ hy_F snX t t') := by
    intro m
    induction m with
    | zero =>
      intro k t1 v5 v6 hm hF ha hp
      obtain rfl : k = 6 := by omega
      refine hy_iload (i := 23) rfl rfl ?_
      refine hy_const (i := 24) rfl (by decide) ?_
      refine hy_ic_ge (i := 25) (tt := 73) rfl (fun zc1 => ?_) (fun zc1 => ?_)
      · refine hy_return (i := 73) rfl rfl ?_
        exact ⟨rfl, hp, hF⟩
      · omega
    | succ m ih =>
      intro k t1 v5 v6 hm hF ha hp
      have inner : ∀ (f : Int) (t2 : hy_T), f = hy_b (hz_b fr k) → (hz_b fr k = true ∨ hz_b fo k = true) → ∀ (m2 : Nat), ∀ (c : Nat) (t3 : hy_T), m2 + c = 12 → hy_F snX t t3 → t3 46 = wf_aL t q fr fo (k + 1) → (∀ j : Nat, j < 12 → t3 58 j = if j < c then wf_pr t q fr fo (k + 1) j else wf_pr t q fr fo k j) → hy_W sc hm_W_findPartners 5 49 [.inr (some 2), .inl fr, .inl fo, .inl q, .inl (k : Int), .inl f, .inl (c : Int)] [] t3 (fun r t' => r = none ∧ (∀ c : Nat, c < 12 → t' 58 c = wf_pr t q fr fo 6 c) ∧ hy_F snX t t') := by
        intro f t2 hf hor m2
        induction m2 with
        | zero =>
          intro c t3 hm2 hF3 ha3 hp3
          obtain rfl : c = 12 := by omega
          refine hy_iload (i := 49) rfl rfl ?_
          refine hy_const (i := 50) rfl (by decide) ?_
          refine hy_ic_ge (i := 51) (tt := 71) rfl (fun zc1 => ?_) (fun zc1 => ?_)
          · refine hy_iinc (i := 71) rfl rfl (by omega) ?_
            refine hy_goto (i := 72) (tt := 23) rfl ?_
            exact ih (k + 1) t3 _ _ (by omega) hF3 ha3 (fun j hj => by rw [hp3 j hj, if_pos hj])
          · omega
        | succ m2 ih2 =>
          intro c t3 hm2 hF3 ha3 hp3
          have hpc : t3 58 c = wf_pr t q fr fo k c := by rw [hp3 c (by omega), if_neg (by omega)]
          have e5 : t3 5 2 = t 5 2 := hF3 5 2 rfl
          by_cases hfr : hz_b fr k = true
          · have ew : wf_pr t q fr fo (k + 1) c = hz_iand (t3 58 c) (wf_unl (t3 5 2) (t3 46) c) := by simp only [wf_pr]; rw [if_pos hfr, hpc, e5, ha3]
            obtain rfl : f = 1 := by rw [hf, hfr]; rfl
            refine hy_iload (i := 49) rfl rfl ?_
            refine hy_const (i := 50) rfl (by decide) ?_
            refine hy_ic_ge (i := 51) (tt := 71) rfl (fun zc1 => ?_) (fun zc1 => ?_)
            · omega
            · refine hy_aload (i := 52) rfl rfl ?_
              refine hy_getr (i := 53) rfl rfl ?_
              refine hy_iload (i := 54) rfl rfl ?_
              refine hy_dup2 (i := 55) rfl ?_
              refine hy_iald (i := 56) rfl rfl (by omega) (k := c) (by omega) ?_
              refine hy_iload (i := 57) rfl rfl ?_
              refine hy_if_eq (i := 58) (tt := 63) rfl (fun zc2 => ?_) (fun zc2 => ?_)
              · exact absurd zc2 (by decide)
              · refine hy_aload (i := 59) rfl rfl ?_
                refine hy_iload (i := 60) rfl rfl ?_
                refine hy_cV1e (i := 61) rfl mj_W_unlike (by decide) rfl (Nat.le_of_ble_eq_true rfl) rfl rfl rfl (c_W_unlike) ?_
                refine hy_goto (i := 62) (tt := 67) rfl ?_
                refine hy_iand (i := 67) rfl ?_
                refine hy_iast (i := 68) rfl rfl (by omega) (k := c) (by omega) ?_
                refine hy_iinc (i := 69) rfl rfl (by omega) ?_
                refine hy_goto (i := 70) (tt := 49) rfl ?_
                refine ih2 (c + 1) _ (by omega) (hF3.up rfl) ha3 (fun j hj => ?_)
                by_cases hjc : j = c
                · rw [hjc, if_pos (by omega), ew]; simp [hy_up]
                · rw [show ∀ v, hy_up t3 58 c v 58 j = t3 58 j from fun v => by simp [hy_up, hjc], hp3 j hj]; exact (if h9 : j < c then by rw [if_pos h9, if_pos (by omega)] else by rw [if_neg h9, if_neg (by omega)])
          · have hfo : hz_b fo k = true := hor.resolve_left hfr
            have ew : wf_pr t q fr fo (k + 1) c = hz_iand (t3 58 c) (wf_alk (t3 46) c) := by simp only [wf_pr]; rw [if_neg hfr, if_pos hfo, hpc, ha3]
            rw [Bool.not_eq_true] at hfr
            obtain rfl : f = 0 := by rw [hf, hfr]; rfl
            refine hy_iload (i := 49) rfl rfl ?_
            refine hy_const (i := 50) rfl (by decide) ?_
            refine hy_ic_ge (i := 51) (tt := 71) rfl (fun zc1 => ?_) (fun zc1 => ?_)
            · omega
            · refine hy_aload (i := 52) rfl rfl ?_
              refine hy_getr (i := 53) rfl rfl ?_
              refine hy_iload (i := 54) rfl rfl ?_
              refine hy_dup2 (i := 55) rfl ?_
              refine hy_iald (i := 56) rfl rfl (by omega) (k := c) (by omega) ?_
              refine hy_iload (i := 57) rfl rfl ?_
              refine hy_if_eq (i := 58) (tt := 63) rfl (fun zc2 => ?_) (fun zc2 => ?_)
              · refine hy_aload (i := 63) rfl rfl ?_
                refine hy_getr (i := 64) rfl rfl ?_
                refine hy_iload (i := 65) rfl rfl ?_
                refine hy_cV1e (i := 66) rfl mj_E_alike (by decide) rfl (Nat.le_of_ble_eq_true rfl) rfl rfl rfl (c_E_alike) ?_
                refine hy_iand (i := 67) rfl ?_
                refine hy_iast (i := 68) rfl rfl (by omega) (k := c) (by omega) ?_
                refine hy_iinc (i := 69) rfl rfl (by omega) ?_
                refine hy_goto (i := 70) (tt := 49) rfl ?_
                refine ih2 (c + 1) _ (by omega) (hF3.up rfl) ha3 (fun j hj => ?_)
                by_cases hjc : j = c
                · rw [hjc, if_pos (by omega), ew]; simp [hy_up]; rfl
                · rw [show ∀ v, hy_up t3 58 c v 58 j = t3 58 j from fun v => by simp [hy_up, hjc], hp3 j hj]; exact (if h9 : j < c then by rw [if_pos h9, if_pos (by omega)] else by rw [if_neg h9, if_neg (by omega)])
              · exact absurd rfl zc2
      have hk1 := lc_ok_same (snX_law hF) hk
      by_cases hor : hz_b fr k = true ∨ hz_b fo k = true
      · have eL : wf_aL t q fr fo (k + 1) = sp_asN t (sp_seen t k q) (wf_aL t q fr fo k) 12 := by simp only [wf_aL]; rw [if_pos hor]
        refine hy_iload (i := 23) rfl rfl ?_
        refine hy_const (i := 24) rfl (by decide) ?_
        refine hy_ic_ge (i := 25) (tt := 73) rfl (fun zc1 => ?_) (fun zc1 => ?_)
        · omega
        · refine hy_iload (i := 26) rfl rfl ?_
          refine hy_iload (i := 27) rfl rfl ?_
          refine hy_cS2e (i := 28) rfl (by decide) mj_W_bit (by decide) rfl (Nat.le_of_ble_eq_true rfl) (c_W_bit) ?_
          refine hy_const (i := 29) rfl (by decide) ?_
          refine hy_icb_ne (i := 30) (tt := 33) rfl (fun zc2 => ?_) (fun zc2 => ?_)
          · refine hy_const (i := 33) rfl (by decide) ?_
            refine hy_istore (i := 34) rfl ?_
            refine hy_iload (i := 35) rfl rfl ?_
            refine hy_if_ne (i := 36) (tt := 42) rfl (fun zc3 => ?_) (fun zc3 => ?_)
            · refine hy_aload (i := 42) rfl rfl ?_
              refine hy_getr (i := 43) rfl rfl ?_
              refine hy_iload (i := 44) rfl rfl ?_
              refine hy_iload (i := 45) rfl rfl ?_
              refine hy_cV2 (i := 46) rfl mj_E_look (by decide) rfl (Nat.le_of_ble_eq_true rfl) rfl rfl rfl (c_E_look hk1) (fun r2_ t2_ h2 => ?_)
              obtain ⟨rfl, hL2, hF2⟩ := h2
              dsimp only [hy_st, List.nil_append]
              rw [sn_seen hF, ha, sn_as hF, ← eL] at hL2
              have hG := hF.tr' (hF2.w (fun r j q => by revert q; simp [snX, lX]; omega))
              refine hy_const (i := 47) rfl (by decide) ?_
              refine hy_istore (i := 48) rfl ?_
              first | exact inner _ t (by rw [zc2]; rfl) hor 12 0 _ rfl hG (by assumption) (fun j hj => by rw [if_neg (by omega), ← hp j hj]; exact (by assumption : hy_F lX t1 _) 58 j rfl) | exact inner _ t (by rw [show hz_b fr k = false by first | assumption | (rw [← Bool.not_eq_true]; assumption)]; rfl) hor 12 0 _ rfl hG (by assumption) (fun j hj => by rw [if_neg (by omega), ← hp j hj]; exact (by assumption : hy_F lX t1 _) 58 j rfl)
            · refine hy_iload (i := 37) rfl rfl ?_
              refine hy_iload (i := 38) rfl rfl ?_
              refine hy_cS2e (i := 39) rfl (by decide) mj_W_bit (by decide) rfl (Nat.le_of_ble_eq_true rfl) (c_W_bit) ?_
              refine hy_const (i := 40) rfl (by decide) ?_
              refine hy_icb_ne (i := 41) (tt := 71) rfl (fun zc4 => ?_) (fun zc4 => ?_)
              · exfalso; rcases hor with h | h
                · first | exact absurd h (by assumption) | simp_all
                · first | exact absurd h (by assumption) | simp_all
              · refine hy_aload (i := 42) rfl rfl ?_
                refine hy_getr (i := 43) rfl rfl ?_
                refine hy_iload (i := 44) rfl rfl ?_
                refine hy_iload (i := 45) rfl rfl ?_
                refine hy_cV2 (i := 46) rfl mj_E_look (by decide) rfl (Nat.le_of_ble_eq_true rfl) rfl rfl rfl (c_E_look hk1) (fun r3_ t3_ h3 => ?_)
                obtain ⟨rfl, hL3, hF3⟩ := h3
                dsimp only [hy_st, List.nil_append]
                rw [sn_seen hF, ha, sn_as hF, ← eL] at hL3
                have hG := hF.tr' (hF3.w (fun r j q => by revert q; simp [snX, lX]; omega))
                refine hy_const (i := 47) rfl (by decide) ?_
                refine hy_istore (i := 48) rfl ?_
                first | exact inner _ t (by rw [zc2]; rfl) hor 12 0 _ rfl hG (by assumption) (fun j hj => by rw [if_neg (by omega), ← hp j hj]; exact (by assumption : hy_F lX t1 _) 58 j rfl) | exact inner _ t (by rw [show hz_b fr k = false by first | assumption | (rw [← Bool.not_eq_true]; assumption)]; rfl) hor 12 0 _ rfl hG (by assumption) (fun j hj => by rw [if_neg (by omega), ← hp j hj]; exact (by assumption : hy_F lX t1 _) 58 j rfl)
          · refine hy_const (i := 31) rfl (by decide) ?_
            refine hy_goto (i := 32) (tt := 34) rfl ?_
            refine hy_istore (i := 34) rfl ?_
            refine hy_iload (i := 35) rfl rfl ?_
            refine hy_if_ne (i := 36) (tt := 42) rfl (fun zc3 => ?_) (fun zc3 => ?_)
            · refine hy_aload (i := 42) rfl rfl ?_
              refine hy_getr (i := 43) rfl rfl ?_
              refine hy_iload (i := 44) rfl rfl ?_
              refine hy_iload (i := 45) rfl rfl ?_
              refine hy_cV2 (i := 46) rfl mj_E_look (by decide) rfl (Nat.le_of_ble_eq_true rfl) rfl rfl rfl (c_E_look hk1) (fun r2_ t2_ h2 => ?_)
              obtain ⟨rfl, hL2, hF2⟩ := h2
              dsimp only [hy_st, List.nil_append]
              rw [sn_seen hF, ha, sn_as hF, ← eL] at hL2
              have hG := hF.tr' (hF2.w (fun r j q => by revert q; simp [snX, lX]; omega))
              refine hy_const (i := 47) rfl (by decide) ?_
              refine hy_istore (i := 48) rfl ?_
              first | exact inner _ t (by rw [zc2]; rfl) hor 12 0 _ rfl hG (by assumption) (fun j hj => by rw [if_neg (by omega), ← hp j hj]; exact (by assumption : hy_F lX t1 _) 58 j rfl) | exact inner _ t (by rw [show hz_b fr k = false by first | assumption | (rw [← Bool.not_eq_true]; assumption)]; rfl) hor 12 0 _ rfl hG (by assumption) (fun j hj => by rw [if_neg (by omega), ← hp j hj]; exact (by assumption : hy_F lX t1 _) 58 j rfl)
            · refine hy_iload (i := 37) rfl rfl ?_
              refine hy_iload (i := 38) rfl rfl ?_
              refine hy_cS2e (i := 39) rfl (by decide) mj_W_bit (by decide) rfl (Nat.le_of_ble_eq_true rfl) (c_W_bit) ?_
              refine hy_const (i := 40) rfl (by decide) ?_
              refine hy_icb_ne (i := 41) (tt := 71) rfl (fun zc4 => ?_) (fun zc4 => ?_)
              · exfalso; rcases hor with h | h
                · first | exact absurd h (by assumption) | simp_all
                · first | exact absurd h (by assumption) | simp_all
              · refine hy_aload (i := 42) rfl rfl ?_
                refine hy_getr (i := 43) rfl rfl ?_
                refine hy_iload (i := 44) rfl rfl ?_
                refine hy_iload (i := 45) rfl rfl ?_
                refine hy_cV2 (i := 46) rfl mj_E_look (by decide) rfl (Nat.le_of_ble_eq_true rfl) rfl rfl rfl (c_E_look hk1) (fun r3_ t3_ h3 => ?_)
                obtain ⟨rfl, hL3, hF3⟩ := h3
                dsimp only [hy_st, List.nil_append]
                rw [sn_seen hF, ha, sn_as hF, ← eL] at hL3
                have hG := hF.tr' (hF3.w (fun r j q => by revert q; simp [snX, lX]; omega))
                refine hy_const (i := 47) rfl (by decide) ?_
                refine hy_istore (i := 48) rfl ?_
                first | exact inner _ t (by rw [zc2]; rfl) hor 12 0 _ rfl hG (by assumption) (fun j hj => by rw [if_neg (by omega), ← hp j hj]; exact (by assumption : hy_F lX t1 _) 58 j rfl) | exact inner _ t (by rw [show hz_b fr k = false by first | assumption | (rw [← Bool.not_eq_true]; assumption)]; rfl) hor 12 0 _ rfl hG (by assumption) (fun j hj => by rw [if_neg (by omega), ← hp j hj]; exact (by assumption : hy_F lX t1 _) 58 j rfl)
      · have eL : wf_aL t q fr fo (k + 1) = wf_aL t q fr fo k := by simp only [wf_aL]; rw [if_neg hor]
        refine hy_iload (i := 23) rfl rfl ?_
        refine hy_const (i := 24) rfl (by decide) ?_
        refine hy_ic_ge (i := 25) (tt := 73) rfl (fun zc1 => ?_) (fun zc1 => ?_)
        · omega
        · refine hy_iload (i := 26) rfl rfl ?_
          refine hy_iload (i := 27) rfl rfl ?_
          refine hy_cS2e (i := 28) rfl (by decide) mj_W_bit (by decide) rfl (Nat.le_of_ble_eq_true rfl) (c_W_bit) ?_
          refine hy_const (i := 29) rfl (by decide) ?_
          refine hy_icb_ne (i := 30) (tt := 33) rfl (fun zc2 => ?_) (fun zc2 => ?_)
          · refine hy_const (i := 33) rfl (by decide) ?_
            refine hy_istore (i := 34) rfl ?_
            refine hy_iload (i := 35) rfl rfl ?_
            refine hy_if_ne (i := 36) (tt := 42) rfl (fun zc3 => ?_) (fun zc3 => ?_)
            · exact absurd rfl zc3
            · refine hy_iload (i := 37) rfl rfl ?_
              refine hy_iload (i := 38) rfl rfl ?_
              refine hy_cS2e (i := 39) rfl (by decide) mj_W_bit (by decide) rfl (Nat.le_of_ble_eq_true rfl) (c_W_bit) ?_
              refine hy_const (i := 40) rfl (by decide) ?_
              refine hy_icb_ne (i := 41) (tt := 71) rfl (fun zc4 => ?_) (fun zc4 => ?_)
              · refine hy_iinc (i := 71) rfl rfl (by omega) ?_
                refine hy_goto (i := 72) (tt := 23) rfl ?_
                exact ih (k + 1) t1 _ _ (by omega) hF (by rw [eL, ha]) (fun c hc => by rw [hp c hc]; simp only [wf_pr]; rw [if_neg (fun h => hor (.inl h)), if_neg (fun h => hor (.inr h))])
              · exact absurd (.inr zc4) hor
          · exact absurd (.inl zc2) hor
  have loop1 : ∀ (m : Nat), ∀ (k : Nat) (t1 : hy_T), m + k = 12 → hy_F snX t t1 → t1 46 = t 46 → (∀ c : Nat, c < k → t1 58 c = wf_pr t q fr fo 0 c) → hy_W sc hm_W_findPartners 5 2 [.inr (some 2), .inl fr, .inl fo, .inl q, .inl (k : Int), .inr none, .inr none] [] t1 (fun r t' => r = none ∧ (∀ c : Nat, c < 12 → t' 58 c = wf_pr t q fr fo 6 c) ∧ hy_F snX t t') := by
    intro m
    induction m with
    | zero =>
      intro k t1 hm hF ha hp
      obtain rfl : k = 12 := by omega
      refine hy_iload (i := 2) rfl rfl ?_
      refine hy_const (i := 3) rfl (by decide) ?_
      refine hy_ic_ge (i := 4) (tt := 21) rfl (fun zc1 => ?_) (fun zc1 => ?_)
      · refine hy_const (i := 21) rfl (by decide) ?_
        refine hy_istore (i := 22) rfl ?_
        exact loop2 6 0 t1 _ _ rfl hF ha hp
      · omega
    | succ m ih =>
      intro k t1 hm hF ha hp
      have e5 : t1 5 2 = t 5 2 := hF 5 2 rfl
      refine hy_iload (i := 2) rfl rfl ?_
      refine hy_const (i := 3) rfl (by decide) ?_
      refine hy_ic_ge (i := 4) (tt := 21) rfl (fun zc1 => ?_) (fun zc1 => ?_)
      · omega
      · refine hy_aload (i := 5) rfl rfl ?_
        refine hy_getr (i := 6) rfl rfl ?_
        refine hy_iload (i := 7) rfl rfl ?_
        refine hy_aload (i := 8) rfl rfl ?_
        refine hy_getr (i := 9) rfl rfl ?_
        refine hy_iload (i := 10) rfl rfl ?_
        refine hy_cV1e (i := 11) rfl mj_P_isTold (by decide) rfl (Nat.le_of_ble_eq_true rfl) rfl rfl rfl (c_P_isTold) ?_
        refine hy_ib_eq (i := 12) (tt := 17) rfl (fun zc2 => ?_) (fun zc2 => ?_)
        · refine hy_const (i := 17) rfl (by decide) ?_
          refine hy_iast (i := 18) rfl rfl (by omega) (k := k) (by omega) ?_
          refine hy_iinc (i := 19) rfl rfl (by omega) ?_
          refine hy_goto (i := 20) (tt := 2) rfl ?_
          refine ih (k + 1) _ (by omega) (hF.up rfl) ha (fun j hj => ?_)
          by_cases hjk : j = k
          · rw [hjk, show ∀ v, hy_up t1 58 k v 58 k = v from fun v => by simp [hy_up]]; simp only [wf_pr]; rw [e5] at *; first | (rw [if_pos zc2]; done) | (rw [if_neg (by rw [zc2]; decide)]; done)
          · rw [show ∀ v, hy_up t1 58 k v 58 j = t1 58 j from fun v => by simp [hy_up, hjk]]; exact hp j (by omega)
        · refine hy_aload (i := 13) rfl rfl ?_
          refine hy_getr (i := 14) rfl rfl ?_
          refine hy_cV0e (i := 15) rfl mj_P_told (by decide) rfl (Nat.le_of_ble_eq_true rfl) rfl rfl rfl (c_P_told) ?_
          refine hy_goto (i := 16) (tt := 18) rfl ?_
          refine hy_iast (i := 18) rfl rfl (by omega) (k := k) (by omega) ?_
          refine hy_iinc (i := 19) rfl rfl (by omega) ?_
          refine hy_goto (i := 20) (tt := 2) rfl ?_
          refine ih (k + 1) _ (by omega) (hF.up rfl) ha (fun j hj => ?_)
          by_cases hjk : j = k
          · rw [hjk, show ∀ v, hy_up t1 58 k v 58 k = v from fun v => by simp [hy_up]]; simp only [wf_pr]; rw [e5] at *; first | (rw [if_pos zc2]; done) | (rw [if_neg (by rw [zc2]; decide)]; done)
          · rw [show ∀ v, hy_up t1 58 k v 58 j = t1 58 j from fun v => by simp [hy_up, hjk]]; exact hp j (by omega)
  refine hy_const (i := 0) rfl (by decide) ?_
  refine hy_istore (i := 1) rfl ?_
  exact loop1 12 0 t rfl hy_F.rf rfl (fun c hc => by omega)
end WS
/-! the class's signals and ash as they are asked -/
theorem wf_sig_eq {P P' : Nat → Int} (h : ∀ c : Nat, c < 12 → P c = P' c) (s : Int) : wf_sig P s = wf_sig P' s := by
  unfold wf_sig
  exact decide_eq_decide.mpr ⟨fun a c hc hb => by rw [← h c hc]; exact a c hc hb, fun a c hc hb => by rw [h c hc]; exact a c hc hb⟩
theorem wf_setsN_eq {P P' : Nat → Int} (h : ∀ c : Nat, c < 12 → P c = P' c) (n : Int) : ∀ k, wf_setsN P n k = wf_setsN P' n k
  | 0 => rfl
  | k + 1 => by rw [wf_setsN_e, wf_setsN_e, wf_setsN_eq h n k, wf_sig_eq h]
theorem wf_firstN_eq {P P' : Nat → Int} (h : ∀ c : Nat, c < 12 → P c = P' c) (n : Int) : ∀ m k, wf_firstN P n m k = wf_firstN P' n m k
  | 0, _ => rfl
  | m + 1, k => by
    show (if sp_bc k = n ∧ wf_sig P k = true then (k : Int) else wf_firstN P n m (k + 1)) = (if sp_bc k = n ∧ wf_sig P' k = true then (k : Int) else wf_firstN P' n m (k + 1))
    rw [wf_firstN_eq h n m, wf_sig_eq h]
theorem wf_mostN_eq {P P' : Nat → Int} (h : ∀ c : Nat, c < 12 → P c = P' c) : ∀ m, wf_mostN P m = wf_mostN P' m
  | 0 => rfl
  | m + 1 => by
    show (if 0 ≤ wf_firstN P ((m : Int) + 2) 4096 0 then (m : Int) + 2 else wf_mostN P m) = (if 0 ≤ wf_firstN P' ((m : Int) + 2) 4096 0 then (m : Int) + 2 else wf_mostN P' m)
    rw [wf_mostN_eq h m, wf_firstN_eq h]
abbrev wf_sigok (n fr fo q w : Int) : Prop := ((1 ≤ fr ∧ fr < 64) ∧ 0 ≤ fo ∧ fo < 64) ∧ (hz_iand fr fo = 0 ∧ (0 ≤ q ∧ q < 4) ∧ 0 ≤ w ∧ w < 3) ∧ (w = 2 ∨ 2 ≤ n ∧ n ≤ 6)
def wf_signals (t : hy_T) (n fr fo q w : Int) : Int :=
  if wf_sigok n fr fo q w then (if w = 0 then wf_setsN (wf_pr t q fr fo 6) n 4096 else if w = 1 then wf_firstN (wf_pr t q fr fo 6) n 4096 0 else wf_mostN (wf_pr t q fr fo 6) 5) else -1
def wf_ashN (t : hy_T) : Nat → hy_T
  | 0 => t
  | n + 1 => hy_up (wf_ashN t n) 53 n (if lk (t 46) (t 9 n) = 12 then 1 else 0)
theorem wf_ashN_F (t : hy_T) : ∀ n, hy_F (fun r _ => r == 53) t (wf_ashN t n)
  | 0 => hy_F.rf
  | n + 1 => (wf_ashN_F t n).up rfl
def wf_ashes (t : hy_T) : Nat → Int
  | 0 => 0
  | n + 1 => wf_ashes t n + (if lk (t 46) (t 9 n) = 12 then 1 else 0)
theorem wf_ashes_in (t : hy_T) : ∀ n : Nat, 0 ≤ wf_ashes t n ∧ wf_ashes t n ≤ n
  | 0 => by simp [wf_ashes]
  | n + 1 => by
    have h := wf_ashes_in t n
    simp only [wf_ashes]
    split <;> omega
abbrev asX : Nat → Nat → Bool := fun r _ => r == 17 || r == 18 || r == 46 || r == 52 || r == 53 || r == 54 || r == 55 || r == 56
section WSG
variable {sc : List Int32} {t : hy_T}
theorem c_W_signals {n fr fo q w : Int} (hk : lc_ok t) : hy_Ct sc hm_W_signals 6 [.inr (some 2), .inl n, .inl fr, .inl fo, .inl q, .inl w] t (fun r t' => r = some (wf_signals t n fr fo q w) ∧ hy_F snX t t') := by
  refine hy_mk_ct ok_W_signals ck_W_signals (Nat.le_of_ble_eq_true rfl) ?_
  by_cases hq : wf_sigok n fr fo q w
  · have ea : wf_signals t n fr fo q w = if w = 0 then wf_setsN (wf_pr t q fr fo 6) n 4096 else if w = 1 then wf_firstN (wf_pr t q fr fo 6) n 4096 0 else wf_mostN (wf_pr t q fr fo 6) 5 := if_pos hq
    rw [ea]
    have fin : hy_W sc hm_W_signals 6 37 [.inr (some 2), .inl n, .inl fr, .inl fo, .inl q, .inl w] [] t (fun r t' => r = some (if w = 0 then wf_setsN (wf_pr t q fr fo 6) n 4096 else if w = 1 then wf_firstN (wf_pr t q fr fo 6) n 4096 0 else wf_mostN (wf_pr t q fr fo 6) 5) ∧ hy_F snX t t') := by
      refine hy_aload (i := 37) rfl rfl ?_
      refine hy_iload (i := 38) rfl rfl ?_
      refine hy_iload (i := 39) rfl rfl ?_
      refine hy_iload (i := 40) rfl rfl ?_
      refine hy_cV3 (i := 41) rfl mj_W_findPartners (by decide) rfl (Nat.le_of_ble_eq_true rfl) rfl rfl rfl (c_W_findPartners (by assumption)) (fun r1_ t1_ h1 => ?_)
      obtain ⟨rfl, hP1, hF1⟩ := h1
      dsimp only [hy_st, List.nil_append]
      refine hy_iload (i := 42) rfl rfl ?_
      by_cases zq1 : w = 0
      · refine hy_lsw (i := 43) (tt := 44) rfl (by rw [zq1]; rfl) ?_
        refine hy_aload (i := 44) rfl rfl ?_
        refine hy_iload (i := 45) rfl rfl ?_
        refine hy_cV1e (i := 46) rfl mj_W_setsOf (by decide) rfl (Nat.le_of_ble_eq_true rfl) rfl rfl rfl (c_W_setsOf) ?_
        refine hy_ireturn (i := 47) rfl rfl ?_
        exact ⟨by rw [if_pos (by assumption), wf_setsN_eq hP1], hF1⟩
      · skip
        by_cases zq1 : w = 1
        · refine hy_lsw (i := 43) (tt := 48) rfl (by rw [zq1]; rfl) ?_
          refine hy_aload (i := 48) rfl rfl ?_
          refine hy_iload (i := 49) rfl rfl ?_
          refine hy_cV1e (i := 50) rfl mj_W_firstSetOf (by decide) rfl (Nat.le_of_ble_eq_true rfl) rfl rfl rfl (c_W_firstSetOf) ?_
          refine hy_ireturn (i := 51) rfl rfl ?_
          exact ⟨by rw [if_neg (by omega), if_pos (by assumption), wf_firstN_eq hP1], hF1⟩
        · skip
          refine hy_lsw (i := 43) (tt := 52) rfl (by simp [hx_look]; omega) ?_
          refine hy_aload (i := 52) rfl rfl ?_
          refine hy_cV0e (i := 53) rfl mj_W_mostSignals (by decide) rfl (Nat.le_of_ble_eq_true rfl) rfl rfl rfl (c_W_mostSignals) ?_
          refine hy_ireturn (i := 54) rfl rfl ?_
          exact ⟨by rw [if_neg (by omega), if_neg (by omega), wf_mostN_eq hP1], hF1⟩
    refine hy_iload (i := 0) rfl rfl ?_
    refine hy_const (i := 1) rfl (by decide) ?_
    refine hy_ic_lt (i := 2) (tt := 11) rfl (fun zc1 => ?_) (fun zc1 => ?_)
    · omega
    · refine hy_iload (i := 3) rfl rfl ?_
      refine hy_const (i := 4) rfl (by decide) ?_
      refine hy_ic_ge (i := 5) (tt := 11) rfl (fun zc2 => ?_) (fun zc2 => ?_)
      · omega
      · refine hy_iload (i := 6) rfl rfl ?_
        refine hy_if_lt (i := 7) (tt := 11) rfl (fun zc3 => ?_) (fun zc3 => ?_)
        · omega
        · refine hy_iload (i := 8) rfl rfl ?_
          refine hy_const (i := 9) rfl (by decide) ?_
          refine hy_ic_lt (i := 10) (tt := 13) rfl (fun zc4 => ?_) (fun zc4 => ?_)
          · refine hy_iload (i := 13) rfl rfl ?_
            refine hy_iload (i := 14) rfl rfl ?_
            refine hy_iand (i := 15) rfl ?_
            refine hy_if_ne (i := 16) (tt := 24) rfl (fun zc5 => ?_) (fun zc5 => ?_)
            · exact absurd hq.2.1.1 (by assumption)
            · refine hy_iload (i := 17) rfl rfl ?_
              refine hy_cS1e (i := 18) rfl (by decide) mj_W_isQuarter (by decide) rfl (Nat.le_of_ble_eq_true rfl) (c_W_isQuarter) ?_
              refine hy_ib_eq (i := 19) (tt := 24) rfl (fun zc6 => ?_) (fun zc6 => ?_)
              · simp at zc6; omega
              · refine hy_iload (i := 20) rfl rfl ?_
                refine hy_const (i := 21) rfl (by decide) ?_
                refine hy_cS2e (i := 22) rfl (by decide) mj_W_isAmong (by decide) rfl (Nat.le_of_ble_eq_true rfl) (c_W_isAmong) ?_
                refine hy_ib_ne (i := 23) (tt := 26) rfl (fun zc7 => ?_) (fun zc7 => ?_)
                · refine hy_iload (i := 26) rfl rfl ?_
                  refine hy_const (i := 27) rfl (by decide) ?_
                  refine hy_ic_eq (i := 28) (tt := 37) rfl (fun zc8 => ?_) (fun zc8 => ?_)
                  · exact fin
                  · refine hy_iload (i := 29) rfl rfl ?_
                    refine hy_const (i := 30) rfl (by decide) ?_
                    refine hy_ic_lt (i := 31) (tt := 35) rfl (fun zc9 => ?_) (fun zc9 => ?_)
                    · omega
                    · refine hy_iload (i := 32) rfl rfl ?_
                      refine hy_const (i := 33) rfl (by decide) ?_
                      refine hy_ic_le (i := 34) (tt := 37) rfl (fun zc10 => ?_) (fun zc10 => ?_)
                      · exact fin
                      · omega
                · simp at zc7; omega
          · omega
  · have ea : wf_signals t n fr fo q w = -1 := if_neg hq
    rw [ea]
    refine hy_iload (i := 0) rfl rfl ?_
    refine hy_const (i := 1) rfl (by decide) ?_
    refine hy_ic_lt (i := 2) (tt := 11) rfl (fun zc1 => ?_) (fun zc1 => ?_)
    · refine hy_const (i := 11) rfl (by decide) ?_
      refine hy_ireturn (i := 12) rfl rfl ?_
      exact ⟨rfl, hy_F.rf⟩
    · refine hy_iload (i := 3) rfl rfl ?_
      refine hy_const (i := 4) rfl (by decide) ?_
      refine hy_ic_ge (i := 5) (tt := 11) rfl (fun zc2 => ?_) (fun zc2 => ?_)
      · refine hy_const (i := 11) rfl (by decide) ?_
        refine hy_ireturn (i := 12) rfl rfl ?_
        exact ⟨rfl, hy_F.rf⟩
      · refine hy_iload (i := 6) rfl rfl ?_
        refine hy_if_lt (i := 7) (tt := 11) rfl (fun zc3 => ?_) (fun zc3 => ?_)
        · refine hy_const (i := 11) rfl (by decide) ?_
          refine hy_ireturn (i := 12) rfl rfl ?_
          exact ⟨rfl, hy_F.rf⟩
        · refine hy_iload (i := 8) rfl rfl ?_
          refine hy_const (i := 9) rfl (by decide) ?_
          refine hy_ic_lt (i := 10) (tt := 13) rfl (fun zc4 => ?_) (fun zc4 => ?_)
          · refine hy_iload (i := 13) rfl rfl ?_
            refine hy_iload (i := 14) rfl rfl ?_
            refine hy_iand (i := 15) rfl ?_
            refine hy_if_ne (i := 16) (tt := 24) rfl (fun zc5 => ?_) (fun zc5 => ?_)
            · refine hy_const (i := 24) rfl (by decide) ?_
              refine hy_ireturn (i := 25) rfl rfl ?_
              exact ⟨rfl, hy_F.rf⟩
            · refine hy_iload (i := 17) rfl rfl ?_
              refine hy_cS1e (i := 18) rfl (by decide) mj_W_isQuarter (by decide) rfl (Nat.le_of_ble_eq_true rfl) (c_W_isQuarter) ?_
              refine hy_ib_eq (i := 19) (tt := 24) rfl (fun zc6 => ?_) (fun zc6 => ?_)
              · refine hy_const (i := 24) rfl (by decide) ?_
                refine hy_ireturn (i := 25) rfl rfl ?_
                exact ⟨rfl, hy_F.rf⟩
              · refine hy_iload (i := 20) rfl rfl ?_
                refine hy_const (i := 21) rfl (by decide) ?_
                refine hy_cS2e (i := 22) rfl (by decide) mj_W_isAmong (by decide) rfl (Nat.le_of_ble_eq_true rfl) (c_W_isAmong) ?_
                refine hy_ib_ne (i := 23) (tt := 26) rfl (fun zc7 => ?_) (fun zc7 => ?_)
                · refine hy_iload (i := 26) rfl rfl ?_
                  refine hy_const (i := 27) rfl (by decide) ?_
                  refine hy_ic_eq (i := 28) (tt := 37) rfl (fun zc8 => ?_) (fun zc8 => ?_)
                  · exfalso; simp only [decide_eq_true_eq] at zc6 zc7; exact hq ⟨⟨⟨by omega, by omega⟩, by omega, by omega⟩, ⟨by first | assumption | (exact Classical.byContradiction (by assumption)), zc6, zc7⟩, .inl (by omega)⟩
                  · refine hy_iload (i := 29) rfl rfl ?_
                    refine hy_const (i := 30) rfl (by decide) ?_
                    refine hy_ic_lt (i := 31) (tt := 35) rfl (fun zc9 => ?_) (fun zc9 => ?_)
                    · refine hy_const (i := 35) rfl (by decide) ?_
                      refine hy_ireturn (i := 36) rfl rfl ?_
                      exact ⟨rfl, hy_F.rf⟩
                    · refine hy_iload (i := 32) rfl rfl ?_
                      refine hy_const (i := 33) rfl (by decide) ?_
                      refine hy_ic_le (i := 34) (tt := 37) rfl (fun zc10 => ?_) (fun zc10 => ?_)
                      · exfalso; simp only [decide_eq_true_eq] at zc6 zc7; exact hq ⟨⟨⟨by omega, by omega⟩, by omega, by omega⟩, ⟨by first | assumption | (exact Classical.byContradiction (by assumption)), zc6, zc7⟩, .inr (by omega)⟩
                      · refine hy_const (i := 35) rfl (by decide) ?_
                        refine hy_ireturn (i := 36) rfl rfl ?_
                        exact ⟨rfl, hy_F.rf⟩
                · refine hy_const (i := 24) rfl (by decide) ?_
                  refine hy_ireturn (i := 25) rfl rfl ?_
                  exact ⟨rfl, hy_F.rf⟩
          · refine hy_const (i := 11) rfl (by decide) ?_
            refine hy_ireturn (i := 12) rfl rfl ?_
            exact ⟨rfl, hy_F.rf⟩
theorem c_W_ash {e q w : Int} (hk : lc_ok t) (hs : pa_stk t) : hy_Ct sc hm_W_ash 5 [.inr (some 2), .inl e, .inl q, .inl w] t (fun r t' => if ((0 ≤ e ∧ e < 6) ∧ 0 ≤ q ∧ q < 4) ∧ 0 ≤ w ∧ w < 3 then ∃ t1 : hy_T, hy_F lX t t1 ∧ t1 46 = wf_as t e q ∧ t' = pa_seaN (wf_ashN t1 64) 64 ∧ r = some (if w = 0 then wf_ashes t1 64 else if w = 1 then t' 52 5 else t' 52 4) else r = some (-1) ∧ t' = t) := by
  refine hy_mk_ct ok_W_ash ck_W_ash (Nat.le_of_ble_eq_true rfl) ?_
  by_cases hq : ((0 ≤ e ∧ e < 6) ∧ 0 ≤ q ∧ q < 4) ∧ 0 ≤ w ∧ w < 3
  · simp only [if_pos hq]
    have loop : ∀ (t1 : hy_T), hy_F lX t t1 → t1 46 = wf_as t e q → ∀ (m : Nat), ∀ (k : Nat) (t2 : hy_T) (v6 : hy_V), m + k = 64 → t2 = wf_ashN t1 k → hy_W sc hm_W_ash 5 21 [.inr (some 2), .inl e, .inl q, .inl w, .inl (wf_ashes t1 k), .inl (k : Int), v6] [] t2 (fun r t' => ∃ t1 : hy_T, hy_F lX t t1 ∧ t1 46 = wf_as t e q ∧ t' = pa_seaN (wf_ashN t1 64) 64 ∧ r = some (if w = 0 then wf_ashes t1 64 else if w = 1 then t' 52 5 else t' 52 4)) := by
      intro t1 hF ha m
      induction m with
      | zero =>
        intro k t2 v6 hm ht
        obtain rfl : k = 64 := by omega
        have hs2 : pa_stk t2 := by rw [ht]; exact pa_stk_F (wf_ashN_F t1 64) (fun _ => rfl) (pa_stk_F hF (fun _ => rfl) hs)
        refine hy_iload (i := 21) rfl rfl ?_
        refine hy_const (i := 22) rfl (by decide) ?_
        refine hy_ic_ge (i := 23) (tt := 52) rfl (fun zc1 => ?_) (fun zc1 => ?_)
        · refine hy_aload (i := 52) rfl rfl ?_
          refine hy_getr (i := 53) rfl rfl ?_
          refine hy_cV0v (i := 54) rfl mj_A_findSeas (by decide) rfl (Nat.le_of_ble_eq_true rfl) rfl rfl rfl (c_A_findSeas (by assumption)) ?_
          refine hy_iload (i := 55) rfl rfl ?_
          by_cases zq2 : w = 0
          · refine hy_lsw (i := 56) (tt := 57) rfl (by rw [zq2]; rfl) ?_
            refine hy_iload (i := 57) rfl rfl ?_
            refine hy_ireturn (i := 58) rfl rfl ?_
            exact ⟨t1, hF, ha, by rw [ht], by rw [if_pos (by assumption)]⟩
          · skip
            by_cases zq2 : w = 1
            · refine hy_lsw (i := 56) (tt := 59) rfl (by rw [zq2]; rfl) ?_
              refine hy_aload (i := 59) rfl rfl ?_
              refine hy_getr (i := 60) rfl rfl ?_
              refine hy_cV0e (i := 61) rfl mj_A_largestSea (by decide) rfl (Nat.le_of_ble_eq_true rfl) rfl rfl rfl (c_A_largestSea) ?_
              refine hy_ireturn (i := 62) rfl rfl ?_
              exact ⟨t1, hF, ha, by rw [ht], by rw [if_neg (by omega), if_pos (by assumption)]⟩
            · skip
              refine hy_lsw (i := 56) (tt := 63) rfl (by simp [hx_look]; omega) ?_
              refine hy_aload (i := 63) rfl rfl ?_
              refine hy_getr (i := 64) rfl rfl ?_
              refine hy_cV0e (i := 65) rfl mj_A_seas (by decide) rfl (Nat.le_of_ble_eq_true rfl) rfl rfl rfl (c_A_seas) ?_
              refine hy_ireturn (i := 66) rfl rfl ?_
              exact ⟨t1, hF, ha, by rw [ht], by rw [if_neg (by omega), if_neg (by omega)]⟩
        · omega
      | succ m ih =>
        intro k t2 v6 hm ht
        have hin := wf_ashes_in t1 k
        have e46 : t2 46 = t1 46 := by rw [ht]; exact funext fun j => wf_ashN_F t1 k 46 j rfl
        have e9 : t2 9 k = t1 9 k := by rw [ht]; exact wf_ashN_F t1 k 9 k rfl
        by_cases hl : lk (t1 46) (t1 9 k) = 12
        · have es : wf_ashes t1 (k + 1) = wf_ashes t1 k + 1 := by simp only [wf_ashes]; rw [if_pos hl]
          refine hy_iload (i := 21) rfl rfl ?_
          refine hy_const (i := 22) rfl (by decide) ?_
          refine hy_ic_ge (i := 23) (tt := 52) rfl (fun zc1 => ?_) (fun zc1 => ?_)
          · omega
          · refine hy_aload (i := 24) rfl rfl ?_
            refine hy_getr (i := 25) rfl rfl ?_
            refine hy_aload (i := 26) rfl rfl ?_
            refine hy_getr (i := 27) rfl rfl ?_
            refine hy_iload (i := 28) rfl rfl ?_
            refine hy_cV1e (i := 29) rfl mj_G_at (by decide) rfl (Nat.le_of_ble_eq_true rfl) rfl rfl rfl (c_G_at) ?_
            rw [if_pos (show 0 ≤ (k : Int) ∧ (k : Int) < 64 by omega), show t2 9 (k : Int).toNat = t1 9 k from e9]
            refine hy_cV1e (i := 30) rfl mj_E_looks (by decide) rfl (Nat.le_of_ble_eq_true rfl) rfl rfl rfl (c_E_looks) ?_
            rw [e46]
            refine hy_const (i := 31) rfl (by decide) ?_
            refine hy_ic_ne (i := 32) (tt := 35) rfl (fun zc2 => ?_) (fun zc2 => ?_)
            · exact absurd hl (by assumption)
            · refine hy_const (i := 33) rfl (by decide) ?_
              refine hy_goto (i := 34) (tt := 36) rfl ?_
              refine hy_istore (i := 36) rfl ?_
              refine hy_aload (i := 37) rfl rfl ?_
              refine hy_getr (i := 38) rfl rfl ?_
              refine hy_iload (i := 39) rfl rfl ?_
              refine hy_iload (i := 40) rfl rfl ?_
              refine hy_cV2v (i := 41) rfl mj_A_mark (by decide) rfl (Nat.le_of_ble_eq_true rfl) rfl rfl rfl (c_A_mark (.inr rfl)) ?_
              rw [if_pos (show 0 ≤ (k : Int) ∧ (k : Int) < 64 by omega)]
              refine hy_iload (i := 42) rfl rfl ?_
              refine hy_iload (i := 43) rfl rfl ?_
              refine hy_if_eq (i := 44) (tt := 47) rfl (fun zc3 => ?_) (fun zc3 => ?_)
              · exact absurd zc3 (by decide)
              · refine hy_const (i := 45) rfl (by decide) ?_
                refine hy_goto (i := 46) (tt := 48) rfl ?_
                refine hy_iadd (i := 48) rfl (by omega) ?_
                refine hy_istore (i := 49) rfl ?_
                refine hy_iinc (i := 50) rfl rfl (by omega) ?_
                refine hy_goto (i := 51) (tt := 21) rfl ?_
                rw [← es]
                exact ih (k + 1) _ _ (by omega) (by rw [ht]; simp only [wf_ashN]; rw [if_pos hl]; rfl)
        · have es : wf_ashes t1 (k + 1) = wf_ashes t1 k + 0 := by simp only [wf_ashes]; rw [if_neg hl]
          refine hy_iload (i := 21) rfl rfl ?_
          refine hy_const (i := 22) rfl (by decide) ?_
          refine hy_ic_ge (i := 23) (tt := 52) rfl (fun zc1 => ?_) (fun zc1 => ?_)
          · omega
          · refine hy_aload (i := 24) rfl rfl ?_
            refine hy_getr (i := 25) rfl rfl ?_
            refine hy_aload (i := 26) rfl rfl ?_
            refine hy_getr (i := 27) rfl rfl ?_
            refine hy_iload (i := 28) rfl rfl ?_
            refine hy_cV1e (i := 29) rfl mj_G_at (by decide) rfl (Nat.le_of_ble_eq_true rfl) rfl rfl rfl (c_G_at) ?_
            rw [if_pos (show 0 ≤ (k : Int) ∧ (k : Int) < 64 by omega), show t2 9 (k : Int).toNat = t1 9 k from e9]
            refine hy_cV1e (i := 30) rfl mj_E_looks (by decide) rfl (Nat.le_of_ble_eq_true rfl) rfl rfl rfl (c_E_looks) ?_
            rw [e46]
            refine hy_const (i := 31) rfl (by decide) ?_
            refine hy_ic_ne (i := 32) (tt := 35) rfl (fun zc2 => ?_) (fun zc2 => ?_)
            · refine hy_const (i := 35) rfl (by decide) ?_
              refine hy_istore (i := 36) rfl ?_
              refine hy_aload (i := 37) rfl rfl ?_
              refine hy_getr (i := 38) rfl rfl ?_
              refine hy_iload (i := 39) rfl rfl ?_
              refine hy_iload (i := 40) rfl rfl ?_
              refine hy_cV2v (i := 41) rfl mj_A_mark (by decide) rfl (Nat.le_of_ble_eq_true rfl) rfl rfl rfl (c_A_mark (.inl rfl)) ?_
              rw [if_pos (show 0 ≤ (k : Int) ∧ (k : Int) < 64 by omega)]
              refine hy_iload (i := 42) rfl rfl ?_
              refine hy_iload (i := 43) rfl rfl ?_
              refine hy_if_eq (i := 44) (tt := 47) rfl (fun zc3 => ?_) (fun zc3 => ?_)
              · refine hy_const (i := 47) rfl (by decide) ?_
                refine hy_iadd (i := 48) rfl (by omega) ?_
                refine hy_istore (i := 49) rfl ?_
                refine hy_iinc (i := 50) rfl rfl (by omega) ?_
                refine hy_goto (i := 51) (tt := 21) rfl ?_
                rw [← es]
                exact ih (k + 1) _ _ (by omega) (by rw [ht]; simp only [wf_ashN]; rw [if_neg hl]; rfl)
              · exact absurd rfl zc3
            · exact absurd (by first | assumption | (exact Classical.byContradiction (by assumption))) hl
    refine hy_iload (i := 0) rfl rfl ?_
    refine hy_cS1e (i := 1) rfl (by decide) mj_W_isEmpire (by decide) rfl (Nat.le_of_ble_eq_true rfl) (c_W_isEmpire) ?_
    refine hy_ib_eq (i := 2) (tt := 10) rfl (fun zc1 => ?_) (fun zc1 => ?_)
    · simp at zc1; omega
    · refine hy_iload (i := 3) rfl rfl ?_
      refine hy_cS1e (i := 4) rfl (by decide) mj_W_isQuarter (by decide) rfl (Nat.le_of_ble_eq_true rfl) (c_W_isQuarter) ?_
      refine hy_ib_eq (i := 5) (tt := 10) rfl (fun zc2 => ?_) (fun zc2 => ?_)
      · simp at zc2; omega
      · refine hy_iload (i := 6) rfl rfl ?_
        refine hy_const (i := 7) rfl (by decide) ?_
        refine hy_cS2e (i := 8) rfl (by decide) mj_W_isAmong (by decide) rfl (Nat.le_of_ble_eq_true rfl) (c_W_isAmong) ?_
        refine hy_ib_ne (i := 9) (tt := 12) rfl (fun zc3 => ?_) (fun zc3 => ?_)
        · refine hy_aload (i := 12) rfl rfl ?_
          refine hy_getr (i := 13) rfl rfl ?_
          refine hy_iload (i := 14) rfl rfl ?_
          refine hy_iload (i := 15) rfl rfl ?_
          refine hy_cV2 (i := 16) rfl mj_E_look (by decide) rfl (Nat.le_of_ble_eq_true rfl) rfl rfl rfl (c_E_look (by assumption)) (fun r4_ t4_ h4 => ?_)
          obtain ⟨rfl, hL4, hF4⟩ := h4
          dsimp only [hy_st, List.nil_append]
          refine hy_const (i := 17) rfl (by decide) ?_
          refine hy_istore (i := 18) rfl ?_
          refine hy_const (i := 19) rfl (by decide) ?_
          refine hy_istore (i := 20) rfl ?_
          exact loop _ hF4 hL4 64 0 _ _ rfl rfl
        · simp at zc3; omega
  · simp only [if_neg hq]
    refine hy_iload (i := 0) rfl rfl ?_
    refine hy_cS1e (i := 1) rfl (by decide) mj_W_isEmpire (by decide) rfl (Nat.le_of_ble_eq_true rfl) (c_W_isEmpire) ?_
    refine hy_ib_eq (i := 2) (tt := 10) rfl (fun zc1 => ?_) (fun zc1 => ?_)
    · refine hy_const (i := 10) rfl (by decide) ?_
      refine hy_ireturn (i := 11) rfl rfl ?_
      exact ⟨rfl, rfl⟩
    · refine hy_iload (i := 3) rfl rfl ?_
      refine hy_cS1e (i := 4) rfl (by decide) mj_W_isQuarter (by decide) rfl (Nat.le_of_ble_eq_true rfl) (c_W_isQuarter) ?_
      refine hy_ib_eq (i := 5) (tt := 10) rfl (fun zc2 => ?_) (fun zc2 => ?_)
      · refine hy_const (i := 10) rfl (by decide) ?_
        refine hy_ireturn (i := 11) rfl rfl ?_
        exact ⟨rfl, rfl⟩
      · refine hy_iload (i := 6) rfl rfl ?_
        refine hy_const (i := 7) rfl (by decide) ?_
        refine hy_cS2e (i := 8) rfl (by decide) mj_W_isAmong (by decide) rfl (Nat.le_of_ble_eq_true rfl) (c_W_isAmong) ?_
        refine hy_ib_ne (i := 9) (tt := 12) rfl (fun zc3 => ?_) (fun zc3 => ?_)
        · exfalso; simp at zc1 zc2 zc3; exact hq ⟨⟨zc1, zc2⟩, zc3⟩
        · refine hy_const (i := 10) rfl (by decide) ?_
          refine hy_ireturn (i := 11) rfl rfl ?_
          exact ⟨rfl, rfl⟩
end WSG
/-! the model's methods: what is told, kept, counted -/
theorem hz_i2b_in (x : Int) : -128 ≤ hz_i2b x ∧ hz_i2b x ≤ 127 := by
  unfold hz_i2b
  have h1 := Int8.toInt_lt (Int32.ofInt x).toInt8
  have h2 := Int8.le_toInt (Int32.ofInt x).toInt8
  first | omega | (simp at h1 h2 ⊢; omega)
abbrev mf_plain (t : hy_T) (c : Int) : Bool := sp_told (t 59 0) c && decide (t 60 c.toNat = -1)
abbrev mf_mixed (t : hy_T) (c : Int) : Bool := sp_told (t 59 0) c && decide (t 60 c.toNat ≠ -1)
def mf_have (t : hy_T) (c q e : Int) : Bool := mf_plain t c && decide ((0 ≤ q ∧ q < 4) ∧ 0 ≤ e ∧ e < 64)
def mf_ty1 (t : hy_T) (v k : Int) : hy_T := hy_up (hy_up t 65 (t 59 9).toNat (hz_i2b (hz_ishr v (8 * k)))) 59 9 (t 59 9 + 1)
def mf_tyN (v : Int) : Nat → hy_T → hy_T
  | 0, t => t
  | m + 1, t => mf_tyN v m (mf_ty1 t v m)
def mf_feed (t : hy_T) (a b c d e : Int) : hy_T := mf_tyN e 4 (mf_tyN d 4 (mf_tyN c 4 (mf_tyN b 4 (mf_tyN a 4 t))))
theorem mf_tyN_l (v : Int) : ∀ (m : Nat) (t : hy_T), mf_tyN v m t 59 9 = t 59 9 + m
  | 0, t => by simp [mf_tyN]
  | m + 1, t => by
    simp only [mf_tyN]
    rw [mf_tyN_l v m, show mf_ty1 t v m 59 9 = t 59 9 + 1 from rfl]
    omega
def mf_pack1 (r : Nat) (t : hy_T) (k : Nat) : hy_T :=
  let t1 := hy_up t r (6 * k) (t 85 k)
  let t2 := hy_up t1 r (6 * k + 1) (t1 86 k)
  let t3 := hy_up t2 r (6 * k + 2) (t2 87 k)
  let t4 := hy_up t3 r (6 * k + 3) (t3 88 k)
  let t5 := hy_up t4 r (6 * k + 4) (t4 89 k)
  hy_up t5 r (6 * k + 5) (t5 90 k)
def mf_packN (r : Nat) (t : hy_T) : Nat → hy_T
  | 0 => t
  | k + 1 => mf_pack1 r (mf_packN r t k) k
def mf_unp1 (r : Nat) (t : hy_T) (k : Nat) : hy_T :=
  let t1 := hy_up t 85 k (t r (6 * k))
  let t2 := hy_up t1 86 k (t1 r (6 * k + 1))
  let t3 := hy_up t2 87 k (t2 r (6 * k + 2))
  let t4 := hy_up t3 88 k (t3 r (6 * k + 3))
  let t5 := hy_up t4 89 k (t4 r (6 * k + 4))
  hy_up t5 90 k (t5 r (6 * k + 5))
def mf_unpN (r : Nat) (t : hy_T) : Nat → hy_T
  | 0 => t
  | k + 1 => mf_unp1 r (mf_unpN r t k) k
def mf_set3 (t : hy_T) (a a' b b' c c' : Nat) : hy_T :=
  let t1 := hy_up t 59 a (t 59 a')
  let t2 := hy_up t1 59 b (t1 59 b')
  hy_up t2 59 c (t2 59 c')
def mf_begins (t : hy_T) : hy_T := mf_set3 (mf_packN 92 (hy_cp t 62 91 48) 16) 51 34 52 2 53 1
def mf_again (t : hy_T) : hy_T := mf_set3 (mf_unpN 92 (hy_cp t 91 62 48) 16) 34 51 2 52 1 53
def mf_keep (t : hy_T) : hy_T := mf_set3 (hy_cp (mf_packN 94 (hy_cp (hy_up t 59 57 1) 62 93 48) 16) 64 95 64) 54 34 55 2 56 1
def mf_undo (t : hy_T) : hy_T := mf_set3 (hy_cp (mf_unpN 94 (hy_cp t 93 62 48) 16) 95 64 64) 34 54 2 55 1 56
def mf_bitsN (x : Int) : Nat → Int
  | 0 => 0
  | k + 1 => mf_bitsN x k + hy_b (hz_b x k)
theorem hy_b_in (p : Bool) : 0 ≤ hy_b p ∧ hy_b p ≤ 1 := by cases p <;> decide
theorem mf_bitsN_in (x : Int) : ∀ k : Nat, 0 ≤ mf_bitsN x k ∧ mf_bitsN x k ≤ k
  | 0 => by simp [mf_bitsN]
  | k + 1 => by
    have h := mf_bitsN_in x k
    have h2 := hy_b_in (hz_b x k)
    simp only [mf_bitsN]
    omega
def mf_hadN (t : hy_T) (c : Int) : Nat → Int
  | 0 => 0
  | q + 1 => mf_hadN t c q + mf_bitsN (t 62 (4 * c + q).toNat) 12
theorem mf_hadN_in (t : hy_T) (c : Int) : ∀ k : Nat, 0 ≤ mf_hadN t c k ∧ mf_hadN t c k ≤ 12 * k
  | 0 => by simp [mf_hadN]
  | k + 1 => by
    have h := mf_hadN_in t c k
    have h2 := mf_bitsN_in (t 62 (4 * c + k).toNat) 12
    simp only [mf_hadN]
    omega
def mf_mixN (t : hy_T) : Nat → Int
  | 0 => 0
  | k + 1 => hz_ior (mf_mixN t k) (if mf_mixed t k = true then hz_ishl 1 k else 0)
def mf_numN (t : hy_T) (i : Nat) : Nat → Int
  | 0 => 0
  | j + 1 => hz_ior (hz_ishl (mf_numN t i j) 8) (hz_iand (t 65 (4 * i + j)) 255)
def mf_checkN (t : hy_T) : Nat → Nat → Int
  | 0, _ => -1
  | m + 1, k => if mf_numN t k 4 = t 64 k then mf_checkN t m (k + 1) else k
def mf_count (t : hy_T) (w : Int) : Int :=
  if w = 0 then t 59 0 else if w = 1 then mf_mixN t 12 else if w = 2 then t 59 18 else if w = 3 then t 59 9 else if w = 4 then t 59 1 else if w = 5 then t 59 2 else if w = 6 then t 59 34
  else if 10 ≤ w ∧ w ≤ 21 then (if mf_mixed t (w - 10) = true then 100 * t 60 (w - 10).toNat + t 61 (w - 10).toNat else -1)
  else if 100 ≤ w ∧ w ≤ 147 then (if mf_plain t ((w - 100) / 4) = true then t 62 (w - 100).toNat else -1)
  else if 200 ≤ w ∧ w ≤ 263 then t 63 (w - 200).toNat
  else if 300 ≤ w ∧ w ≤ 363 then t 64 (w - 300).toNat else -1
def mf_ch1 (t : hy_T) (c e s : Int) (q : Nat) : hy_T :=
  hy_up t 62 (4 * c + q).toNat (if s = 0 then hz_iand (t 62 (4 * c + q).toNat) (hz_ixor (hz_ishl 1 e) (-1)) else hz_ior (t 62 (4 * c + q).toNat) (hz_ishl 1 e))
def mf_chN (t : hy_T) (c w e s : Int) : Nat → hy_T
  | 0 => t
  | q + 1 => if hz_b w q = true then mf_ch1 (mf_chN t c w e s q) c e s q else mf_chN t c w e s q
section MA
variable {sc : List Int32} {t : hy_T}
theorem c_M_have {c q e : Int} : hy_Ct sc hm_M_have 3 [.inr (some 59), .inl c, .inl q, .inl e] t (hy_e (some (hy_b (mf_have t c q e))) (if mf_have t c q e = true then hy_up t 62 (4 * c + q).toNat e else t)) := by
  refine hy_mk_ct ok_M_have ck_M_have (Nat.le_of_ble_eq_true rfl) ?_
  by_cases hq : mf_have t c q e = true
  · have h2 := hq
    simp only [mf_have, mf_plain, Bool.and_eq_true, decide_eq_true_eq] at h2
    have h3 := sp_told_in h2.1.1
    rw [hq, if_pos rfl]
    refine hy_aload (i := 0) rfl rfl ?_
    refine hy_iload (i := 1) rfl rfl ?_
    refine hy_cV1e (i := 2) rfl mj_M_isPlain (by decide) rfl (Nat.le_of_ble_eq_true rfl) rfl rfl rfl (c_M_isPlain) ?_
    refine hy_ib_eq (i := 3) (tt := 12) rfl (fun zc1 => ?_) (fun zc1 => ?_)
    · simp_all
    · refine hy_iload (i := 4) rfl rfl ?_
      refine hy_cS1e (i := 5) rfl (by decide) mj_M_isQuarter (by decide) rfl (Nat.le_of_ble_eq_true rfl) (c_M_isQuarter) ?_
      refine hy_ib_eq (i := 6) (tt := 12) rfl (fun zc2 => ?_) (fun zc2 => ?_)
      · simp at zc2; omega
      · refine hy_iload (i := 7) rfl rfl ?_
        refine hy_const (i := 8) rfl (by decide) ?_
        refine hy_const (i := 9) rfl (by decide) ?_
        refine hy_cS3e (i := 10) rfl (by decide) mj_M_in (by decide) rfl (Nat.le_of_ble_eq_true rfl) (c_M_in) ?_
        refine hy_ib_ne (i := 11) (tt := 14) rfl (fun zc3 => ?_) (fun zc3 => ?_)
        · refine hy_aload (i := 14) rfl rfl ?_
          refine hy_getr (i := 15) rfl rfl ?_
          refine hy_const (i := 16) rfl (by decide) ?_
          refine hy_iload (i := 17) rfl rfl ?_
          refine hy_imul (i := 18) rfl (by omega) ?_
          refine hy_iload (i := 19) rfl rfl ?_
          refine hy_iadd (i := 20) rfl (by omega) ?_
          refine hy_iload (i := 21) rfl rfl ?_
          refine hy_iast (i := 22) rfl rfl (by omega) rfl ?_
          refine hy_const (i := 23) rfl (by decide) ?_
          refine hy_zreturn (i := 24) rfl rfl (by first | decide | exact hy_b01 _) ?_
          exact ⟨rfl, rfl⟩
        · simp at zc3; omega
  · rw [Bool.not_eq_true] at hq
    have h2 := hq
    rw [hq, if_neg (by decide)]
    refine hy_aload (i := 0) rfl rfl ?_
    refine hy_iload (i := 1) rfl rfl ?_
    refine hy_cV1e (i := 2) rfl mj_M_isPlain (by decide) rfl (Nat.le_of_ble_eq_true rfl) rfl rfl rfl (c_M_isPlain) ?_
    refine hy_ib_eq (i := 3) (tt := 12) rfl (fun zc1 => ?_) (fun zc1 => ?_)
    · refine hy_const (i := 12) rfl (by decide) ?_
      refine hy_zreturn (i := 13) rfl rfl (by first | decide | exact hy_b01 _) ?_
      exact ⟨rfl, rfl⟩
    · refine hy_iload (i := 4) rfl rfl ?_
      refine hy_cS1e (i := 5) rfl (by decide) mj_M_isQuarter (by decide) rfl (Nat.le_of_ble_eq_true rfl) (c_M_isQuarter) ?_
      refine hy_ib_eq (i := 6) (tt := 12) rfl (fun zc2 => ?_) (fun zc2 => ?_)
      · refine hy_const (i := 12) rfl (by decide) ?_
        refine hy_zreturn (i := 13) rfl rfl (by first | decide | exact hy_b01 _) ?_
        exact ⟨rfl, rfl⟩
      · refine hy_iload (i := 7) rfl rfl ?_
        refine hy_const (i := 8) rfl (by decide) ?_
        refine hy_const (i := 9) rfl (by decide) ?_
        refine hy_cS3e (i := 10) rfl (by decide) mj_M_in (by decide) rfl (Nat.le_of_ble_eq_true rfl) (c_M_in) ?_
        refine hy_ib_ne (i := 11) (tt := 14) rfl (fun zc3 => ?_) (fun zc3 => ?_)
        · exfalso; simp only [mf_have, mf_plain] at h2; rw [zc1, Bool.true_and] at h2; simp at h2 zc2 zc3; omega
        · refine hy_const (i := 12) rfl (by decide) ?_
          refine hy_zreturn (i := 13) rfl rfl (by first | decide | exact hy_b01 _) ?_
          exact ⟨rfl, rfl⟩
theorem c_M_owner {x y e : Int} : hy_Ct sc hm_M_owner 1 [.inr (some 59), .inl x, .inl y, .inl e] t (hy_e (some (hy_b (wf_owner x y e))) (if wf_owner x y e = true then hy_up t 64 (8 * y + x).toNat e else t)) := by
  refine hy_mk_ct ok_M_owner ck_M_owner (Nat.le_of_ble_eq_true rfl) ?_
  by_cases hq : wf_owner x y e = true
  · have h2 := hq
    simp only [wf_owner, decide_eq_true_eq] at h2
    rw [hq, if_pos rfl]
    refine hy_iload (i := 0) rfl rfl ?_
    refine hy_const (i := 1) rfl (by decide) ?_
    refine hy_const (i := 2) rfl (by decide) ?_
    refine hy_cS3e (i := 3) rfl (by decide) mj_M_in (by decide) rfl (Nat.le_of_ble_eq_true rfl) (c_M_in) ?_
    refine hy_ib_eq (i := 4) (tt := 15) rfl (fun zc1 => ?_) (fun zc1 => ?_)
    · simp at zc1; omega
    · refine hy_iload (i := 5) rfl rfl ?_
      refine hy_const (i := 6) rfl (by decide) ?_
      refine hy_const (i := 7) rfl (by decide) ?_
      refine hy_cS3e (i := 8) rfl (by decide) mj_M_in (by decide) rfl (Nat.le_of_ble_eq_true rfl) (c_M_in) ?_
      refine hy_ib_eq (i := 9) (tt := 15) rfl (fun zc2 => ?_) (fun zc2 => ?_)
      · simp at zc2; omega
      · refine hy_iload (i := 10) rfl rfl ?_
        refine hy_const (i := 11) rfl (by decide) ?_
        refine hy_const (i := 12) rfl (by decide) ?_
        refine hy_cS3e (i := 13) rfl (by decide) mj_M_in (by decide) rfl (Nat.le_of_ble_eq_true rfl) (c_M_in) ?_
        refine hy_ib_ne (i := 14) (tt := 17) rfl (fun zc3 => ?_) (fun zc3 => ?_)
        · refine hy_aload (i := 17) rfl rfl ?_
          refine hy_getr (i := 18) rfl rfl ?_
          refine hy_const (i := 19) rfl (by decide) ?_
          refine hy_iload (i := 20) rfl rfl ?_
          refine hy_imul (i := 21) rfl (by omega) ?_
          refine hy_iload (i := 22) rfl rfl ?_
          refine hy_iadd (i := 23) rfl (by omega) ?_
          refine hy_iload (i := 24) rfl rfl ?_
          refine hy_iast (i := 25) rfl rfl (by omega) rfl ?_
          refine hy_const (i := 26) rfl (by decide) ?_
          refine hy_zreturn (i := 27) rfl rfl (by first | decide | exact hy_b01 _) ?_
          exact ⟨rfl, rfl⟩
        · simp at zc3; omega
  · rw [Bool.not_eq_true] at hq
    have h2 := hq
    simp only [wf_owner, decide_eq_false_iff_not] at h2
    rw [hq, if_neg (by decide)]
    refine hy_iload (i := 0) rfl rfl ?_
    refine hy_const (i := 1) rfl (by decide) ?_
    refine hy_const (i := 2) rfl (by decide) ?_
    refine hy_cS3e (i := 3) rfl (by decide) mj_M_in (by decide) rfl (Nat.le_of_ble_eq_true rfl) (c_M_in) ?_
    refine hy_ib_eq (i := 4) (tt := 15) rfl (fun zc1 => ?_) (fun zc1 => ?_)
    · refine hy_const (i := 15) rfl (by decide) ?_
      refine hy_zreturn (i := 16) rfl rfl (by first | decide | exact hy_b01 _) ?_
      exact ⟨rfl, rfl⟩
    · refine hy_iload (i := 5) rfl rfl ?_
      refine hy_const (i := 6) rfl (by decide) ?_
      refine hy_const (i := 7) rfl (by decide) ?_
      refine hy_cS3e (i := 8) rfl (by decide) mj_M_in (by decide) rfl (Nat.le_of_ble_eq_true rfl) (c_M_in) ?_
      refine hy_ib_eq (i := 9) (tt := 15) rfl (fun zc2 => ?_) (fun zc2 => ?_)
      · refine hy_const (i := 15) rfl (by decide) ?_
        refine hy_zreturn (i := 16) rfl rfl (by first | decide | exact hy_b01 _) ?_
        exact ⟨rfl, rfl⟩
      · refine hy_iload (i := 10) rfl rfl ?_
        refine hy_const (i := 11) rfl (by decide) ?_
        refine hy_const (i := 12) rfl (by decide) ?_
        refine hy_cS3e (i := 13) rfl (by decide) mj_M_in (by decide) rfl (Nat.le_of_ble_eq_true rfl) (c_M_in) ?_
        refine hy_ib_ne (i := 14) (tt := 17) rfl (fun zc3 => ?_) (fun zc3 => ?_)
        · simp at zc1 zc2 zc3; omega
        · refine hy_const (i := 15) rfl (by decide) ?_
          refine hy_zreturn (i := 16) rfl rfl (by first | decide | exact hy_b01 _) ?_
          exact ⟨rfl, rfl⟩
theorem c_M_types {v : Int} (hl : 0 ≤ t 59 9 ∧ t 59 9 + 4 ≤ 260) : hy_Ct sc hm_M_types 0 [.inr (some 59), .inl v] t (hy_e none (mf_tyN v 4 t)) := by
  refine hy_mk_ct ok_M_types ck_M_types (Nat.le_of_ble_eq_true rfl) ?_
  have loop : ∀ (m : Nat), m ≤ 4 → ∀ (t1 : hy_T), (0 ≤ t1 59 9 ∧ t1 59 9 + m ≤ 260) → mf_tyN v m t1 = mf_tyN v 4 t → hy_W sc hm_M_types 0 2 [.inr (some 59), .inl v, .inl ((m : Int) - 1)] [] t1 (hy_e none (mf_tyN v 4 t)) := by
    intro m
    induction m with
    | zero =>
      intro hm t1 h1 he
      refine hy_iload (i := 2) rfl rfl ?_
      refine hy_if_lt (i := 3) (tt := 23) rfl (fun zc1 => ?_) (fun zc1 => ?_)
      · refine hy_return (i := 23) rfl rfl ?_
        exact ⟨rfl, he⟩
      · omega
    | succ m ih =>
      intro hm t1 h1 he
      rw [show (((m + 1 : Nat) : Int) - 1) = (m : Int) by omega]
      refine hy_iload (i := 2) rfl rfl ?_
      refine hy_if_lt (i := 3) (tt := 23) rfl (fun zc1 => ?_) (fun zc1 => ?_)
      · omega
      · refine hy_aload (i := 4) rfl rfl ?_
        refine hy_getr (i := 5) rfl rfl ?_
        refine hy_aload (i := 6) rfl rfl ?_
        refine hy_get (i := 7) (fk := 9) rfl rfl rfl ?_
        refine hy_iload (i := 8) rfl rfl ?_
        refine hy_const (i := 9) rfl (by decide) ?_
        refine hy_iload (i := 10) rfl rfl ?_
        refine hy_imul (i := 11) rfl (by omega) ?_
        refine hy_ishr (i := 12) rfl ?_
        refine hy_i2b (i := 13) rfl ?_
        refine hy_bast (i := 14) rfl rfl (by omega) rfl (hz_i2b_in _) ?_
        refine hy_aload (i := 15) rfl rfl ?_
        refine hy_aload (i := 16) rfl rfl ?_
        refine hy_get (i := 17) (fk := 9) rfl rfl rfl ?_
        rw [show ∀ (u : hy_T) (i : Nat) (x : Int), hy_up u 65 i x 59 9 = u 59 9 from fun _ _ _ => rfl]
        refine hy_const (i := 18) rfl (by decide) ?_
        refine hy_iadd (i := 19) rfl (by omega) ?_
        refine hy_put (i := 20) (fk := 9) rfl rfl rfl rfl ?_
        refine hy_iinc (i := 21) rfl rfl (by omega) ?_
        refine hy_goto (i := 22) (tt := 2) rfl ?_
        rw [show (m : Int) + -1 = (m : Int) - 1 by omega]
        exact ih (by omega) _ (by show 0 ≤ t1 59 9 + 1 ∧ t1 59 9 + 1 + m ≤ 260; omega) he
  refine hy_const (i := 0) rfl (by decide) ?_
  refine hy_istore (i := 1) rfl ?_
  exact loop 4 (by decide) t (by omega) rfl
theorem c_M_feed {a b c d e : Int} (hl : 0 ≤ t 59 9 ∧ t 59 9 ≤ 260) : hy_Ct sc hm_M_feed 1 [.inr (some 59), .inl a, .inl b, .inl c, .inl d, .inl e] t (hy_e (some (if t 59 9 ≤ 240 then t 59 9 + 20 else -1)) (if t 59 9 ≤ 240 then mf_feed t a b c d e else t)) := by
  refine hy_mk_ct ok_M_feed ck_M_feed (Nat.le_of_ble_eq_true rfl) ?_
  by_cases hq : t 59 9 ≤ 240
  · rw [if_pos hq, if_pos hq]
    have h1 := mf_tyN_l a 4 t
    have h2 := mf_tyN_l b 4 (mf_tyN a 4 t)
    have h3 := mf_tyN_l c 4 (mf_tyN b 4 (mf_tyN a 4 t))
    have h4 := mf_tyN_l d 4 (mf_tyN c 4 (mf_tyN b 4 (mf_tyN a 4 t)))
    have h5 := mf_tyN_l e 4 (mf_tyN d 4 (mf_tyN c 4 (mf_tyN b 4 (mf_tyN a 4 t))))
    refine hy_aload (i := 0) rfl rfl ?_
    refine hy_get (i := 1) (fk := 9) rfl rfl rfl ?_
    refine hy_const (i := 2) rfl (by decide) ?_
    refine hy_iadd (i := 3) rfl (by omega) ?_
    refine hy_const (i := 4) rfl (by decide) ?_
    refine hy_ic_le (i := 5) (tt := 8) rfl (fun zc1 => ?_) (fun zc1 => ?_)
    · refine hy_aload (i := 8) rfl rfl ?_
      refine hy_iload (i := 9) rfl rfl ?_
      refine hy_cV1v (i := 10) rfl mj_M_types (by decide) rfl (Nat.le_of_ble_eq_true rfl) rfl rfl rfl (c_M_types (by omega)) ?_
      refine hy_aload (i := 11) rfl rfl ?_
      refine hy_iload (i := 12) rfl rfl ?_
      refine hy_cV1v (i := 13) rfl mj_M_types (by decide) rfl (Nat.le_of_ble_eq_true rfl) rfl rfl rfl (c_M_types (by omega)) ?_
      refine hy_aload (i := 14) rfl rfl ?_
      refine hy_iload (i := 15) rfl rfl ?_
      refine hy_cV1v (i := 16) rfl mj_M_types (by decide) rfl (Nat.le_of_ble_eq_true rfl) rfl rfl rfl (c_M_types (by omega)) ?_
      refine hy_aload (i := 17) rfl rfl ?_
      refine hy_iload (i := 18) rfl rfl ?_
      refine hy_cV1v (i := 19) rfl mj_M_types (by decide) rfl (Nat.le_of_ble_eq_true rfl) rfl rfl rfl (c_M_types (by omega)) ?_
      refine hy_aload (i := 20) rfl rfl ?_
      refine hy_iload (i := 21) rfl rfl ?_
      refine hy_cV1v (i := 22) rfl mj_M_types (by decide) rfl (Nat.le_of_ble_eq_true rfl) rfl rfl rfl (c_M_types (by omega)) ?_
      refine hy_aload (i := 23) rfl rfl ?_
      refine hy_get (i := 24) (fk := 9) rfl rfl rfl ?_
      refine hy_ireturn (i := 25) rfl rfl ?_
      exact ⟨congrArg some (by omega), rfl⟩
    · omega
  · rw [if_neg hq, if_neg hq]
    refine hy_aload (i := 0) rfl rfl ?_
    refine hy_get (i := 1) (fk := 9) rfl rfl rfl ?_
    refine hy_const (i := 2) rfl (by decide) ?_
    refine hy_iadd (i := 3) rfl (by omega) ?_
    refine hy_const (i := 4) rfl (by decide) ?_
    refine hy_ic_le (i := 5) (tt := 8) rfl (fun zc1 => ?_) (fun zc1 => ?_)
    · omega
    · refine hy_const (i := 6) rfl (by decide) ?_
      refine hy_ireturn (i := 7) rfl rfl ?_
      exact ⟨rfl, rfl⟩
theorem c_M_seed {x : Int} : hy_Ct sc hm_M_seed 1 [.inr (some 59), .inl x] t (hy_e (some (hy_b (wf_seed x))) (if wf_seed x = true then hy_up t 59 1 x else t)) := by
  refine hy_mk_ct ok_M_seed ck_M_seed (Nat.le_of_ble_eq_true rfl) ?_
  by_cases hq : wf_seed x = true
  · have h2 := hq
    simp only [wf_seed, decide_eq_true_eq] at h2
    rw [hq, if_pos rfl]
    refine hy_iload (i := 0) rfl rfl ?_
    refine hy_const (i := 1) rfl (by decide) ?_
    refine hy_const (i := 2) rfl (by decide) ?_
    refine hy_cS3e (i := 3) rfl (by decide) mj_M_in (by decide) rfl (Nat.le_of_ble_eq_true rfl) (c_M_in) ?_
    refine hy_ib_ne (i := 4) (tt := 7) rfl (fun zc1 => ?_) (fun zc1 => ?_)
    · refine hy_aload (i := 7) rfl rfl ?_
      refine hy_iload (i := 8) rfl rfl ?_
      refine hy_put (i := 9) (fk := 1) rfl rfl rfl rfl ?_
      refine hy_const (i := 10) rfl (by decide) ?_
      refine hy_zreturn (i := 11) rfl rfl (by first | decide | exact hy_b01 _) ?_
      exact ⟨rfl, rfl⟩
    · simp at zc1; omega
  · rw [Bool.not_eq_true] at hq
    have h2 := hq
    simp only [wf_seed, decide_eq_false_iff_not] at h2
    rw [hq, if_neg (by decide)]
    refine hy_iload (i := 0) rfl rfl ?_
    refine hy_const (i := 1) rfl (by decide) ?_
    refine hy_const (i := 2) rfl (by decide) ?_
    refine hy_cS3e (i := 3) rfl (by decide) mj_M_in (by decide) rfl (Nat.le_of_ble_eq_true rfl) (c_M_in) ?_
    refine hy_ib_ne (i := 4) (tt := 7) rfl (fun zc1 => ?_) (fun zc1 => ?_)
    · simp at zc1; omega
    · refine hy_const (i := 5) rfl (by decide) ?_
      refine hy_zreturn (i := 6) rfl rfl (by first | decide | exact hy_b01 _) ?_
      exact ⟨rfl, rfl⟩
theorem hy_cp_s {r0 r1 k : Nat} (hne : r0 ≠ r1) : hy_up (hy_cp t r0 r1 k) r1 k (hy_cp t r0 r1 k r0 k) = hy_cp t r0 r1 (k + 1) := by
  funext r j
  simp only [hy_up, hy_cp]
  by_cases hr : r = r1
  · by_cases hj : j = k
    · subst hj; rw [if_pos ⟨hr, rfl⟩, if_neg (fun h => hne h.1), if_pos ⟨hr, by omega⟩]
    · rw [if_neg (fun h => hj h.2)]
      by_cases hk : j < k
      · rw [if_pos ⟨hr, hk⟩, if_pos ⟨hr, by omega⟩]
      · rw [if_neg (fun h => hk h.2), if_neg (fun h => by omega)]
  · rw [if_neg (fun h => hr h.1), if_neg (fun h => hr h.1), if_neg (fun h => hr h.1)]
theorem hy_cp_0 {r0 r1 : Nat} : hy_cp t r0 r1 0 = t := by
  funext r j
  simp [hy_cp]
theorem c_M_copies {r0 r1 n0 n1 : Nat} {n : Int} (ha0 : hy_arr r0 = some (0, n0)) (ha1 : hy_arr r1 = some (0, n1)) (hn : 0 ≤ n ∧ n ≤ n0 ∧ n ≤ n1 ∧ n ≤ 1000) (hne : r0 ≠ r1) : hy_Ct sc hm_M_copies 0 [.inr (some r0), .inr (some r1), .inl n] t (hy_e none (hy_cp t r0 r1 n.toNat)) := by
  refine hy_mk_ct ok_M_copies ck_M_copies (Nat.le_of_ble_eq_true rfl) ?_
  have loop : ∀ (m : Nat), ∀ (k : Nat) (t1 : hy_T), m + k = n.toNat → t1 = hy_cp t r0 r1 k → hy_W sc hm_M_copies 0 2 [.inr (some r0), .inr (some r1), .inl n, .inl (k : Int)] [] t1 (hy_e none (hy_cp t r0 r1 n.toNat)) := by
    intro m
    induction m with
    | zero =>
      intro k t1 hm ht
      obtain rfl : k = n.toNat := by omega
      refine hy_iload (i := 2) rfl rfl ?_
      refine hy_iload (i := 3) rfl rfl ?_
      refine hy_ic_ge (i := 4) (tt := 13) rfl (fun zc1 => ?_) (fun zc1 => ?_)
      · refine hy_return (i := 13) rfl rfl ?_
        exact ⟨rfl, ht⟩
      · omega
    | succ m ih =>
      intro k t1 hm ht
      refine hy_iload (i := 2) rfl rfl ?_
      refine hy_iload (i := 3) rfl rfl ?_
      refine hy_ic_ge (i := 4) (tt := 13) rfl (fun zc1 => ?_) (fun zc1 => ?_)
      · omega
      · refine hy_aload (i := 5) rfl rfl ?_
        refine hy_iload (i := 6) rfl rfl ?_
        refine hy_aload (i := 7) rfl rfl ?_
        refine hy_iload (i := 8) rfl rfl ?_
        refine hy_iald (i := 9) rfl ha0 (by omega) (k := k) (by omega) ?_
        refine hy_iast (i := 10) rfl ha1 (by omega) (k := k) (by omega) ?_
        refine hy_iinc (i := 11) rfl rfl (by omega) ?_
        refine hy_goto (i := 12) (tt := 2) rfl ?_
        exact ih (k + 1) _ (by omega) (by rw [ht]; exact hy_cp_s hne)
  refine hy_const (i := 0) rfl (by decide) ?_
  refine hy_istore (i := 1) rfl ?_
  exact loop n.toNat 0 t rfl hy_cp_0.symm
theorem c_M_packs {r : Nat} (ha : hy_arr r = some (0, 96)) : hy_Ct sc hm_M_packs 0 [.inr (some 59), .inr (some r)] t (hy_e none (mf_packN r t 16)) := by
  refine hy_mk_ct ok_M_packs ck_M_packs (Nat.le_of_ble_eq_true rfl) ?_
  have loop : ∀ (m : Nat), ∀ (k : Nat) (t1 : hy_T), m + k = 16 → t1 = mf_packN r t k → hy_W sc hm_M_packs 0 2 [.inr (some 59), .inr (some r), .inl (k : Int)] [] t1 (hy_e none (mf_packN r t 16)) := by
    intro m
    induction m with
    | zero =>
      intro k t1 hm ht
      obtain rfl : k = 16 := by omega
      refine hy_iload (i := 2) rfl rfl ?_
      refine hy_const (i := 3) rfl (by decide) ?_
      refine hy_ic_ge (i := 4) (tt := 71) rfl (fun zc1 => ?_) (fun zc1 => ?_)
      · refine hy_return (i := 71) rfl rfl ?_
        exact ⟨rfl, ht⟩
      · omega
    | succ m ih =>
      intro k t1 hm ht
      refine hy_iload (i := 2) rfl rfl ?_
      refine hy_const (i := 3) rfl (by decide) ?_
      refine hy_ic_ge (i := 4) (tt := 71) rfl (fun zc1 => ?_) (fun zc1 => ?_)
      · omega
      · refine hy_aload (i := 5) rfl rfl ?_
        refine hy_const (i := 6) rfl (by decide) ?_
        refine hy_iload (i := 7) rfl rfl ?_
        refine hy_imul (i := 8) rfl (by omega) ?_
        refine hy_aload (i := 9) rfl rfl ?_
        refine hy_getr (i := 10) rfl rfl ?_
        refine hy_iload (i := 11) rfl rfl ?_
        refine hy_iald (i := 12) rfl rfl (by omega) (k := k) (by omega) ?_
        refine hy_iast (i := 13) rfl ha (by omega) (k := 6 * k) (by omega) ?_
        refine hy_aload (i := 14) rfl rfl ?_
        refine hy_const (i := 15) rfl (by decide) ?_
        refine hy_iload (i := 16) rfl rfl ?_
        refine hy_imul (i := 17) rfl (by omega) ?_
        refine hy_const (i := 18) rfl (by decide) ?_
        refine hy_iadd (i := 19) rfl (by omega) ?_
        refine hy_aload (i := 20) rfl rfl ?_
        refine hy_getr (i := 21) rfl rfl ?_
        refine hy_iload (i := 22) rfl rfl ?_
        refine hy_iald (i := 23) rfl rfl (by omega) (k := k) (by omega) ?_
        refine hy_iast (i := 24) rfl ha (by omega) (k := 6 * k + 1) (by omega) ?_
        refine hy_aload (i := 25) rfl rfl ?_
        refine hy_const (i := 26) rfl (by decide) ?_
        refine hy_iload (i := 27) rfl rfl ?_
        refine hy_imul (i := 28) rfl (by omega) ?_
        refine hy_const (i := 29) rfl (by decide) ?_
        refine hy_iadd (i := 30) rfl (by omega) ?_
        refine hy_aload (i := 31) rfl rfl ?_
        refine hy_getr (i := 32) rfl rfl ?_
        refine hy_iload (i := 33) rfl rfl ?_
        refine hy_iald (i := 34) rfl rfl (by omega) (k := k) (by omega) ?_
        refine hy_iast (i := 35) rfl ha (by omega) (k := 6 * k + 2) (by omega) ?_
        refine hy_aload (i := 36) rfl rfl ?_
        refine hy_const (i := 37) rfl (by decide) ?_
        refine hy_iload (i := 38) rfl rfl ?_
        refine hy_imul (i := 39) rfl (by omega) ?_
        refine hy_const (i := 40) rfl (by decide) ?_
        refine hy_iadd (i := 41) rfl (by omega) ?_
        refine hy_aload (i := 42) rfl rfl ?_
        refine hy_getr (i := 43) rfl rfl ?_
        refine hy_iload (i := 44) rfl rfl ?_
        refine hy_iald (i := 45) rfl rfl (by omega) (k := k) (by omega) ?_
        refine hy_iast (i := 46) rfl ha (by omega) (k := 6 * k + 3) (by omega) ?_
        refine hy_aload (i := 47) rfl rfl ?_
        refine hy_const (i := 48) rfl (by decide) ?_
        refine hy_iload (i := 49) rfl rfl ?_
        refine hy_imul (i := 50) rfl (by omega) ?_
        refine hy_const (i := 51) rfl (by decide) ?_
        refine hy_iadd (i := 52) rfl (by omega) ?_
        refine hy_aload (i := 53) rfl rfl ?_
        refine hy_getr (i := 54) rfl rfl ?_
        refine hy_iload (i := 55) rfl rfl ?_
        refine hy_iald (i := 56) rfl rfl (by omega) (k := k) (by omega) ?_
        refine hy_iast (i := 57) rfl ha (by omega) (k := 6 * k + 4) (by omega) ?_
        refine hy_aload (i := 58) rfl rfl ?_
        refine hy_const (i := 59) rfl (by decide) ?_
        refine hy_iload (i := 60) rfl rfl ?_
        refine hy_imul (i := 61) rfl (by omega) ?_
        refine hy_const (i := 62) rfl (by decide) ?_
        refine hy_iadd (i := 63) rfl (by omega) ?_
        refine hy_aload (i := 64) rfl rfl ?_
        refine hy_getr (i := 65) rfl rfl ?_
        refine hy_iload (i := 66) rfl rfl ?_
        refine hy_iald (i := 67) rfl rfl (by omega) (k := k) (by omega) ?_
        refine hy_iast (i := 68) rfl ha (by omega) (k := 6 * k + 5) (by omega) ?_
        refine hy_iinc (i := 69) rfl rfl (by omega) ?_
        refine hy_goto (i := 70) (tt := 2) rfl ?_
        exact ih (k + 1) _ (by omega) (by rw [ht]; rfl)
  refine hy_const (i := 0) rfl (by decide) ?_
  refine hy_istore (i := 1) rfl ?_
  exact loop 16 0 t rfl rfl
end MA
/-! the model's methods: put back, counted, changed -/
section MBC
variable {sc : List Int32} {u v : hx_M} {d d' i j : Nat} {loc rest st : List hy_V} {t t1 : hy_T} {Q Q' : Option Int → hy_T → Prop}
theorem hy_cS3v {a1 a2 a3 : hy_V} (hop : (hx_ops u)[i]? = some (.invokestatic j)) (hj9 : j < 9991) (hj : hx_ms[j]? = some v) (hd : d' < d) (hn : 3 = hx_na v) (hrl : rest.length ≤ 8) (hct : hy_Ct sc v d' [a1, a2, a3] t (hy_e none t1)) (kk : hy_W sc u d (i + 1) loc rest t1 Q) : hy_W sc u d i loc (a3 :: a2 :: a1 :: rest) t Q :=
  hy_callS (as := [a1, a2, a3]) hop hj9 hj hd hn hrl hct (fun r t' h => by obtain ⟨rfl, rfl⟩ := h; exact kk)
end MBC
section MB
variable {sc : List Int32} {t : hy_T}
theorem c_M_unpacks {r : Nat} (ha : hy_arr r = some (0, 96)) : hy_Ct sc hm_M_unpacks 0 [.inr (some 59), .inr (some r)] t (hy_e none (mf_unpN r t 16)) := by
  refine hy_mk_ct ok_M_unpacks ck_M_unpacks (Nat.le_of_ble_eq_true rfl) ?_
  have loop : ∀ (m : Nat), ∀ (k : Nat) (t1 : hy_T), m + k = 16 → t1 = mf_unpN r t k → hy_W sc hm_M_unpacks 0 2 [.inr (some 59), .inr (some r), .inl (k : Int)] [] t1 (hy_e none (mf_unpN r t 16)) := by
    intro m
    induction m with
    | zero =>
      intro k t1 hm ht
      obtain rfl : k = 16 := by omega
      refine hy_iload (i := 2) rfl rfl ?_
      refine hy_const (i := 3) rfl (by decide) ?_
      refine hy_ic_ge (i := 4) (tt := 71) rfl (fun zc1 => ?_) (fun zc1 => ?_)
      · refine hy_return (i := 71) rfl rfl ?_
        exact ⟨rfl, ht⟩
      · omega
    | succ m ih =>
      intro k t1 hm ht
      refine hy_iload (i := 2) rfl rfl ?_
      refine hy_const (i := 3) rfl (by decide) ?_
      refine hy_ic_ge (i := 4) (tt := 71) rfl (fun zc1 => ?_) (fun zc1 => ?_)
      · omega
      · refine hy_aload (i := 5) rfl rfl ?_
        refine hy_getr (i := 6) rfl rfl ?_
        refine hy_iload (i := 7) rfl rfl ?_
        refine hy_aload (i := 8) rfl rfl ?_
        refine hy_const (i := 9) rfl (by decide) ?_
        refine hy_iload (i := 10) rfl rfl ?_
        refine hy_imul (i := 11) rfl (by omega) ?_
        refine hy_iald (i := 12) rfl ha (by omega) (k := 6 * k) (by omega) ?_
        refine hy_iast (i := 13) rfl rfl (by omega) (k := k) (by omega) ?_
        refine hy_aload (i := 14) rfl rfl ?_
        refine hy_getr (i := 15) rfl rfl ?_
        refine hy_iload (i := 16) rfl rfl ?_
        refine hy_aload (i := 17) rfl rfl ?_
        refine hy_const (i := 18) rfl (by decide) ?_
        refine hy_iload (i := 19) rfl rfl ?_
        refine hy_imul (i := 20) rfl (by omega) ?_
        refine hy_const (i := 21) rfl (by decide) ?_
        refine hy_iadd (i := 22) rfl (by omega) ?_
        refine hy_iald (i := 23) rfl ha (by omega) (k := 6 * k + 1) (by omega) ?_
        refine hy_iast (i := 24) rfl rfl (by omega) (k := k) (by omega) ?_
        refine hy_aload (i := 25) rfl rfl ?_
        refine hy_getr (i := 26) rfl rfl ?_
        refine hy_iload (i := 27) rfl rfl ?_
        refine hy_aload (i := 28) rfl rfl ?_
        refine hy_const (i := 29) rfl (by decide) ?_
        refine hy_iload (i := 30) rfl rfl ?_
        refine hy_imul (i := 31) rfl (by omega) ?_
        refine hy_const (i := 32) rfl (by decide) ?_
        refine hy_iadd (i := 33) rfl (by omega) ?_
        refine hy_iald (i := 34) rfl ha (by omega) (k := 6 * k + 2) (by omega) ?_
        refine hy_iast (i := 35) rfl rfl (by omega) (k := k) (by omega) ?_
        refine hy_aload (i := 36) rfl rfl ?_
        refine hy_getr (i := 37) rfl rfl ?_
        refine hy_iload (i := 38) rfl rfl ?_
        refine hy_aload (i := 39) rfl rfl ?_
        refine hy_const (i := 40) rfl (by decide) ?_
        refine hy_iload (i := 41) rfl rfl ?_
        refine hy_imul (i := 42) rfl (by omega) ?_
        refine hy_const (i := 43) rfl (by decide) ?_
        refine hy_iadd (i := 44) rfl (by omega) ?_
        refine hy_iald (i := 45) rfl ha (by omega) (k := 6 * k + 3) (by omega) ?_
        refine hy_iast (i := 46) rfl rfl (by omega) (k := k) (by omega) ?_
        refine hy_aload (i := 47) rfl rfl ?_
        refine hy_getr (i := 48) rfl rfl ?_
        refine hy_iload (i := 49) rfl rfl ?_
        refine hy_aload (i := 50) rfl rfl ?_
        refine hy_const (i := 51) rfl (by decide) ?_
        refine hy_iload (i := 52) rfl rfl ?_
        refine hy_imul (i := 53) rfl (by omega) ?_
        refine hy_const (i := 54) rfl (by decide) ?_
        refine hy_iadd (i := 55) rfl (by omega) ?_
        refine hy_iald (i := 56) rfl ha (by omega) (k := 6 * k + 4) (by omega) ?_
        refine hy_iast (i := 57) rfl rfl (by omega) (k := k) (by omega) ?_
        refine hy_aload (i := 58) rfl rfl ?_
        refine hy_getr (i := 59) rfl rfl ?_
        refine hy_iload (i := 60) rfl rfl ?_
        refine hy_aload (i := 61) rfl rfl ?_
        refine hy_const (i := 62) rfl (by decide) ?_
        refine hy_iload (i := 63) rfl rfl ?_
        refine hy_imul (i := 64) rfl (by omega) ?_
        refine hy_const (i := 65) rfl (by decide) ?_
        refine hy_iadd (i := 66) rfl (by omega) ?_
        refine hy_iald (i := 67) rfl ha (by omega) (k := 6 * k + 5) (by omega) ?_
        refine hy_iast (i := 68) rfl rfl (by omega) (k := k) (by omega) ?_
        refine hy_iinc (i := 69) rfl rfl (by omega) ?_
        refine hy_goto (i := 70) (tt := 2) rfl ?_
        exact ih (k + 1) _ (by omega) (by rw [ht]; rfl)
  refine hy_const (i := 0) rfl (by decide) ?_
  refine hy_istore (i := 1) rfl ?_
  exact loop 16 0 t rfl rfl
theorem c_M_begins : hy_Ct sc hm_M_begins 1 [.inr (some 59)] t (hy_e none (mf_begins t)) := by
  refine hy_mk_ct ok_M_begins ck_M_begins (Nat.le_of_ble_eq_true rfl) ?_
  refine hy_aload (i := 0) rfl rfl ?_
  refine hy_getr (i := 1) rfl rfl ?_
  refine hy_aload (i := 2) rfl rfl ?_
  refine hy_getr (i := 3) rfl rfl ?_
  refine hy_const (i := 4) rfl (by decide) ?_
  refine hy_cS3v (i := 5) rfl (by decide) mj_M_copies (by decide) rfl (Nat.le_of_ble_eq_true rfl) (c_M_copies rfl rfl (by decide) (by decide)) ?_
  refine hy_aload (i := 6) rfl rfl ?_
  refine hy_aload (i := 7) rfl rfl ?_
  refine hy_getr (i := 8) rfl rfl ?_
  refine hy_cV1v (i := 9) rfl mj_M_packs (by decide) rfl (Nat.le_of_ble_eq_true rfl) rfl rfl rfl (c_M_packs rfl) ?_
  refine hy_aload (i := 10) rfl rfl ?_
  refine hy_aload (i := 11) rfl rfl ?_
  refine hy_get (i := 12) (fk := 34) rfl rfl rfl ?_
  refine hy_put (i := 13) (fk := 51) rfl rfl rfl rfl ?_
  refine hy_aload (i := 14) rfl rfl ?_
  refine hy_aload (i := 15) rfl rfl ?_
  refine hy_get (i := 16) (fk := 2) rfl rfl rfl ?_
  refine hy_put (i := 17) (fk := 52) rfl rfl rfl rfl ?_
  refine hy_aload (i := 18) rfl rfl ?_
  refine hy_aload (i := 19) rfl rfl ?_
  refine hy_get (i := 20) (fk := 1) rfl rfl rfl ?_
  refine hy_put (i := 21) (fk := 53) rfl rfl rfl rfl ?_
  refine hy_return (i := 22) rfl rfl ?_
  exact ⟨rfl, rfl⟩
theorem c_M_again : hy_Ct sc hm_M_again 1 [.inr (some 59)] t (hy_e none (mf_again t)) := by
  refine hy_mk_ct ok_M_again ck_M_again (Nat.le_of_ble_eq_true rfl) ?_
  refine hy_aload (i := 0) rfl rfl ?_
  refine hy_getr (i := 1) rfl rfl ?_
  refine hy_aload (i := 2) rfl rfl ?_
  refine hy_getr (i := 3) rfl rfl ?_
  refine hy_const (i := 4) rfl (by decide) ?_
  refine hy_cS3v (i := 5) rfl (by decide) mj_M_copies (by decide) rfl (Nat.le_of_ble_eq_true rfl) (c_M_copies rfl rfl (by decide) (by decide)) ?_
  refine hy_aload (i := 6) rfl rfl ?_
  refine hy_aload (i := 7) rfl rfl ?_
  refine hy_getr (i := 8) rfl rfl ?_
  refine hy_cV1v (i := 9) rfl mj_M_unpacks (by decide) rfl (Nat.le_of_ble_eq_true rfl) rfl rfl rfl (c_M_unpacks rfl) ?_
  refine hy_aload (i := 10) rfl rfl ?_
  refine hy_aload (i := 11) rfl rfl ?_
  refine hy_get (i := 12) (fk := 51) rfl rfl rfl ?_
  refine hy_put (i := 13) (fk := 34) rfl rfl rfl rfl ?_
  refine hy_aload (i := 14) rfl rfl ?_
  refine hy_aload (i := 15) rfl rfl ?_
  refine hy_get (i := 16) (fk := 52) rfl rfl rfl ?_
  refine hy_put (i := 17) (fk := 2) rfl rfl rfl rfl ?_
  refine hy_aload (i := 18) rfl rfl ?_
  refine hy_aload (i := 19) rfl rfl ?_
  refine hy_get (i := 20) (fk := 53) rfl rfl rfl ?_
  refine hy_put (i := 21) (fk := 1) rfl rfl rfl rfl ?_
  refine hy_return (i := 22) rfl rfl ?_
  exact ⟨rfl, rfl⟩
theorem c_M_keep : hy_Ct sc hm_M_keep 1 [.inr (some 59)] t (hy_e (some (mf_keep t 59 34)) (mf_keep t)) := by
  refine hy_mk_ct ok_M_keep ck_M_keep (Nat.le_of_ble_eq_true rfl) ?_
  refine hy_aload (i := 0) rfl rfl ?_
  refine hy_const (i := 1) rfl (by decide) ?_
  refine hy_putz (i := 2) (fk := 57) rfl rfl rfl rfl (by decide) ?_
  refine hy_aload (i := 3) rfl rfl ?_
  refine hy_getr (i := 4) rfl rfl ?_
  refine hy_aload (i := 5) rfl rfl ?_
  refine hy_getr (i := 6) rfl rfl ?_
  refine hy_const (i := 7) rfl (by decide) ?_
  refine hy_cS3v (i := 8) rfl (by decide) mj_M_copies (by decide) rfl (Nat.le_of_ble_eq_true rfl) (c_M_copies rfl rfl (by decide) (by decide)) ?_
  refine hy_aload (i := 9) rfl rfl ?_
  refine hy_aload (i := 10) rfl rfl ?_
  refine hy_getr (i := 11) rfl rfl ?_
  refine hy_cV1v (i := 12) rfl mj_M_packs (by decide) rfl (Nat.le_of_ble_eq_true rfl) rfl rfl rfl (c_M_packs rfl) ?_
  refine hy_aload (i := 13) rfl rfl ?_
  refine hy_getr (i := 14) rfl rfl ?_
  refine hy_aload (i := 15) rfl rfl ?_
  refine hy_getr (i := 16) rfl rfl ?_
  refine hy_const (i := 17) rfl (by decide) ?_
  refine hy_cS3v (i := 18) rfl (by decide) mj_M_copies (by decide) rfl (Nat.le_of_ble_eq_true rfl) (c_M_copies rfl rfl (by decide) (by decide)) ?_
  refine hy_aload (i := 19) rfl rfl ?_
  refine hy_aload (i := 20) rfl rfl ?_
  refine hy_get (i := 21) (fk := 34) rfl rfl rfl ?_
  refine hy_put (i := 22) (fk := 54) rfl rfl rfl rfl ?_
  refine hy_aload (i := 23) rfl rfl ?_
  refine hy_aload (i := 24) rfl rfl ?_
  refine hy_get (i := 25) (fk := 2) rfl rfl rfl ?_
  refine hy_put (i := 26) (fk := 55) rfl rfl rfl rfl ?_
  refine hy_aload (i := 27) rfl rfl ?_
  refine hy_aload (i := 28) rfl rfl ?_
  refine hy_get (i := 29) (fk := 1) rfl rfl rfl ?_
  refine hy_put (i := 30) (fk := 56) rfl rfl rfl rfl ?_
  refine hy_aload (i := 31) rfl rfl ?_
  refine hy_get (i := 32) (fk := 34) rfl rfl rfl ?_
  refine hy_ireturn (i := 33) rfl rfl ?_
  exact ⟨rfl, rfl⟩
theorem c_M_undo : hy_Ct sc hm_M_undo 1 [.inr (some 59)] t (hy_e (some (if t 59 57 = 0 then 0 else 1)) (if t 59 57 = 0 then t else mf_undo t)) := by
  refine hy_mk_ct ok_M_undo ck_M_undo (Nat.le_of_ble_eq_true rfl) ?_
  refine hy_aload (i := 0) rfl rfl ?_
  refine hy_get (i := 1) (fk := 57) rfl rfl rfl ?_
  refine hy_if_ne (i := 2) (tt := 5) rfl (fun zc1 => ?_) (fun zc1 => ?_)
  · refine hy_aload (i := 5) rfl rfl ?_
    refine hy_getr (i := 6) rfl rfl ?_
    refine hy_aload (i := 7) rfl rfl ?_
    refine hy_getr (i := 8) rfl rfl ?_
    refine hy_const (i := 9) rfl (by decide) ?_
    refine hy_cS3v (i := 10) rfl (by decide) mj_M_copies (by decide) rfl (Nat.le_of_ble_eq_true rfl) (c_M_copies rfl rfl (by decide) (by decide)) ?_
    refine hy_aload (i := 11) rfl rfl ?_
    refine hy_aload (i := 12) rfl rfl ?_
    refine hy_getr (i := 13) rfl rfl ?_
    refine hy_cV1v (i := 14) rfl mj_M_unpacks (by decide) rfl (Nat.le_of_ble_eq_true rfl) rfl rfl rfl (c_M_unpacks rfl) ?_
    refine hy_aload (i := 15) rfl rfl ?_
    refine hy_getr (i := 16) rfl rfl ?_
    refine hy_aload (i := 17) rfl rfl ?_
    refine hy_getr (i := 18) rfl rfl ?_
    refine hy_const (i := 19) rfl (by decide) ?_
    refine hy_cS3v (i := 20) rfl (by decide) mj_M_copies (by decide) rfl (Nat.le_of_ble_eq_true rfl) (c_M_copies rfl rfl (by decide) (by decide)) ?_
    refine hy_aload (i := 21) rfl rfl ?_
    refine hy_aload (i := 22) rfl rfl ?_
    refine hy_get (i := 23) (fk := 54) rfl rfl rfl ?_
    refine hy_put (i := 24) (fk := 34) rfl rfl rfl rfl ?_
    refine hy_aload (i := 25) rfl rfl ?_
    refine hy_aload (i := 26) rfl rfl ?_
    refine hy_get (i := 27) (fk := 55) rfl rfl rfl ?_
    refine hy_put (i := 28) (fk := 2) rfl rfl rfl rfl ?_
    refine hy_aload (i := 29) rfl rfl ?_
    refine hy_aload (i := 30) rfl rfl ?_
    refine hy_get (i := 31) (fk := 56) rfl rfl rfl ?_
    refine hy_put (i := 32) (fk := 1) rfl rfl rfl rfl ?_
    refine hy_const (i := 33) rfl (by decide) ?_
    refine hy_zreturn (i := 34) rfl rfl (by first | decide | exact hy_b01 _) ?_
    first | (rw [if_neg zc1, if_neg zc1]; exact ⟨rfl, rfl⟩) | (rw [if_pos (by omega), if_pos (by omega)]; exact ⟨rfl, rfl⟩)
  · refine hy_const (i := 3) rfl (by decide) ?_
    refine hy_zreturn (i := 4) rfl rfl (by first | decide | exact hy_b01 _) ?_
    first | (rw [if_neg zc1, if_neg zc1]; exact ⟨rfl, rfl⟩) | (rw [if_pos (by omega), if_pos (by omega)]; exact ⟨rfl, rfl⟩)
theorem c_M_treatyIs {i w : Int} (hc : 0 ≤ t 59 34 ∧ t 59 34 ≤ 16) : hy_Ct sc hm_M_treatyIs 1 [.inr (some 59), .inl i, .inl w] t (hy_e (some (if (0 ≤ i ∧ i < t 59 34) ∧ 0 ≤ w ∧ w < 6 then t (85 + w.toNat) i.toNat else -1)) t) := by
  refine hy_mk_ct ok_M_treatyIs ck_M_treatyIs (Nat.le_of_ble_eq_true rfl) ?_
  by_cases hq : 0 ≤ i ∧ i < t 59 34
  · skip
    refine hy_iload (i := 0) rfl rfl ?_
    refine hy_const (i := 1) rfl (by decide) ?_
    refine hy_aload (i := 2) rfl rfl ?_
    refine hy_get (i := 3) (fk := 34) rfl rfl rfl ?_
    refine hy_const (i := 4) rfl (by decide) ?_
    refine hy_isub (i := 5) rfl (by omega) ?_
    refine hy_cS3e (i := 6) rfl (by decide) mj_M_in (by decide) rfl (Nat.le_of_ble_eq_true rfl) (c_M_in) ?_
    refine hy_ib_ne (i := 7) (tt := 10) rfl (fun zc1 => ?_) (fun zc1 => ?_)
    · refine hy_iload (i := 10) rfl rfl ?_
      by_cases zq2 : w = 0
      · refine hy_tsw (i := 11) (tt := 12) rfl (by rw [zq2]; rfl) ?_
        refine hy_aload (i := 12) rfl rfl ?_
        refine hy_getr (i := 13) rfl rfl ?_
        refine hy_iload (i := 14) rfl rfl ?_
        refine hy_iald (i := 15) rfl rfl (by omega) rfl ?_
        refine hy_ireturn (i := 16) rfl rfl ?_
        first | exact ⟨congrArg some (by rw [if_pos ⟨hq, by omega⟩, show w.toNat = 0 by omega]), rfl⟩ | exact ⟨congrArg some (by rw [if_pos ⟨hq, by omega⟩, show w.toNat = 1 by omega]), rfl⟩ | exact ⟨congrArg some (by rw [if_pos ⟨hq, by omega⟩, show w.toNat = 2 by omega]), rfl⟩ | exact ⟨congrArg some (by rw [if_pos ⟨hq, by omega⟩, show w.toNat = 3 by omega]), rfl⟩ | exact ⟨congrArg some (by rw [if_pos ⟨hq, by omega⟩, show w.toNat = 4 by omega]), rfl⟩ | exact ⟨congrArg some (by rw [if_pos ⟨hq, by omega⟩, show w.toNat = 5 by omega]), rfl⟩ | exact ⟨congrArg some (by rw [if_neg (by omega)]), rfl⟩
      · skip
        by_cases zq2 : w = 1
        · refine hy_tsw (i := 11) (tt := 17) rfl (by rw [zq2]; rfl) ?_
          refine hy_aload (i := 17) rfl rfl ?_
          refine hy_getr (i := 18) rfl rfl ?_
          refine hy_iload (i := 19) rfl rfl ?_
          refine hy_iald (i := 20) rfl rfl (by omega) rfl ?_
          refine hy_ireturn (i := 21) rfl rfl ?_
          first | exact ⟨congrArg some (by rw [if_pos ⟨hq, by omega⟩, show w.toNat = 0 by omega]), rfl⟩ | exact ⟨congrArg some (by rw [if_pos ⟨hq, by omega⟩, show w.toNat = 1 by omega]), rfl⟩ | exact ⟨congrArg some (by rw [if_pos ⟨hq, by omega⟩, show w.toNat = 2 by omega]), rfl⟩ | exact ⟨congrArg some (by rw [if_pos ⟨hq, by omega⟩, show w.toNat = 3 by omega]), rfl⟩ | exact ⟨congrArg some (by rw [if_pos ⟨hq, by omega⟩, show w.toNat = 4 by omega]), rfl⟩ | exact ⟨congrArg some (by rw [if_pos ⟨hq, by omega⟩, show w.toNat = 5 by omega]), rfl⟩ | exact ⟨congrArg some (by rw [if_neg (by omega)]), rfl⟩
        · skip
          by_cases zq2 : w = 2
          · refine hy_tsw (i := 11) (tt := 22) rfl (by rw [zq2]; rfl) ?_
            refine hy_aload (i := 22) rfl rfl ?_
            refine hy_getr (i := 23) rfl rfl ?_
            refine hy_iload (i := 24) rfl rfl ?_
            refine hy_iald (i := 25) rfl rfl (by omega) rfl ?_
            refine hy_ireturn (i := 26) rfl rfl ?_
            first | exact ⟨congrArg some (by rw [if_pos ⟨hq, by omega⟩, show w.toNat = 0 by omega]), rfl⟩ | exact ⟨congrArg some (by rw [if_pos ⟨hq, by omega⟩, show w.toNat = 1 by omega]), rfl⟩ | exact ⟨congrArg some (by rw [if_pos ⟨hq, by omega⟩, show w.toNat = 2 by omega]), rfl⟩ | exact ⟨congrArg some (by rw [if_pos ⟨hq, by omega⟩, show w.toNat = 3 by omega]), rfl⟩ | exact ⟨congrArg some (by rw [if_pos ⟨hq, by omega⟩, show w.toNat = 4 by omega]), rfl⟩ | exact ⟨congrArg some (by rw [if_pos ⟨hq, by omega⟩, show w.toNat = 5 by omega]), rfl⟩ | exact ⟨congrArg some (by rw [if_neg (by omega)]), rfl⟩
          · skip
            by_cases zq2 : w = 3
            · refine hy_tsw (i := 11) (tt := 27) rfl (by rw [zq2]; rfl) ?_
              refine hy_aload (i := 27) rfl rfl ?_
              refine hy_getr (i := 28) rfl rfl ?_
              refine hy_iload (i := 29) rfl rfl ?_
              refine hy_iald (i := 30) rfl rfl (by omega) rfl ?_
              refine hy_ireturn (i := 31) rfl rfl ?_
              first | exact ⟨congrArg some (by rw [if_pos ⟨hq, by omega⟩, show w.toNat = 0 by omega]), rfl⟩ | exact ⟨congrArg some (by rw [if_pos ⟨hq, by omega⟩, show w.toNat = 1 by omega]), rfl⟩ | exact ⟨congrArg some (by rw [if_pos ⟨hq, by omega⟩, show w.toNat = 2 by omega]), rfl⟩ | exact ⟨congrArg some (by rw [if_pos ⟨hq, by omega⟩, show w.toNat = 3 by omega]), rfl⟩ | exact ⟨congrArg some (by rw [if_pos ⟨hq, by omega⟩, show w.toNat = 4 by omega]), rfl⟩ | exact ⟨congrArg some (by rw [if_pos ⟨hq, by omega⟩, show w.toNat = 5 by omega]), rfl⟩ | exact ⟨congrArg some (by rw [if_neg (by omega)]), rfl⟩
            · skip
              by_cases zq2 : w = 4
              · refine hy_tsw (i := 11) (tt := 32) rfl (by rw [zq2]; rfl) ?_
                refine hy_aload (i := 32) rfl rfl ?_
                refine hy_getr (i := 33) rfl rfl ?_
                refine hy_iload (i := 34) rfl rfl ?_
                refine hy_iald (i := 35) rfl rfl (by omega) rfl ?_
                refine hy_ireturn (i := 36) rfl rfl ?_
                first | exact ⟨congrArg some (by rw [if_pos ⟨hq, by omega⟩, show w.toNat = 0 by omega]), rfl⟩ | exact ⟨congrArg some (by rw [if_pos ⟨hq, by omega⟩, show w.toNat = 1 by omega]), rfl⟩ | exact ⟨congrArg some (by rw [if_pos ⟨hq, by omega⟩, show w.toNat = 2 by omega]), rfl⟩ | exact ⟨congrArg some (by rw [if_pos ⟨hq, by omega⟩, show w.toNat = 3 by omega]), rfl⟩ | exact ⟨congrArg some (by rw [if_pos ⟨hq, by omega⟩, show w.toNat = 4 by omega]), rfl⟩ | exact ⟨congrArg some (by rw [if_pos ⟨hq, by omega⟩, show w.toNat = 5 by omega]), rfl⟩ | exact ⟨congrArg some (by rw [if_neg (by omega)]), rfl⟩
              · skip
                by_cases zq2 : w = 5
                · refine hy_tsw (i := 11) (tt := 37) rfl (by rw [zq2]; rfl) ?_
                  refine hy_aload (i := 37) rfl rfl ?_
                  refine hy_getr (i := 38) rfl rfl ?_
                  refine hy_iload (i := 39) rfl rfl ?_
                  refine hy_iald (i := 40) rfl rfl (by omega) rfl ?_
                  refine hy_ireturn (i := 41) rfl rfl ?_
                  first | exact ⟨congrArg some (by rw [if_pos ⟨hq, by omega⟩, show w.toNat = 0 by omega]), rfl⟩ | exact ⟨congrArg some (by rw [if_pos ⟨hq, by omega⟩, show w.toNat = 1 by omega]), rfl⟩ | exact ⟨congrArg some (by rw [if_pos ⟨hq, by omega⟩, show w.toNat = 2 by omega]), rfl⟩ | exact ⟨congrArg some (by rw [if_pos ⟨hq, by omega⟩, show w.toNat = 3 by omega]), rfl⟩ | exact ⟨congrArg some (by rw [if_pos ⟨hq, by omega⟩, show w.toNat = 4 by omega]), rfl⟩ | exact ⟨congrArg some (by rw [if_pos ⟨hq, by omega⟩, show w.toNat = 5 by omega]), rfl⟩ | exact ⟨congrArg some (by rw [if_neg (by omega)]), rfl⟩
                · skip
                  refine hy_tsw (i := 11) (tt := 42) rfl (by rcases (show w < 0 ∨ 5 < w by omega) with hh | hh <;> first | (rw [if_pos (by omega)]; rfl) | (rw [hh]; rfl)) ?_
                  refine hy_const (i := 42) rfl (by decide) ?_
                  refine hy_ireturn (i := 43) rfl rfl ?_
                  first | exact ⟨congrArg some (by rw [if_pos ⟨hq, by omega⟩, show w.toNat = 0 by omega]), rfl⟩ | exact ⟨congrArg some (by rw [if_pos ⟨hq, by omega⟩, show w.toNat = 1 by omega]), rfl⟩ | exact ⟨congrArg some (by rw [if_pos ⟨hq, by omega⟩, show w.toNat = 2 by omega]), rfl⟩ | exact ⟨congrArg some (by rw [if_pos ⟨hq, by omega⟩, show w.toNat = 3 by omega]), rfl⟩ | exact ⟨congrArg some (by rw [if_pos ⟨hq, by omega⟩, show w.toNat = 4 by omega]), rfl⟩ | exact ⟨congrArg some (by rw [if_pos ⟨hq, by omega⟩, show w.toNat = 5 by omega]), rfl⟩ | exact ⟨congrArg some (by rw [if_neg (by omega)]), rfl⟩
    · simp at zc1; omega
  · skip
    refine hy_iload (i := 0) rfl rfl ?_
    refine hy_const (i := 1) rfl (by decide) ?_
    refine hy_aload (i := 2) rfl rfl ?_
    refine hy_get (i := 3) (fk := 34) rfl rfl rfl ?_
    refine hy_const (i := 4) rfl (by decide) ?_
    refine hy_isub (i := 5) rfl (by omega) ?_
    refine hy_cS3e (i := 6) rfl (by decide) mj_M_in (by decide) rfl (Nat.le_of_ble_eq_true rfl) (c_M_in) ?_
    refine hy_ib_ne (i := 7) (tt := 10) rfl (fun zc1 => ?_) (fun zc1 => ?_)
    · simp at zc1; omega
    · refine hy_const (i := 8) rfl (by decide) ?_
      refine hy_ireturn (i := 9) rfl rfl ?_
      exact ⟨congrArg some (by rw [if_neg (fun h => hq h.1)]), rfl⟩
theorem c_M_bits {x : Int} : hy_Ct sc hm_M_bits 0 [.inl x] t (hy_e (some (mf_bitsN x 12)) t) := by
  refine hy_mk_ct ok_M_bits ck_M_bits (Nat.le_of_ble_eq_true rfl) ?_
  have loop : ∀ (m : Nat), ∀ (k : Nat), m + k = 12 → hy_W sc hm_M_bits 0 4 [.inl x, .inl (mf_bitsN x k), .inl (k : Int)] [] t (hy_e (some (mf_bitsN x 12)) t) := by
    intro m
    induction m with
    | zero =>
      intro k hm
      obtain rfl : k = 12 := by omega
      refine hy_iload (i := 4) rfl rfl ?_
      refine hy_const (i := 5) rfl (by decide) ?_
      refine hy_ic_ge (i := 6) (tt := 17) rfl (fun zc1 => ?_) (fun zc1 => ?_)
      · refine hy_iload (i := 17) rfl rfl ?_
        refine hy_ireturn (i := 18) rfl rfl ?_
        exact ⟨rfl, rfl⟩
      · omega
    | succ m ih =>
      intro k hm
      have hin := mf_bitsN_in x k
      have hb := hy_b_in (hz_b x k)
      refine hy_iload (i := 4) rfl rfl ?_
      refine hy_const (i := 5) rfl (by decide) ?_
      refine hy_ic_ge (i := 6) (tt := 17) rfl (fun zc1 => ?_) (fun zc1 => ?_)
      · omega
      · refine hy_iload (i := 7) rfl rfl ?_
        refine hy_iload (i := 8) rfl rfl ?_
        refine hy_iload (i := 9) rfl rfl ?_
        refine hy_ishr (i := 10) rfl ?_
        refine hy_const (i := 11) rfl (by decide) ?_
        refine hy_iand (i := 12) rfl ?_
        rw [hz_bit_v]
        refine hy_iadd (i := 13) rfl (by omega) ?_
        refine hy_istore (i := 14) rfl ?_
        refine hy_iinc (i := 15) rfl rfl (by omega) ?_
        refine hy_goto (i := 16) (tt := 4) rfl ?_
        exact ih (k + 1) (by omega)
  refine hy_const (i := 0) rfl (by decide) ?_
  refine hy_istore (i := 1) rfl ?_
  refine hy_const (i := 2) rfl (by decide) ?_
  refine hy_istore (i := 3) rfl ?_
  exact loop 12 0 rfl
theorem c_M_hadAll {c : Int} (hc : 0 ≤ c ∧ c < 12) : hy_Ct sc hm_M_hadAll 1 [.inr (some 59), .inl c] t (hy_e (some (mf_hadN t c 4)) t) := by
  refine hy_mk_ct ok_M_hadAll ck_M_hadAll (Nat.le_of_ble_eq_true rfl) ?_
  have loop : ∀ (m : Nat), ∀ (k : Nat), m + k = 4 → hy_W sc hm_M_hadAll 1 4 [.inr (some 59), .inl c, .inl (mf_hadN t c k), .inl (k : Int)] [] t (hy_e (some (mf_hadN t c 4)) t) := by
    intro m
    induction m with
    | zero =>
      intro k hm
      obtain rfl : k = 4 := by omega
      refine hy_iload (i := 4) rfl rfl ?_
      refine hy_const (i := 5) rfl (by decide) ?_
      refine hy_ic_ge (i := 6) (tt := 21) rfl (fun zc1 => ?_) (fun zc1 => ?_)
      · refine hy_iload (i := 21) rfl rfl ?_
        refine hy_ireturn (i := 22) rfl rfl ?_
        exact ⟨rfl, rfl⟩
      · omega
    | succ m ih =>
      intro k hm
      have hin := mf_hadN_in t c k
      have hb := mf_bitsN_in (t 62 (4 * c + k).toNat) 12
      refine hy_iload (i := 4) rfl rfl ?_
      refine hy_const (i := 5) rfl (by decide) ?_
      refine hy_ic_ge (i := 6) (tt := 21) rfl (fun zc1 => ?_) (fun zc1 => ?_)
      · omega
      · refine hy_iload (i := 7) rfl rfl ?_
        refine hy_aload (i := 8) rfl rfl ?_
        refine hy_getr (i := 9) rfl rfl ?_
        refine hy_const (i := 10) rfl (by decide) ?_
        refine hy_iload (i := 11) rfl rfl ?_
        refine hy_imul (i := 12) rfl (by omega) ?_
        refine hy_iload (i := 13) rfl rfl ?_
        refine hy_iadd (i := 14) rfl (by omega) ?_
        refine hy_iald (i := 15) rfl rfl (by omega) rfl ?_
        refine hy_cS1e (i := 16) rfl (by decide) mj_M_bits (by decide) rfl (Nat.le_of_ble_eq_true rfl) (c_M_bits) ?_
        refine hy_iadd (i := 17) rfl (by omega) ?_
        refine hy_istore (i := 18) rfl ?_
        refine hy_iinc (i := 19) rfl rfl (by omega) ?_
        refine hy_goto (i := 20) (tt := 4) rfl ?_
        exact ih (k + 1) (by omega)
  refine hy_const (i := 0) rfl (by decide) ?_
  refine hy_istore (i := 1) rfl ?_
  refine hy_const (i := 2) rfl (by decide) ?_
  refine hy_istore (i := 3) rfl ?_
  exact loop 4 0 rfl
theorem c_M_mixedBits : hy_Ct sc hm_M_mixedBits 3 [.inr (some 59)] t (hy_e (some (mf_mixN t 12)) t) := by
  refine hy_mk_ct ok_M_mixedBits ck_M_mixedBits (Nat.le_of_ble_eq_true rfl) ?_
  have loop : ∀ (m : Nat), ∀ (k : Nat), m + k = 12 → hy_W sc hm_M_mixedBits 3 4 [.inr (some 59), .inl (mf_mixN t k), .inl (k : Int)] [] t (hy_e (some (mf_mixN t 12)) t) := by
    intro m
    induction m with
    | zero =>
      intro k hm
      obtain rfl : k = 12 := by omega
      refine hy_iload (i := 4) rfl rfl ?_
      refine hy_const (i := 5) rfl (by decide) ?_
      refine hy_ic_ge (i := 6) (tt := 21) rfl (fun zc1 => ?_) (fun zc1 => ?_)
      · refine hy_iload (i := 21) rfl rfl ?_
        refine hy_ireturn (i := 22) rfl rfl ?_
        exact ⟨rfl, rfl⟩
      · omega
    | succ m ih =>
      intro k hm
      have e1 : mf_mixN t (k + 1) = hz_ior (mf_mixN t k) (if mf_mixed t k = true then hz_ishl 1 k else 0) := rfl
      by_cases hx : mf_mixed t k = true
      · rw [if_pos hx] at e1
        refine hy_iload (i := 4) rfl rfl ?_
        refine hy_const (i := 5) rfl (by decide) ?_
        refine hy_ic_ge (i := 6) (tt := 21) rfl (fun zc1 => ?_) (fun zc1 => ?_)
        · omega
        · refine hy_iload (i := 7) rfl rfl ?_
          refine hy_aload (i := 8) rfl rfl ?_
          refine hy_iload (i := 9) rfl rfl ?_
          refine hy_cV1e (i := 10) rfl mj_M_isMixed (by decide) rfl (Nat.le_of_ble_eq_true rfl) rfl rfl rfl (c_M_isMixed) ?_
          refine hy_ib_eq (i := 11) (tt := 16) rfl (fun zc2 => ?_) (fun zc2 => ?_)
          · exact absurd (hx.symm.trans zc2) (by decide)
          · refine hy_const (i := 12) rfl (by decide) ?_
            refine hy_iload (i := 13) rfl rfl ?_
            refine hy_ishl (i := 14) rfl ?_
            refine hy_goto (i := 15) (tt := 17) rfl ?_
            refine hy_ior (i := 17) rfl ?_
            refine hy_istore (i := 18) rfl ?_
            refine hy_iinc (i := 19) rfl rfl (by omega) ?_
            refine hy_goto (i := 20) (tt := 4) rfl ?_
            rw [← e1]
            exact ih (k + 1) (by omega)
      · rw [if_neg hx] at e1
        refine hy_iload (i := 4) rfl rfl ?_
        refine hy_const (i := 5) rfl (by decide) ?_
        refine hy_ic_ge (i := 6) (tt := 21) rfl (fun zc1 => ?_) (fun zc1 => ?_)
        · omega
        · refine hy_iload (i := 7) rfl rfl ?_
          refine hy_aload (i := 8) rfl rfl ?_
          refine hy_iload (i := 9) rfl rfl ?_
          refine hy_cV1e (i := 10) rfl mj_M_isMixed (by decide) rfl (Nat.le_of_ble_eq_true rfl) rfl rfl rfl (c_M_isMixed) ?_
          refine hy_ib_eq (i := 11) (tt := 16) rfl (fun zc2 => ?_) (fun zc2 => ?_)
          · refine hy_const (i := 16) rfl (by decide) ?_
            refine hy_ior (i := 17) rfl ?_
            refine hy_istore (i := 18) rfl ?_
            refine hy_iinc (i := 19) rfl rfl (by omega) ?_
            refine hy_goto (i := 20) (tt := 4) rfl ?_
            rw [← e1]
            exact ih (k + 1) (by omega)
          · exact absurd zc2 hx
  refine hy_const (i := 0) rfl (by decide) ?_
  refine hy_istore (i := 1) rfl ?_
  refine hy_const (i := 2) rfl (by decide) ?_
  refine hy_istore (i := 3) rfl ?_
  exact loop 12 0 rfl
theorem c_M_count {w : Int} (hp : ∀ j : Nat, j < 12 → (-1 ≤ t 60 j ∧ t 60 j < 12) ∧ -1 ≤ t 61 j ∧ t 61 j < 12) : hy_Ct sc hm_M_count 4 [.inr (some 59), .inl w] t (hy_e (some (mf_count t w)) t) := by
  refine hy_mk_ct ok_M_count ck_M_count (Nat.le_of_ble_eq_true rfl) ?_
  by_cases q0 : 0 ≤ w ∧ w ≤ 6
  · skip
    refine hy_iload (i := 0) rfl rfl ?_
    by_cases zq1 : w = 0
    · refine hy_tsw (i := 1) (tt := 2) rfl (by rw [zq1]; rfl) ?_
      refine hy_aload (i := 2) rfl rfl ?_
      refine hy_get (i := 3) (fk := 0) rfl rfl rfl ?_
      refine hy_ireturn (i := 4) rfl rfl ?_
      refine ⟨congrArg some ?_, rfl⟩
      unfold mf_count
      repeat (first | (rw [if_pos (by assumption)]; done) | rw [if_neg (by omega)])
    · skip
      by_cases zq1 : w = 1
      · refine hy_tsw (i := 1) (tt := 5) rfl (by rw [zq1]; rfl) ?_
        refine hy_aload (i := 5) rfl rfl ?_
        refine hy_cV0e (i := 6) rfl mj_M_mixedBits (by decide) rfl (Nat.le_of_ble_eq_true rfl) rfl rfl rfl (c_M_mixedBits) ?_
        refine hy_ireturn (i := 7) rfl rfl ?_
        refine ⟨congrArg some ?_, rfl⟩
        unfold mf_count
        repeat (first | (rw [if_pos (by assumption)]; done) | rw [if_neg (by omega)])
      · skip
        by_cases zq1 : w = 2
        · refine hy_tsw (i := 1) (tt := 8) rfl (by rw [zq1]; rfl) ?_
          refine hy_aload (i := 8) rfl rfl ?_
          refine hy_get (i := 9) (fk := 18) rfl rfl rfl ?_
          refine hy_ireturn (i := 10) rfl rfl ?_
          refine ⟨congrArg some ?_, rfl⟩
          unfold mf_count
          repeat (first | (rw [if_pos (by assumption)]; done) | rw [if_neg (by omega)])
        · skip
          by_cases zq1 : w = 3
          · refine hy_tsw (i := 1) (tt := 11) rfl (by rw [zq1]; rfl) ?_
            refine hy_aload (i := 11) rfl rfl ?_
            refine hy_get (i := 12) (fk := 9) rfl rfl rfl ?_
            refine hy_ireturn (i := 13) rfl rfl ?_
            refine ⟨congrArg some ?_, rfl⟩
            unfold mf_count
            repeat (first | (rw [if_pos (by assumption)]; done) | rw [if_neg (by omega)])
          · skip
            by_cases zq1 : w = 4
            · refine hy_tsw (i := 1) (tt := 14) rfl (by rw [zq1]; rfl) ?_
              refine hy_aload (i := 14) rfl rfl ?_
              refine hy_get (i := 15) (fk := 1) rfl rfl rfl ?_
              refine hy_ireturn (i := 16) rfl rfl ?_
              refine ⟨congrArg some ?_, rfl⟩
              unfold mf_count
              repeat (first | (rw [if_pos (by assumption)]; done) | rw [if_neg (by omega)])
            · skip
              by_cases zq1 : w = 5
              · refine hy_tsw (i := 1) (tt := 17) rfl (by rw [zq1]; rfl) ?_
                refine hy_aload (i := 17) rfl rfl ?_
                refine hy_get (i := 18) (fk := 2) rfl rfl rfl ?_
                refine hy_ireturn (i := 19) rfl rfl ?_
                refine ⟨congrArg some ?_, rfl⟩
                unfold mf_count
                repeat (first | (rw [if_pos (by assumption)]; done) | rw [if_neg (by omega)])
              · skip
                by_cases zq1 : w = 6
                · refine hy_tsw (i := 1) (tt := 20) rfl (by rw [zq1]; rfl) ?_
                  refine hy_aload (i := 20) rfl rfl ?_
                  refine hy_get (i := 21) (fk := 34) rfl rfl rfl ?_
                  refine hy_ireturn (i := 22) rfl rfl ?_
                  refine ⟨congrArg some ?_, rfl⟩
                  unfold mf_count
                  repeat (first | (rw [if_pos (by assumption)]; done) | rw [if_neg (by omega)])
                · skip
                  refine hy_tsw (i := 1) (tt := 23) rfl (by rcases (show w < 0 ∨ 6 < w by omega) with hh | hh <;> first | (rw [if_pos (by omega)]; rfl) | (rw [hh]; rfl)) ?_
                  exfalso; omega
  · have e0 : mf_count t w = if 10 ≤ w ∧ w ≤ 21 then (if mf_mixed t (w - 10) = true then 100 * t 60 (w - 10).toNat + t 61 (w - 10).toNat else -1)
        else if 100 ≤ w ∧ w ≤ 147 then (if mf_plain t ((w - 100) / 4) = true then t 62 (w - 100).toNat else -1)
        else if 200 ≤ w ∧ w ≤ 263 then t 63 (w - 200).toNat
        else if 300 ≤ w ∧ w ≤ 363 then t 64 (w - 300).toNat else -1 := by
      unfold mf_count
      repeat rw [if_neg (show ¬ w = _ by omega)]
    rw [e0]
    have st : ∀ (Q : Option Int → hy_T → Prop), hy_W sc hm_M_count 4 23 [.inr (some 59), .inl w] [] t Q → hy_W sc hm_M_count 4 0 [.inr (some 59), .inl w] [] t Q := by
      intro Q h
      refine hy_iload (i := 0) rfl rfl ?_
      by_cases zq1 : w = 0
      · refine hy_tsw (i := 1) (tt := 2) rfl (by rw [zq1]; rfl) ?_
        exfalso; omega
      · skip
        by_cases zq1 : w = 1
        · refine hy_tsw (i := 1) (tt := 5) rfl (by rw [zq1]; rfl) ?_
          exfalso; omega
        · skip
          by_cases zq1 : w = 2
          · refine hy_tsw (i := 1) (tt := 8) rfl (by rw [zq1]; rfl) ?_
            exfalso; omega
          · skip
            by_cases zq1 : w = 3
            · refine hy_tsw (i := 1) (tt := 11) rfl (by rw [zq1]; rfl) ?_
              exfalso; omega
            · skip
              by_cases zq1 : w = 4
              · refine hy_tsw (i := 1) (tt := 14) rfl (by rw [zq1]; rfl) ?_
                exfalso; omega
              · skip
                by_cases zq1 : w = 5
                · refine hy_tsw (i := 1) (tt := 17) rfl (by rw [zq1]; rfl) ?_
                  exfalso; omega
                · skip
                  by_cases zq1 : w = 6
                  · refine hy_tsw (i := 1) (tt := 20) rfl (by rw [zq1]; rfl) ?_
                    exfalso; omega
                  · skip
                    refine hy_tsw (i := 1) (tt := 23) rfl (by rcases (show w < 0 ∨ 6 < w by omega) with hh | hh <;> first | (rw [if_pos (by omega)]; rfl) | (rw [hh]; rfl)) ?_
                    exact h
    refine st _ ?_
    by_cases q1 : 10 ≤ w ∧ w ≤ 21
    · rw [if_pos q1]
      have h1 := hp (w - 10).toNat (by omega)
      by_cases hx : mf_mixed t (w - 10) = true
      · rw [if_pos hx]
        refine hy_iload (i := 23) rfl rfl ?_
        refine hy_const (i := 24) rfl (by decide) ?_
        refine hy_const (i := 25) rfl (by decide) ?_
        refine hy_cS3e (i := 26) rfl (by decide) mj_M_in (by decide) rfl (Nat.le_of_ble_eq_true rfl) (c_M_in) ?_
        refine hy_ib_eq (i := 27) (tt := 50) rfl (fun zc1 => ?_) (fun zc1 => ?_)
        · simp at zc1; omega
        · refine hy_aload (i := 28) rfl rfl ?_
          refine hy_iload (i := 29) rfl rfl ?_
          refine hy_const (i := 30) rfl (by decide) ?_
          refine hy_isub (i := 31) rfl (by omega) ?_
          refine hy_cV1e (i := 32) rfl mj_M_isMixed (by decide) rfl (Nat.le_of_ble_eq_true rfl) rfl rfl rfl (c_M_isMixed) ?_
          refine hy_ib_eq (i := 33) (tt := 50) rfl (fun zc2 => ?_) (fun zc2 => ?_)
          · exact absurd (hx.symm.trans zc2) (by decide)
          · refine hy_const (i := 34) rfl (by decide) ?_
            refine hy_aload (i := 35) rfl rfl ?_
            refine hy_getr (i := 36) rfl rfl ?_
            refine hy_iload (i := 37) rfl rfl ?_
            refine hy_const (i := 38) rfl (by decide) ?_
            refine hy_isub (i := 39) rfl (by omega) ?_
            refine hy_iald (i := 40) rfl rfl (by omega) rfl ?_
            refine hy_imul (i := 41) rfl (by omega) ?_
            refine hy_aload (i := 42) rfl rfl ?_
            refine hy_getr (i := 43) rfl rfl ?_
            refine hy_iload (i := 44) rfl rfl ?_
            refine hy_const (i := 45) rfl (by decide) ?_
            refine hy_isub (i := 46) rfl (by omega) ?_
            refine hy_iald (i := 47) rfl rfl (by omega) rfl ?_
            refine hy_iadd (i := 48) rfl (by omega) ?_
            refine hy_ireturn (i := 49) rfl rfl ?_
            exact ⟨rfl, rfl⟩
      · rw [if_neg hx]
        refine hy_iload (i := 23) rfl rfl ?_
        refine hy_const (i := 24) rfl (by decide) ?_
        refine hy_const (i := 25) rfl (by decide) ?_
        refine hy_cS3e (i := 26) rfl (by decide) mj_M_in (by decide) rfl (Nat.le_of_ble_eq_true rfl) (c_M_in) ?_
        refine hy_ib_eq (i := 27) (tt := 50) rfl (fun zc1 => ?_) (fun zc1 => ?_)
        · simp at zc1; omega
        · refine hy_aload (i := 28) rfl rfl ?_
          refine hy_iload (i := 29) rfl rfl ?_
          refine hy_const (i := 30) rfl (by decide) ?_
          refine hy_isub (i := 31) rfl (by omega) ?_
          refine hy_cV1e (i := 32) rfl mj_M_isMixed (by decide) rfl (Nat.le_of_ble_eq_true rfl) rfl rfl rfl (c_M_isMixed) ?_
          refine hy_ib_eq (i := 33) (tt := 50) rfl (fun zc2 => ?_) (fun zc2 => ?_)
          · refine hy_iload (i := 50) rfl rfl ?_
            refine hy_const (i := 51) rfl (by decide) ?_
            refine hy_const (i := 52) rfl (by decide) ?_
            refine hy_cS3e (i := 53) rfl (by decide) mj_M_in (by decide) rfl (Nat.le_of_ble_eq_true rfl) (c_M_in) ?_
            refine hy_ib_eq (i := 54) (tt := 70) rfl (fun zc3 => ?_) (fun zc3 => ?_)
            · refine hy_iload (i := 70) rfl rfl ?_
              refine hy_const (i := 71) rfl (by decide) ?_
              refine hy_const (i := 72) rfl (by decide) ?_
              refine hy_cS3e (i := 73) rfl (by decide) mj_M_in (by decide) rfl (Nat.le_of_ble_eq_true rfl) (c_M_in) ?_
              refine hy_ib_eq (i := 74) (tt := 82) rfl (fun zc4 => ?_) (fun zc4 => ?_)
              · refine hy_iload (i := 82) rfl rfl ?_
                refine hy_const (i := 83) rfl (by decide) ?_
                refine hy_const (i := 84) rfl (by decide) ?_
                refine hy_cS3e (i := 85) rfl (by decide) mj_M_in (by decide) rfl (Nat.le_of_ble_eq_true rfl) (c_M_in) ?_
                refine hy_ib_eq (i := 86) (tt := 94) rfl (fun zc5 => ?_) (fun zc5 => ?_)
                · refine hy_const (i := 94) rfl (by decide) ?_
                  refine hy_ireturn (i := 95) rfl rfl ?_
                  exact ⟨rfl, rfl⟩
                · simp at zc5; omega
              · simp at zc4; omega
            · simp at zc3; omega
          · exact absurd zc2 hx
    · rw [if_neg q1]
      by_cases q2 : 100 ≤ w ∧ w ≤ 147
      · rw [if_pos q2]
        by_cases hx : mf_plain t ((w - 100) / 4) = true
        · rw [if_pos hx]
          refine hy_iload (i := 23) rfl rfl ?_
          refine hy_const (i := 24) rfl (by decide) ?_
          refine hy_const (i := 25) rfl (by decide) ?_
          refine hy_cS3e (i := 26) rfl (by decide) mj_M_in (by decide) rfl (Nat.le_of_ble_eq_true rfl) (c_M_in) ?_
          refine hy_ib_eq (i := 27) (tt := 50) rfl (fun zc1 => ?_) (fun zc1 => ?_)
          · refine hy_iload (i := 50) rfl rfl ?_
            refine hy_const (i := 51) rfl (by decide) ?_
            refine hy_const (i := 52) rfl (by decide) ?_
            refine hy_cS3e (i := 53) rfl (by decide) mj_M_in (by decide) rfl (Nat.le_of_ble_eq_true rfl) (c_M_in) ?_
            refine hy_ib_eq (i := 54) (tt := 70) rfl (fun zc2 => ?_) (fun zc2 => ?_)
            · simp at zc2; omega
            · refine hy_aload (i := 55) rfl rfl ?_
              refine hy_iload (i := 56) rfl rfl ?_
              refine hy_const (i := 57) rfl (by decide) ?_
              refine hy_isub (i := 58) rfl (by omega) ?_
              refine hy_const (i := 59) rfl (by decide) ?_
              refine hy_idiv (i := 60) rfl (by omega) (by omega) ?_
              refine hy_cV1e (i := 61) rfl mj_M_isPlain (by decide) rfl (Nat.le_of_ble_eq_true rfl) rfl rfl rfl (c_M_isPlain) ?_
              refine hy_ib_eq (i := 62) (tt := 70) rfl (fun zc3 => ?_) (fun zc3 => ?_)
              · exact absurd (hx.symm.trans zc3) (by decide)
              · refine hy_aload (i := 63) rfl rfl ?_
                refine hy_getr (i := 64) rfl rfl ?_
                refine hy_iload (i := 65) rfl rfl ?_
                refine hy_const (i := 66) rfl (by decide) ?_
                refine hy_isub (i := 67) rfl (by omega) ?_
                refine hy_iald (i := 68) rfl rfl (by omega) rfl ?_
                refine hy_ireturn (i := 69) rfl rfl ?_
                exact ⟨rfl, rfl⟩
          · simp at zc1; omega
        · rw [if_neg hx]
          refine hy_iload (i := 23) rfl rfl ?_
          refine hy_const (i := 24) rfl (by decide) ?_
          refine hy_const (i := 25) rfl (by decide) ?_
          refine hy_cS3e (i := 26) rfl (by decide) mj_M_in (by decide) rfl (Nat.le_of_ble_eq_true rfl) (c_M_in) ?_
          refine hy_ib_eq (i := 27) (tt := 50) rfl (fun zc1 => ?_) (fun zc1 => ?_)
          · refine hy_iload (i := 50) rfl rfl ?_
            refine hy_const (i := 51) rfl (by decide) ?_
            refine hy_const (i := 52) rfl (by decide) ?_
            refine hy_cS3e (i := 53) rfl (by decide) mj_M_in (by decide) rfl (Nat.le_of_ble_eq_true rfl) (c_M_in) ?_
            refine hy_ib_eq (i := 54) (tt := 70) rfl (fun zc2 => ?_) (fun zc2 => ?_)
            · simp at zc2; omega
            · refine hy_aload (i := 55) rfl rfl ?_
              refine hy_iload (i := 56) rfl rfl ?_
              refine hy_const (i := 57) rfl (by decide) ?_
              refine hy_isub (i := 58) rfl (by omega) ?_
              refine hy_const (i := 59) rfl (by decide) ?_
              refine hy_idiv (i := 60) rfl (by omega) (by omega) ?_
              refine hy_cV1e (i := 61) rfl mj_M_isPlain (by decide) rfl (Nat.le_of_ble_eq_true rfl) rfl rfl rfl (c_M_isPlain) ?_
              refine hy_ib_eq (i := 62) (tt := 70) rfl (fun zc3 => ?_) (fun zc3 => ?_)
              · refine hy_iload (i := 70) rfl rfl ?_
                refine hy_const (i := 71) rfl (by decide) ?_
                refine hy_const (i := 72) rfl (by decide) ?_
                refine hy_cS3e (i := 73) rfl (by decide) mj_M_in (by decide) rfl (Nat.le_of_ble_eq_true rfl) (c_M_in) ?_
                refine hy_ib_eq (i := 74) (tt := 82) rfl (fun zc4 => ?_) (fun zc4 => ?_)
                · refine hy_iload (i := 82) rfl rfl ?_
                  refine hy_const (i := 83) rfl (by decide) ?_
                  refine hy_const (i := 84) rfl (by decide) ?_
                  refine hy_cS3e (i := 85) rfl (by decide) mj_M_in (by decide) rfl (Nat.le_of_ble_eq_true rfl) (c_M_in) ?_
                  refine hy_ib_eq (i := 86) (tt := 94) rfl (fun zc5 => ?_) (fun zc5 => ?_)
                  · refine hy_const (i := 94) rfl (by decide) ?_
                    refine hy_ireturn (i := 95) rfl rfl ?_
                    exact ⟨rfl, rfl⟩
                  · simp at zc5; omega
                · simp at zc4; omega
              · exact absurd zc3 hx
          · simp at zc1; omega
      · rw [if_neg q2]
        by_cases q3 : 200 ≤ w ∧ w ≤ 263
        · rw [if_pos q3]
          refine hy_iload (i := 23) rfl rfl ?_
          refine hy_const (i := 24) rfl (by decide) ?_
          refine hy_const (i := 25) rfl (by decide) ?_
          refine hy_cS3e (i := 26) rfl (by decide) mj_M_in (by decide) rfl (Nat.le_of_ble_eq_true rfl) (c_M_in) ?_
          refine hy_ib_eq (i := 27) (tt := 50) rfl (fun zc1 => ?_) (fun zc1 => ?_)
          · refine hy_iload (i := 50) rfl rfl ?_
            refine hy_const (i := 51) rfl (by decide) ?_
            refine hy_const (i := 52) rfl (by decide) ?_
            refine hy_cS3e (i := 53) rfl (by decide) mj_M_in (by decide) rfl (Nat.le_of_ble_eq_true rfl) (c_M_in) ?_
            refine hy_ib_eq (i := 54) (tt := 70) rfl (fun zc2 => ?_) (fun zc2 => ?_)
            · refine hy_iload (i := 70) rfl rfl ?_
              refine hy_const (i := 71) rfl (by decide) ?_
              refine hy_const (i := 72) rfl (by decide) ?_
              refine hy_cS3e (i := 73) rfl (by decide) mj_M_in (by decide) rfl (Nat.le_of_ble_eq_true rfl) (c_M_in) ?_
              refine hy_ib_eq (i := 74) (tt := 82) rfl (fun zc3 => ?_) (fun zc3 => ?_)
              · simp at zc3; omega
              · refine hy_aload (i := 75) rfl rfl ?_
                refine hy_getr (i := 76) rfl rfl ?_
                refine hy_iload (i := 77) rfl rfl ?_
                refine hy_const (i := 78) rfl (by decide) ?_
                refine hy_isub (i := 79) rfl (by omega) ?_
                refine hy_iald (i := 80) rfl rfl (by omega) rfl ?_
                refine hy_ireturn (i := 81) rfl rfl ?_
                exact ⟨rfl, rfl⟩
            · simp at zc2; omega
          · simp at zc1; omega
        · rw [if_neg q3]
          by_cases q4 : 300 ≤ w ∧ w ≤ 363
          · rw [if_pos q4]
            refine hy_iload (i := 23) rfl rfl ?_
            refine hy_const (i := 24) rfl (by decide) ?_
            refine hy_const (i := 25) rfl (by decide) ?_
            refine hy_cS3e (i := 26) rfl (by decide) mj_M_in (by decide) rfl (Nat.le_of_ble_eq_true rfl) (c_M_in) ?_
            refine hy_ib_eq (i := 27) (tt := 50) rfl (fun zc1 => ?_) (fun zc1 => ?_)
            · refine hy_iload (i := 50) rfl rfl ?_
              refine hy_const (i := 51) rfl (by decide) ?_
              refine hy_const (i := 52) rfl (by decide) ?_
              refine hy_cS3e (i := 53) rfl (by decide) mj_M_in (by decide) rfl (Nat.le_of_ble_eq_true rfl) (c_M_in) ?_
              refine hy_ib_eq (i := 54) (tt := 70) rfl (fun zc2 => ?_) (fun zc2 => ?_)
              · refine hy_iload (i := 70) rfl rfl ?_
                refine hy_const (i := 71) rfl (by decide) ?_
                refine hy_const (i := 72) rfl (by decide) ?_
                refine hy_cS3e (i := 73) rfl (by decide) mj_M_in (by decide) rfl (Nat.le_of_ble_eq_true rfl) (c_M_in) ?_
                refine hy_ib_eq (i := 74) (tt := 82) rfl (fun zc3 => ?_) (fun zc3 => ?_)
                · refine hy_iload (i := 82) rfl rfl ?_
                  refine hy_const (i := 83) rfl (by decide) ?_
                  refine hy_const (i := 84) rfl (by decide) ?_
                  refine hy_cS3e (i := 85) rfl (by decide) mj_M_in (by decide) rfl (Nat.le_of_ble_eq_true rfl) (c_M_in) ?_
                  refine hy_ib_eq (i := 86) (tt := 94) rfl (fun zc4 => ?_) (fun zc4 => ?_)
                  · simp at zc4; omega
                  · refine hy_aload (i := 87) rfl rfl ?_
                    refine hy_getr (i := 88) rfl rfl ?_
                    refine hy_iload (i := 89) rfl rfl ?_
                    refine hy_const (i := 90) rfl (by decide) ?_
                    refine hy_isub (i := 91) rfl (by omega) ?_
                    refine hy_iald (i := 92) rfl rfl (by omega) rfl ?_
                    refine hy_goto (i := 93) (tt := 95) rfl ?_
                    refine hy_ireturn (i := 95) rfl rfl ?_
                    exact ⟨rfl, rfl⟩
                · simp at zc3; omega
              · simp at zc2; omega
            · simp at zc1; omega
          · rw [if_neg q4]
            refine hy_iload (i := 23) rfl rfl ?_
            refine hy_const (i := 24) rfl (by decide) ?_
            refine hy_const (i := 25) rfl (by decide) ?_
            refine hy_cS3e (i := 26) rfl (by decide) mj_M_in (by decide) rfl (Nat.le_of_ble_eq_true rfl) (c_M_in) ?_
            refine hy_ib_eq (i := 27) (tt := 50) rfl (fun zc1 => ?_) (fun zc1 => ?_)
            · refine hy_iload (i := 50) rfl rfl ?_
              refine hy_const (i := 51) rfl (by decide) ?_
              refine hy_const (i := 52) rfl (by decide) ?_
              refine hy_cS3e (i := 53) rfl (by decide) mj_M_in (by decide) rfl (Nat.le_of_ble_eq_true rfl) (c_M_in) ?_
              refine hy_ib_eq (i := 54) (tt := 70) rfl (fun zc2 => ?_) (fun zc2 => ?_)
              · refine hy_iload (i := 70) rfl rfl ?_
                refine hy_const (i := 71) rfl (by decide) ?_
                refine hy_const (i := 72) rfl (by decide) ?_
                refine hy_cS3e (i := 73) rfl (by decide) mj_M_in (by decide) rfl (Nat.le_of_ble_eq_true rfl) (c_M_in) ?_
                refine hy_ib_eq (i := 74) (tt := 82) rfl (fun zc3 => ?_) (fun zc3 => ?_)
                · refine hy_iload (i := 82) rfl rfl ?_
                  refine hy_const (i := 83) rfl (by decide) ?_
                  refine hy_const (i := 84) rfl (by decide) ?_
                  refine hy_cS3e (i := 85) rfl (by decide) mj_M_in (by decide) rfl (Nat.le_of_ble_eq_true rfl) (c_M_in) ?_
                  refine hy_ib_eq (i := 86) (tt := 94) rfl (fun zc4 => ?_) (fun zc4 => ?_)
                  · refine hy_const (i := 94) rfl (by decide) ?_
                    refine hy_ireturn (i := 95) rfl rfl ?_
                    exact ⟨rfl, rfl⟩
                  · simp at zc4; omega
                · simp at zc3; omega
              · simp at zc2; omega
            · simp at zc1; omega
theorem c_M_tapeNumber {i : Nat} (hi : i < 65) : hy_Ct sc hm_M_tapeNumber 0 [.inr (some 59), .inl (i : Int)] t (hy_e (some (mf_numN t i 4)) t) := by
  refine hy_mk_ct ok_M_tapeNumber ck_M_tapeNumber (Nat.le_of_ble_eq_true rfl) ?_
  have loop : ∀ (m : Nat), ∀ (k : Nat), m + k = 4 → hy_W sc hm_M_tapeNumber 0 6 [.inr (some 59), .inl (i : Int), .inl (mf_numN t i k), .inl (4 * (i : Int) + k)] [] t (hy_e (some (mf_numN t i 4)) t) := by
    intro m
    induction m with
    | zero =>
      intro k hm
      obtain rfl : k = 4 := by omega
      refine hy_iload (i := 6) rfl rfl ?_
      refine hy_const (i := 7) rfl (by decide) ?_
      refine hy_iload (i := 8) rfl rfl ?_
      refine hy_imul (i := 9) rfl (by omega) ?_
      refine hy_const (i := 10) rfl (by decide) ?_
      refine hy_iadd (i := 11) rfl (by omega) ?_
      refine hy_ic_ge (i := 12) (tt := 26) rfl (fun zc1 => ?_) (fun zc1 => ?_)
      · refine hy_iload (i := 26) rfl rfl ?_
        refine hy_ireturn (i := 27) rfl rfl ?_
        exact ⟨rfl, rfl⟩
      · omega
    | succ m ih =>
      intro k hm
      refine hy_iload (i := 6) rfl rfl ?_
      refine hy_const (i := 7) rfl (by decide) ?_
      refine hy_iload (i := 8) rfl rfl ?_
      refine hy_imul (i := 9) rfl (by omega) ?_
      refine hy_const (i := 10) rfl (by decide) ?_
      refine hy_iadd (i := 11) rfl (by omega) ?_
      refine hy_ic_ge (i := 12) (tt := 26) rfl (fun zc1 => ?_) (fun zc1 => ?_)
      · omega
      · refine hy_iload (i := 13) rfl rfl ?_
        refine hy_const (i := 14) rfl (by decide) ?_
        refine hy_ishl (i := 15) rfl ?_
        refine hy_aload (i := 16) rfl rfl ?_
        refine hy_getr (i := 17) rfl rfl ?_
        refine hy_iload (i := 18) rfl rfl ?_
        refine hy_bald (i := 19) rfl rfl (by decide) (by omega) (k := 4 * i + k) (by omega) ?_
        refine hy_const (i := 20) rfl (by decide) ?_
        refine hy_iand (i := 21) rfl ?_
        refine hy_ior (i := 22) rfl ?_
        refine hy_istore (i := 23) rfl ?_
        refine hy_iinc (i := 24) rfl rfl (by omega) ?_
        refine hy_goto (i := 25) (tt := 6) rfl ?_
        rw [show 4 * (i : Int) + k + 1 = 4 * (i : Int) + ((k + 1 : Nat) : Int) by omega]
        exact ih (k + 1) (by omega)
  refine hy_const (i := 0) rfl (by decide) ?_
  refine hy_istore (i := 1) rfl ?_
  refine hy_const (i := 2) rfl (by decide) ?_
  refine hy_iload (i := 3) rfl rfl ?_
  refine hy_imul (i := 4) rfl (by omega) ?_
  refine hy_istore (i := 5) rfl ?_
  exact (show 4 * (i : Int) + ((0 : Nat) : Int) = 4 * (i : Int) by omega) ▸ loop 4 0 rfl
theorem c_M_check {n : Int} (hl : 0 ≤ t 59 9 ∧ t 59 9 ≤ 260) : hy_Ct sc hm_M_check 1 [.inr (some 59), .inl n] t (hy_e (some (if (0 ≤ n ∧ n ≤ 8) ∧ 4 * n ≤ t 59 9 then mf_checkN t n.toNat 0 else -2)) (if (0 ≤ n ∧ n ≤ 8) ∧ 4 * n ≤ t 59 9 then hy_up t 59 9 0 else t)) := by
  refine hy_mk_ct ok_M_check ck_M_check (Nat.le_of_ble_eq_true rfl) ?_
  by_cases hq : (0 ≤ n ∧ n ≤ 8) ∧ 4 * n ≤ t 59 9
  · rw [if_pos hq, if_pos hq]
    have eN : ∀ (i : Nat), ∀ j, mf_numN (hy_up t 59 9 0) i j = mf_numN t i j := by
      intro i j
      induction j with
      | zero => rfl
      | succ j ih => simp only [mf_numN, ih]; rfl
    have loop : ∀ (m : Nat), ∀ (k : Nat), m + k = n.toNat → mf_checkN t m k = mf_checkN t n.toNat 0 → hy_W sc hm_M_check 1 18 [.inr (some 59), .inl n, .inl (k : Int)] [] (hy_up t 59 9 0) (hy_e (some (mf_checkN t n.toNat 0)) (hy_up t 59 9 0)) := by
      intro m
      induction m with
      | zero =>
        intro k hm he
        rw [← he]
        refine hy_iload (i := 18) rfl rfl ?_
        refine hy_iload (i := 19) rfl rfl ?_
        refine hy_ic_ge (i := 20) (tt := 33) rfl (fun zc1 => ?_) (fun zc1 => ?_)
        · refine hy_const (i := 33) rfl (by decide) ?_
          refine hy_ireturn (i := 34) rfl rfl ?_
          exact ⟨rfl, rfl⟩
        · omega
      | succ m ih =>
        intro k hm he
        by_cases hx : mf_numN t k 4 = t 64 k
        · have e : mf_checkN t (m + 1) k = mf_checkN t m (k + 1) := by simp only [mf_checkN]; rw [if_pos hx]
          rw [e] at he
          refine hy_iload (i := 18) rfl rfl ?_
          refine hy_iload (i := 19) rfl rfl ?_
          refine hy_ic_ge (i := 20) (tt := 33) rfl (fun zc1 => ?_) (fun zc1 => ?_)
          · omega
          · refine hy_aload (i := 21) rfl rfl ?_
            refine hy_iload (i := 22) rfl rfl ?_
            refine hy_cV1e (i := 23) rfl mj_M_tapeNumber (by decide) rfl (Nat.le_of_ble_eq_true rfl) rfl rfl rfl (c_M_tapeNumber (by omega)) ?_
            rw [eN]
            refine hy_aload (i := 24) rfl rfl ?_
            refine hy_getr (i := 25) rfl rfl ?_
            refine hy_iload (i := 26) rfl rfl ?_
            refine hy_iald (i := 27) rfl rfl (by omega) (k := k) (by omega) ?_
            refine hy_ic_eq (i := 28) (tt := 31) rfl (fun zc2 => ?_) (fun zc2 => ?_)
            · refine hy_iinc (i := 31) rfl rfl (by omega) ?_
              refine hy_goto (i := 32) (tt := 18) rfl ?_
              exact ih (k + 1) (by omega) he
            · exact absurd hx (by assumption)
        · have e : mf_checkN t (m + 1) k = k := by simp only [mf_checkN]; rw [if_neg hx]
          rw [← he, e]
          refine hy_iload (i := 18) rfl rfl ?_
          refine hy_iload (i := 19) rfl rfl ?_
          refine hy_ic_ge (i := 20) (tt := 33) rfl (fun zc1 => ?_) (fun zc1 => ?_)
          · omega
          · refine hy_aload (i := 21) rfl rfl ?_
            refine hy_iload (i := 22) rfl rfl ?_
            refine hy_cV1e (i := 23) rfl mj_M_tapeNumber (by decide) rfl (Nat.le_of_ble_eq_true rfl) rfl rfl rfl (c_M_tapeNumber (by omega)) ?_
            rw [eN]
            refine hy_aload (i := 24) rfl rfl ?_
            refine hy_getr (i := 25) rfl rfl ?_
            refine hy_iload (i := 26) rfl rfl ?_
            refine hy_iald (i := 27) rfl rfl (by omega) (k := k) (by omega) ?_
            refine hy_ic_eq (i := 28) (tt := 31) rfl (fun zc2 => ?_) (fun zc2 => ?_)
            · exact absurd (by assumption) hx
            · refine hy_iload (i := 29) rfl rfl ?_
              refine hy_ireturn (i := 30) rfl rfl ?_
              exact ⟨rfl, rfl⟩
    refine hy_iload (i := 0) rfl rfl ?_
    refine hy_const (i := 1) rfl (by decide) ?_
    refine hy_const (i := 2) rfl (by decide) ?_
    refine hy_cS3e (i := 3) rfl (by decide) mj_M_in (by decide) rfl (Nat.le_of_ble_eq_true rfl) (c_M_in) ?_
    refine hy_ib_eq (i := 4) (tt := 11) rfl (fun zc1 => ?_) (fun zc1 => ?_)
    · simp at zc1; omega
    · refine hy_iload (i := 5) rfl rfl ?_
      refine hy_aload (i := 6) rfl rfl ?_
      refine hy_get (i := 7) (fk := 9) rfl rfl rfl ?_
      refine hy_const (i := 8) rfl (by decide) ?_
      refine hy_idiv (i := 9) rfl (by omega) (by omega) ?_
      refine hy_ic_le (i := 10) (tt := 13) rfl (fun zc2 => ?_) (fun zc2 => ?_)
      · refine hy_aload (i := 13) rfl rfl ?_
        refine hy_const (i := 14) rfl (by decide) ?_
        refine hy_put (i := 15) (fk := 9) rfl rfl rfl rfl ?_
        refine hy_const (i := 16) rfl (by decide) ?_
        refine hy_istore (i := 17) rfl ?_
        exact loop n.toNat 0 rfl rfl
      · omega
  · rw [if_neg hq, if_neg hq]
    refine hy_iload (i := 0) rfl rfl ?_
    refine hy_const (i := 1) rfl (by decide) ?_
    refine hy_const (i := 2) rfl (by decide) ?_
    refine hy_cS3e (i := 3) rfl (by decide) mj_M_in (by decide) rfl (Nat.le_of_ble_eq_true rfl) (c_M_in) ?_
    refine hy_ib_eq (i := 4) (tt := 11) rfl (fun zc1 => ?_) (fun zc1 => ?_)
    · refine hy_const (i := 11) rfl (by decide) ?_
      refine hy_ireturn (i := 12) rfl rfl ?_
      exact ⟨rfl, rfl⟩
    · refine hy_iload (i := 5) rfl rfl ?_
      refine hy_aload (i := 6) rfl rfl ?_
      refine hy_get (i := 7) (fk := 9) rfl rfl rfl ?_
      refine hy_const (i := 8) rfl (by decide) ?_
      refine hy_idiv (i := 9) rfl (by omega) (by omega) ?_
      refine hy_ic_le (i := 10) (tt := 13) rfl (fun zc2 => ?_) (fun zc2 => ?_)
      · simp at zc1; omega
      · refine hy_const (i := 11) rfl (by decide) ?_
        refine hy_ireturn (i := 12) rfl rfl ?_
        exact ⟨rfl, rfl⟩
theorem c_M_changes {c w e s : Int} (hc : 0 ≤ c ∧ c < 12) : hy_Ct sc hm_M_changes 1 [.inr (some 59), .inl c, .inl w, .inl e, .inl s] t (hy_e none (mf_chN t c w e s 4)) := by
  refine hy_mk_ct ok_M_changes ck_M_changes (Nat.le_of_ble_eq_true rfl) ?_
  have loop : ∀ (m : Nat), ∀ (k : Nat) (t1 : hy_T) (v6 : hy_V), m + k = 4 → t1 = mf_chN t c w e s k → hy_W sc hm_M_changes 1 2 [.inr (some 59), .inl c, .inl w, .inl e, .inl s, .inl (k : Int), v6] [] t1 (hy_e none (mf_chN t c w e s 4)) := by
    intro m
    induction m with
    | zero =>
      intro k t1 v6 hm ht
      obtain rfl : k = 4 := by omega
      refine hy_iload (i := 2) rfl rfl ?_
      refine hy_const (i := 3) rfl (by decide) ?_
      refine hy_ic_ge (i := 4) (tt := 43) rfl (fun zc1 => ?_) (fun zc1 => ?_)
      · refine hy_return (i := 43) rfl rfl ?_
        exact ⟨rfl, ht⟩
      · omega
    | succ m ih =>
      intro k t1 v6 hm ht
      have e1 : mf_chN t c w e s (k + 1) = if hz_b w k = true then mf_ch1 t1 c e s k else t1 := by rw [ht]; rfl
      by_cases hw : hz_b w k = true
      · rw [if_pos hw] at e1
        by_cases hs : s = 0
        · have e2 : mf_ch1 t1 c e s k = hy_up t1 62 (4 * c + k).toNat (hz_iand (t1 62 (4 * c + k).toNat) (hz_ixor (hz_ishl 1 e) (-1))) := by unfold mf_ch1; rw [if_pos hs]
          rw [e2] at e1
          refine hy_iload (i := 2) rfl rfl ?_
          refine hy_const (i := 3) rfl (by decide) ?_
          refine hy_ic_ge (i := 4) (tt := 43) rfl (fun zc1 => ?_) (fun zc1 => ?_)
          · omega
          · refine hy_iload (i := 5) rfl rfl ?_
            refine hy_iload (i := 6) rfl rfl ?_
            refine hy_cS2e (i := 7) rfl (by decide) mj_M_has (by decide) rfl (Nat.le_of_ble_eq_true rfl) (c_M_has) ?_
            refine hy_ib_ne (i := 8) (tt := 10) rfl (fun zc2 => ?_) (fun zc2 => ?_)
            · refine hy_const (i := 10) rfl (by decide) ?_
              refine hy_iload (i := 11) rfl rfl ?_
              refine hy_imul (i := 12) rfl (by omega) ?_
              refine hy_iload (i := 13) rfl rfl ?_
              refine hy_iadd (i := 14) rfl (by omega) ?_
              refine hy_istore (i := 15) rfl ?_
              refine hy_aload (i := 16) rfl rfl ?_
              refine hy_getr (i := 17) rfl rfl ?_
              refine hy_iload (i := 18) rfl rfl ?_
              refine hy_iload (i := 19) rfl rfl ?_
              refine hy_if_eq (i := 20) (tt := 30) rfl (fun zc3 => ?_) (fun zc3 => ?_)
              · refine hy_aload (i := 30) rfl rfl ?_
                refine hy_getr (i := 31) rfl rfl ?_
                refine hy_iload (i := 32) rfl rfl ?_
                refine hy_iald (i := 33) rfl rfl (by omega) rfl ?_
                refine hy_const (i := 34) rfl (by decide) ?_
                refine hy_iload (i := 35) rfl rfl ?_
                refine hy_ishl (i := 36) rfl ?_
                refine hy_const (i := 37) rfl (by decide) ?_
                refine hy_ixor (i := 38) rfl ?_
                refine hy_iand (i := 39) rfl ?_
                refine hy_iast (i := 40) rfl rfl (by omega) rfl ?_
                refine hy_iinc (i := 41) rfl rfl (by omega) ?_
                refine hy_goto (i := 42) (tt := 2) rfl ?_
                exact ih (k + 1) _ _ (by omega) e1.symm
              · omega
            · rw [hw] at zc2; cases zc2
        · have e2 : mf_ch1 t1 c e s k = hy_up t1 62 (4 * c + k).toNat (hz_ior (t1 62 (4 * c + k).toNat) (hz_ishl 1 e)) := by unfold mf_ch1; rw [if_neg hs]
          rw [e2] at e1
          refine hy_iload (i := 2) rfl rfl ?_
          refine hy_const (i := 3) rfl (by decide) ?_
          refine hy_ic_ge (i := 4) (tt := 43) rfl (fun zc1 => ?_) (fun zc1 => ?_)
          · omega
          · refine hy_iload (i := 5) rfl rfl ?_
            refine hy_iload (i := 6) rfl rfl ?_
            refine hy_cS2e (i := 7) rfl (by decide) mj_M_has (by decide) rfl (Nat.le_of_ble_eq_true rfl) (c_M_has) ?_
            refine hy_ib_ne (i := 8) (tt := 10) rfl (fun zc2 => ?_) (fun zc2 => ?_)
            · refine hy_const (i := 10) rfl (by decide) ?_
              refine hy_iload (i := 11) rfl rfl ?_
              refine hy_imul (i := 12) rfl (by omega) ?_
              refine hy_iload (i := 13) rfl rfl ?_
              refine hy_iadd (i := 14) rfl (by omega) ?_
              refine hy_istore (i := 15) rfl ?_
              refine hy_aload (i := 16) rfl rfl ?_
              refine hy_getr (i := 17) rfl rfl ?_
              refine hy_iload (i := 18) rfl rfl ?_
              refine hy_iload (i := 19) rfl rfl ?_
              refine hy_if_eq (i := 20) (tt := 30) rfl (fun zc3 => ?_) (fun zc3 => ?_)
              · omega
              · refine hy_aload (i := 21) rfl rfl ?_
                refine hy_getr (i := 22) rfl rfl ?_
                refine hy_iload (i := 23) rfl rfl ?_
                refine hy_iald (i := 24) rfl rfl (by omega) rfl ?_
                refine hy_const (i := 25) rfl (by decide) ?_
                refine hy_iload (i := 26) rfl rfl ?_
                refine hy_ishl (i := 27) rfl ?_
                refine hy_ior (i := 28) rfl ?_
                refine hy_goto (i := 29) (tt := 40) rfl ?_
                refine hy_iast (i := 40) rfl rfl (by omega) rfl ?_
                refine hy_iinc (i := 41) rfl rfl (by omega) ?_
                refine hy_goto (i := 42) (tt := 2) rfl ?_
                exact ih (k + 1) _ _ (by omega) e1.symm
            · rw [hw] at zc2; cases zc2
      · rw [if_neg hw] at e1
        refine hy_iload (i := 2) rfl rfl ?_
        refine hy_const (i := 3) rfl (by decide) ?_
        refine hy_ic_ge (i := 4) (tt := 43) rfl (fun zc1 => ?_) (fun zc1 => ?_)
        · omega
        · refine hy_iload (i := 5) rfl rfl ?_
          refine hy_iload (i := 6) rfl rfl ?_
          refine hy_cS2e (i := 7) rfl (by decide) mj_M_has (by decide) rfl (Nat.le_of_ble_eq_true rfl) (c_M_has) ?_
          refine hy_ib_ne (i := 8) (tt := 10) rfl (fun zc2 => ?_) (fun zc2 => ?_)
          · exact absurd zc2 hw
          · refine hy_goto (i := 9) (tt := 41) rfl ?_
            refine hy_iinc (i := 41) rfl rfl (by omega) ?_
            refine hy_goto (i := 42) (tt := 2) rfl ?_
            exact ih (k + 1) _ _ (by omega) e1.symm
  refine hy_const (i := 0) rfl (by decide) ?_
  refine hy_istore (i := 1) rfl ?_
  exact loop 4 0 t _ rfl rfl
end MB
/-! the model, where nothing is told yet -/
theorem hz_iand_0 (x : Int) : hz_iand 0 x = 0 := by
  unfold hz_iand
  rw [show Int32.ofInt 0 = 0 from rfl, Int32.zero_and]
  rfl
theorem hz_ishr_0 (k : Int) : hz_ishr 0 k = 0 := by
  unfold hz_ishr
  rw [show Int32.ofInt 0 = 0 from rfl, Int32.zero_shiftRight]
  rfl
theorem hz_b_0 (k : Int) : hz_b 0 k = false := by
  unfold hz_b
  rw [hz_ishr_0, hz_iand_0]
  rfl
theorem sp_told_0 (c : Int) : sp_told 0 c = false := by
  unfold sp_told
  rw [hz_b_0, Bool.and_false]
theorem hz_iand_n0 {x : Int} (h : hy_R x) : hz_iand x (hz_ixor 0 (-1)) = x := by
  unfold hz_iand
  rw [show Int32.ofInt (hz_ixor 0 (-1)) = -1 from by decide, Int32.and_neg_one]
  exact hy_ti h
abbrev hy_r (x : Int) : Option Int → hy_T → Prop := fun r _ => r = some x
def mf_as0N (t : hy_T) : Nat → hy_T
  | 0 => hy_up t 79 12 12
  | c + 1 => hy_up (mf_as0N t c) 79 c 12
theorem mf_as0N_F (t : hy_T) : ∀ n, hy_F (fun r _ => r == 79) t (mf_as0N t n)
  | 0 => hy_F.rf.up rfl
  | n + 1 => (mf_as0N_F t n).up rfl
theorem mf_as0N_v (t : hy_T) : ∀ (n c : Nat), n ≤ 12 → (c < n ∨ c = 12) → mf_as0N t n 79 c = 12
  | 0, c, _, h => by
    obtain rfl : c = 12 := by omega
    rfl
  | n + 1, c, hn, h => by
    by_cases hc : c = n
    · simp [mf_as0N, hy_up, hc]
    · rw [show mf_as0N t (n + 1) 79 c = mf_as0N t n 79 c by simp [mf_as0N, hy_up, hc]]
      exact mf_as0N_v t n c (by omega) (by omega)
section MC
variable {sc : List Int32} {t : hy_T}
theorem c_M_isSeen0 {e c q s : Int} (h0 : t 59 0 = 0) : hy_Ct sc hm_M_isSeen 4 [.inr (some 59), .inl e, .inl c, .inl q, .inl s] t (hy_e (some 0) t) := by
  refine hy_mk_ct ok_M_isSeen ck_M_isSeen (Nat.le_of_ble_eq_true rfl) ?_
  refine hy_aload (i := 0) rfl rfl ?_
  refine hy_iload (i := 1) rfl rfl ?_
  refine hy_cV1e (i := 2) rfl mj_M_isMixed (by decide) rfl (Nat.le_of_ble_eq_true rfl) rfl rfl rfl (c_M_isMixed) ?_
  refine hy_ib_ne (i := 3) (tt := 23) rfl (fun zc1 => ?_) (fun zc1 => ?_)
  · rw [h0, sp_told_0, Bool.false_and] at zc1; cases zc1
  · refine hy_aload (i := 4) rfl rfl ?_
    refine hy_iload (i := 5) rfl rfl ?_
    refine hy_cV1e (i := 6) rfl mj_M_isPlain (by decide) rfl (Nat.le_of_ble_eq_true rfl) rfl rfl rfl (c_M_isPlain) ?_
    refine hy_ib_eq (i := 7) (tt := 21) rfl (fun zc2 => ?_) (fun zc2 => ?_)
    · refine hy_const (i := 21) rfl (by decide) ?_
      refine hy_zreturn (i := 22) rfl rfl (by first | decide | exact hy_b01 _) ?_
      exact ⟨rfl, rfl⟩
    · rw [h0, sp_told_0, Bool.false_and] at zc2; cases zc2
theorem c_M_seenBy0 {e q : Int} (h0 : t 59 0 = 0) : hy_Ct sc hm_M_seenBy 5 [.inr (some 59), .inl e, .inl q] t (hy_e (some 0) t) := by
  refine hy_mk_ct ok_M_seenBy ck_M_seenBy (Nat.le_of_ble_eq_true rfl) ?_
  have loop : ∀ (m : Nat), ∀ (k : Nat), m + k = 12 → hy_W sc hm_M_seenBy 5 4 [.inr (some 59), .inl e, .inl q, .inl 0, .inl (k : Int)] [] t (hy_e (some 0) t) := by
    intro m
    induction m with
    | zero =>
      intro k hm
      refine hy_iload (i := 4) rfl rfl ?_
      refine hy_const (i := 5) rfl (by decide) ?_
      refine hy_ic_ge (i := 6) (tt := 22) rfl (fun zc1 => ?_) (fun zc1 => ?_)
      · refine hy_iload (i := 22) rfl rfl ?_
        refine hy_ireturn (i := 23) rfl rfl ?_
        exact ⟨rfl, rfl⟩
      · omega
    | succ m ih =>
      intro k hm
      refine hy_iload (i := 4) rfl rfl ?_
      refine hy_const (i := 5) rfl (by decide) ?_
      refine hy_ic_ge (i := 6) (tt := 22) rfl (fun zc1 => ?_) (fun zc1 => ?_)
      · omega
      · refine hy_aload (i := 7) rfl rfl ?_
        refine hy_iload (i := 8) rfl rfl ?_
        refine hy_iload (i := 9) rfl rfl ?_
        refine hy_iload (i := 10) rfl rfl ?_
        refine hy_iload (i := 11) rfl rfl ?_
        refine hy_cV4e (i := 12) rfl mj_M_isSeen (by decide) rfl (Nat.le_of_ble_eq_true rfl) rfl rfl rfl (c_M_isSeen0 h0) ?_
        refine hy_if_eq (i := 13) (tt := 20) rfl (fun zc2 => ?_) (fun zc2 => ?_)
        · refine hy_iinc (i := 20) rfl rfl (by omega) ?_
          refine hy_goto (i := 21) (tt := 4) rfl ?_
          exact ih (k + 1) (by omega)
        · exact absurd rfl zc2
  refine hy_const (i := 0) rfl (by decide) ?_
  refine hy_istore (i := 1) rfl ?_
  refine hy_const (i := 2) rfl (by decide) ?_
  refine hy_istore (i := 3) rfl ?_
  exact loop 12 0 rfl
theorem c_M_laysAs0 {e q : Int} (h0 : t 59 0 = 0) : hy_Ct sc hm_M_laysAs 6 [.inr (some 59), .inl e, .inl q] t (hy_e none (mf_as0N t 12)) := by
  refine hy_mk_ct ok_M_laysAs ck_M_laysAs (Nat.le_of_ble_eq_true rfl) ?_
  have loop : ∀ (m : Nat), ∀ (k : Nat) (t1 : hy_T), m + k = 12 → t1 = mf_as0N t k → hy_W sc hm_M_laysAs 6 12 [.inr (some 59), .inl e, .inl q, .inl 0, .inl (k : Int)] [] t1 (hy_e none (mf_as0N t 12)) := by
    intro m
    induction m with
    | zero =>
      intro k t1 hm ht
      obtain rfl : k = 12 := by omega
      refine hy_iload (i := 12) rfl rfl ?_
      refine hy_const (i := 13) rfl (by decide) ?_
      refine hy_ic_ge (i := 14) (tt := 65) rfl (fun zc1 => ?_) (fun zc1 => ?_)
      · refine hy_return (i := 65) rfl rfl ?_
        exact ⟨rfl, ht⟩
      · omega
    | succ m ih =>
      intro k t1 hm ht
      have e0 : t1 59 0 = 0 := by rw [ht, mf_as0N_F t k 59 0 rfl]; exact h0
      refine hy_iload (i := 12) rfl rfl ?_
      refine hy_const (i := 13) rfl (by decide) ?_
      refine hy_ic_ge (i := 14) (tt := 65) rfl (fun zc1 => ?_) (fun zc1 => ?_)
      · omega
      · refine hy_aload (i := 15) rfl rfl ?_
        refine hy_getr (i := 16) rfl rfl ?_
        refine hy_iload (i := 17) rfl rfl ?_
        refine hy_iload (i := 18) rfl rfl ?_
        refine hy_iload (i := 19) rfl rfl ?_
        refine hy_cS2e (i := 20) rfl (by decide) mj_M_has (by decide) rfl (Nat.le_of_ble_eq_true rfl) (c_M_has) ?_
        refine hy_ib_eq (i := 21) (tt := 24) rfl (fun zc2 => ?_) (fun zc2 => ?_)
        · refine hy_const (i := 24) rfl (by decide) ?_
          refine hy_iast (i := 25) rfl rfl (by omega) (k := k) (by omega) ?_
          refine hy_iload (i := 26) rfl rfl ?_
          refine hy_iload (i := 27) rfl rfl ?_
          refine hy_cS2e (i := 28) rfl (by decide) mj_M_has (by decide) rfl (Nat.le_of_ble_eq_true rfl) (c_M_has) ?_
          refine hy_ib_ne (i := 29) (tt := 63) rfl (fun zc3 => ?_) (fun zc3 => ?_)
          · rw [hz_b_0] at zc3; cases zc3
          · refine hy_aload (i := 30) rfl rfl ?_
            refine hy_iload (i := 31) rfl rfl ?_
            refine hy_cV1e (i := 32) rfl mj_M_isMixed (by decide) rfl (Nat.le_of_ble_eq_true rfl) rfl rfl rfl (c_M_isMixed) ?_
            refine hy_ib_ne (i := 33) (tt := 35) rfl (fun zc4 => ?_) (fun zc4 => ?_)
            · rw [show ∀ (i : Nat) (x : Int), hy_up t1 79 i x 59 0 = t1 59 0 from fun _ _ => rfl, e0, sp_told_0, Bool.false_and] at zc4; cases zc4
            · refine hy_goto (i := 34) (tt := 63) rfl ?_
              refine hy_iinc (i := 63) rfl rfl (by omega) ?_
              refine hy_goto (i := 64) (tt := 12) rfl ?_
              exact ih (k + 1) _ (by omega) (by rw [ht]; rfl)
        · rw [hz_b_0] at zc2; cases zc2
  refine hy_aload (i := 0) rfl rfl ?_
  refine hy_iload (i := 1) rfl rfl ?_
  refine hy_iload (i := 2) rfl rfl ?_
  refine hy_cV2e (i := 3) rfl mj_M_seenBy (by decide) rfl (Nat.le_of_ble_eq_true rfl) rfl rfl rfl (c_M_seenBy0 h0) ?_
  refine hy_istore (i := 4) rfl ?_
  refine hy_aload (i := 5) rfl rfl ?_
  refine hy_getr (i := 6) rfl rfl ?_
  refine hy_const (i := 7) rfl (by decide) ?_
  refine hy_const (i := 8) rfl (by decide) ?_
  refine hy_iast (i := 9) rfl rfl (by omega) (show _ = 12 from rfl) ?_
  refine hy_const (i := 10) rfl (by decide) ?_
  refine hy_istore (i := 11) rfl ?_
  exact loop 12 0 _ rfl rfl
theorem c_M_sees0 {e c q : Int} (h0 : t 59 0 = 0) : hy_Ct sc hm_M_sees 6 [.inr (some 59), .inl e, .inl c, .inl q] t (hy_r (-1)) := by
  refine hy_mk_ct ok_M_sees ck_M_sees (Nat.le_of_ble_eq_true rfl) ?_
  refine hy_iload (i := 0) rfl rfl ?_
  refine hy_cS1e (i := 1) rfl (by decide) mj_M_isEmpire (by decide) rfl (Nat.le_of_ble_eq_true rfl) (c_M_isEmpire) ?_
  refine hy_ib_eq (i := 2) (tt := 10) rfl (fun zc1 => ?_) (fun zc1 => ?_)
  · refine hy_const (i := 10) rfl (by decide) ?_
    refine hy_ireturn (i := 11) rfl rfl ?_
    exact rfl
  · refine hy_aload (i := 3) rfl rfl ?_
    refine hy_iload (i := 4) rfl rfl ?_
    refine hy_cV1e (i := 5) rfl mj_M_isColour (by decide) rfl (Nat.le_of_ble_eq_true rfl) rfl rfl rfl (c_M_isColour) ?_
    refine hy_ib_eq (i := 6) (tt := 10) rfl (fun zc2 => ?_) (fun zc2 => ?_)
    · refine hy_const (i := 10) rfl (by decide) ?_
      refine hy_ireturn (i := 11) rfl rfl ?_
      exact rfl
    · rw [h0, sp_told_0] at zc2; cases zc2
theorem c_M_appears0 {e c q : Int} (h0 : t 59 0 = 0) : hy_Ct sc hm_M_appears 7 [.inr (some 59), .inl e, .inl c, .inl q] t (hy_r (if (0 ≤ e ∧ e < 6) ∧ c = 12 ∧ 0 ≤ q ∧ q < 4 then 12 else -1)) := by
  refine hy_mk_ct ok_M_appears ck_M_appears (Nat.le_of_ble_eq_true rfl) ?_
  by_cases hq : (0 ≤ e ∧ e < 6) ∧ c = 12 ∧ 0 ≤ q ∧ q < 4
  · rw [if_pos hq]
    refine hy_iload (i := 0) rfl rfl ?_
    refine hy_cS1e (i := 1) rfl (by decide) mj_M_isEmpire (by decide) rfl (Nat.le_of_ble_eq_true rfl) (c_M_isEmpire) ?_
    refine hy_ib_eq (i := 2) (tt := 13) rfl (fun zc1 => ?_) (fun zc1 => ?_)
    · simp at zc1; omega
    · refine hy_iload (i := 3) rfl rfl ?_
      refine hy_const (i := 4) rfl (by decide) ?_
      refine hy_ic_eq (i := 5) (tt := 10) rfl (fun zc2 => ?_) (fun zc2 => ?_)
      · refine hy_iload (i := 10) rfl rfl ?_
        refine hy_cS1e (i := 11) rfl (by decide) mj_M_isQuarter (by decide) rfl (Nat.le_of_ble_eq_true rfl) (c_M_isQuarter) ?_
        refine hy_ib_ne (i := 12) (tt := 15) rfl (fun zc3 => ?_) (fun zc3 => ?_)
        · refine hy_aload (i := 15) rfl rfl ?_
          refine hy_iload (i := 16) rfl rfl ?_
          refine hy_iload (i := 17) rfl rfl ?_
          refine hy_cV2v (i := 18) rfl mj_M_laysAs (by decide) rfl (Nat.le_of_ble_eq_true rfl) rfl rfl rfl (c_M_laysAs0 h0) ?_
          refine hy_aload (i := 19) rfl rfl ?_
          refine hy_getr (i := 20) rfl rfl ?_
          refine hy_iload (i := 21) rfl rfl ?_
          refine hy_iald (i := 22) rfl rfl (by omega) rfl ?_
          refine hy_ireturn (i := 23) rfl rfl ?_
          exact congrArg some (by rw [show c.toNat = 12 by omega]; exact mf_as0N_v t 12 12 (by omega) (by omega))
        · simp at zc3; omega
      · omega
  · rw [if_neg hq]
    refine hy_iload (i := 0) rfl rfl ?_
    refine hy_cS1e (i := 1) rfl (by decide) mj_M_isEmpire (by decide) rfl (Nat.le_of_ble_eq_true rfl) (c_M_isEmpire) ?_
    refine hy_ib_eq (i := 2) (tt := 13) rfl (fun zc1 => ?_) (fun zc1 => ?_)
    · refine hy_const (i := 13) rfl (by decide) ?_
      refine hy_ireturn (i := 14) rfl rfl ?_
      exact rfl
    · refine hy_iload (i := 3) rfl rfl ?_
      refine hy_const (i := 4) rfl (by decide) ?_
      refine hy_ic_eq (i := 5) (tt := 10) rfl (fun zc2 => ?_) (fun zc2 => ?_)
      · refine hy_iload (i := 10) rfl rfl ?_
        refine hy_cS1e (i := 11) rfl (by decide) mj_M_isQuarter (by decide) rfl (Nat.le_of_ble_eq_true rfl) (c_M_isQuarter) ?_
        refine hy_ib_ne (i := 12) (tt := 15) rfl (fun zc3 => ?_) (fun zc3 => ?_)
        · exfalso; simp only [decide_eq_true_eq] at zc1 zc3; exact hq ⟨zc1, zc2, zc3⟩
        · refine hy_const (i := 13) rfl (by decide) ?_
          refine hy_ireturn (i := 14) rfl rfl ?_
          exact rfl
      · refine hy_aload (i := 6) rfl rfl ?_
        refine hy_iload (i := 7) rfl rfl ?_
        refine hy_cV1e (i := 8) rfl mj_M_isColour (by decide) rfl (Nat.le_of_ble_eq_true rfl) rfl rfl rfl (c_M_isColour) ?_
        refine hy_ib_eq (i := 9) (tt := 13) rfl (fun zc3 => ?_) (fun zc3 => ?_)
        · refine hy_const (i := 13) rfl (by decide) ?_
          refine hy_ireturn (i := 14) rfl rfl ?_
          exact rfl
        · rw [h0, sp_told_0] at zc3; cases zc3
theorem c_M_child0 {a b c q : Int} (h0 : t 59 0 = 0) : hy_Ct sc hm_M_child 6 [.inr (some 59), .inl a, .inl b, .inl c, .inl q] t (hy_r (-1)) := by
  refine hy_mk_ct ok_M_child ck_M_child (Nat.le_of_ble_eq_true rfl) ?_
  refine hy_iload (i := 0) rfl rfl ?_
  refine hy_cS1e (i := 1) rfl (by decide) mj_M_isEmpire (by decide) rfl (Nat.le_of_ble_eq_true rfl) (c_M_isEmpire) ?_
  refine hy_ib_eq (i := 2) (tt := 13) rfl (fun zc1 => ?_) (fun zc1 => ?_)
  · refine hy_const (i := 13) rfl (by decide) ?_
    refine hy_ireturn (i := 14) rfl rfl ?_
    exact rfl
  · refine hy_iload (i := 3) rfl rfl ?_
    refine hy_cS1e (i := 4) rfl (by decide) mj_M_isEmpire (by decide) rfl (Nat.le_of_ble_eq_true rfl) (c_M_isEmpire) ?_
    refine hy_ib_eq (i := 5) (tt := 13) rfl (fun zc2 => ?_) (fun zc2 => ?_)
    · refine hy_const (i := 13) rfl (by decide) ?_
      refine hy_ireturn (i := 14) rfl rfl ?_
      exact rfl
    · refine hy_aload (i := 6) rfl rfl ?_
      refine hy_iload (i := 7) rfl rfl ?_
      refine hy_cV1e (i := 8) rfl mj_M_isColour (by decide) rfl (Nat.le_of_ble_eq_true rfl) rfl rfl rfl (c_M_isColour) ?_
      refine hy_ib_eq (i := 9) (tt := 13) rfl (fun zc3 => ?_) (fun zc3 => ?_)
      · refine hy_const (i := 13) rfl (by decide) ?_
        refine hy_ireturn (i := 14) rfl rfl ?_
        exact rfl
      · rw [h0, sp_told_0] at zc3; cases zc3
theorem c_M_unseen0 {x y u e q : Int} (h0 : t 59 0 = 0) : hy_Ct sc hm_M_unseen 7 [.inr (some 59), .inl x, .inl y, .inl u, .inl e, .inl q] t (hy_r (-1)) := by
  refine hy_mk_ct ok_M_unseen ck_M_unseen (Nat.le_of_ble_eq_true rfl) ?_
  refine hy_iload (i := 0) rfl rfl ?_
  refine hy_const (i := 1) rfl (by decide) ?_
  refine hy_const (i := 2) rfl (by decide) ?_
  refine hy_cS3e (i := 3) rfl (by decide) mj_M_in (by decide) rfl (Nat.le_of_ble_eq_true rfl) (c_M_in) ?_
  refine hy_ib_eq (i := 4) (tt := 20) rfl (fun zc1 => ?_) (fun zc1 => ?_)
  · refine hy_const (i := 20) rfl (by decide) ?_
    refine hy_ireturn (i := 21) rfl rfl ?_
    exact rfl
  · refine hy_iload (i := 5) rfl rfl ?_
    refine hy_const (i := 6) rfl (by decide) ?_
    refine hy_const (i := 7) rfl (by decide) ?_
    refine hy_cS3e (i := 8) rfl (by decide) mj_M_in (by decide) rfl (Nat.le_of_ble_eq_true rfl) (c_M_in) ?_
    refine hy_ib_eq (i := 9) (tt := 20) rfl (fun zc2 => ?_) (fun zc2 => ?_)
    · refine hy_const (i := 20) rfl (by decide) ?_
      refine hy_ireturn (i := 21) rfl rfl ?_
      exact rfl
    · refine hy_aload (i := 10) rfl rfl ?_
      refine hy_iload (i := 11) rfl rfl ?_
      refine hy_cV1e (i := 12) rfl mj_M_isColour (by decide) rfl (Nat.le_of_ble_eq_true rfl) rfl rfl rfl (c_M_isColour) ?_
      refine hy_ib_eq (i := 13) (tt := 20) rfl (fun zc3 => ?_) (fun zc3 => ?_)
      · refine hy_const (i := 20) rfl (by decide) ?_
        refine hy_ireturn (i := 21) rfl rfl ?_
        exact rfl
      · rw [h0, sp_told_0] at zc3; cases zc3
theorem c_M_way0 {a b u e q w : Int} (h0 : t 59 0 = 0) : hy_Ct sc hm_M_way 7 [.inr (some 59), .inl a, .inl b, .inl u, .inl e, .inl q, .inl w] t (hy_r (-1)) := by
  refine hy_mk_ct ok_M_way ck_M_way (Nat.le_of_ble_eq_true rfl) ?_
  refine hy_iload (i := 0) rfl rfl ?_
  refine hy_const (i := 1) rfl (by decide) ?_
  refine hy_const (i := 2) rfl (by decide) ?_
  refine hy_cS3e (i := 3) rfl (by decide) mj_M_in (by decide) rfl (Nat.le_of_ble_eq_true rfl) (c_M_in) ?_
  refine hy_ib_eq (i := 4) (tt := 25) rfl (fun zc1 => ?_) (fun zc1 => ?_)
  · refine hy_const (i := 25) rfl (by decide) ?_
    refine hy_ireturn (i := 26) rfl rfl ?_
    exact rfl
  · refine hy_iload (i := 5) rfl rfl ?_
    refine hy_const (i := 6) rfl (by decide) ?_
    refine hy_const (i := 7) rfl (by decide) ?_
    refine hy_cS3e (i := 8) rfl (by decide) mj_M_in (by decide) rfl (Nat.le_of_ble_eq_true rfl) (c_M_in) ?_
    refine hy_ib_eq (i := 9) (tt := 25) rfl (fun zc2 => ?_) (fun zc2 => ?_)
    · refine hy_const (i := 25) rfl (by decide) ?_
      refine hy_ireturn (i := 26) rfl rfl ?_
      exact rfl
    · refine hy_aload (i := 10) rfl rfl ?_
      refine hy_iload (i := 11) rfl rfl ?_
      refine hy_cV1e (i := 12) rfl mj_M_isColour (by decide) rfl (Nat.le_of_ble_eq_true rfl) rfl rfl rfl (c_M_isColour) ?_
      refine hy_ib_eq (i := 13) (tt := 25) rfl (fun zc3 => ?_) (fun zc3 => ?_)
      · refine hy_const (i := 25) rfl (by decide) ?_
        refine hy_ireturn (i := 26) rfl rfl ?_
        exact rfl
      · rw [h0, sp_told_0] at zc3; cases zc3
theorem c_M_gain0 {e c q : Int} (h0 : t 59 0 = 0) : hy_Ct sc hm_M_gain 7 [.inr (some 59), .inl e, .inl c, .inl q] t (hy_r (-1000000000)) := by
  refine hy_mk_ct ok_M_gain ck_M_gain (Nat.le_of_ble_eq_true rfl) ?_
  refine hy_iload (i := 0) rfl rfl ?_
  refine hy_cS1e (i := 1) rfl (by decide) mj_M_isEmpire (by decide) rfl (Nat.le_of_ble_eq_true rfl) (c_M_isEmpire) ?_
  refine hy_ib_eq (i := 2) (tt := 21) rfl (fun zc1 => ?_) (fun zc1 => ?_)
  · refine hy_const (i := 21) rfl (by decide) ?_
    refine hy_ireturn (i := 22) rfl rfl ?_
    exact rfl
  · refine hy_aload (i := 3) rfl rfl ?_
    refine hy_iload (i := 4) rfl rfl ?_
    refine hy_cV1e (i := 5) rfl mj_M_isPlain (by decide) rfl (Nat.le_of_ble_eq_true rfl) rfl rfl rfl (c_M_isPlain) ?_
    refine hy_ib_eq (i := 6) (tt := 21) rfl (fun zc2 => ?_) (fun zc2 => ?_)
    · refine hy_const (i := 21) rfl (by decide) ?_
      refine hy_ireturn (i := 22) rfl rfl ?_
      exact rfl
    · rw [h0, sp_told_0, Bool.false_and] at zc2; cases zc2
theorem c_M_worthOf0 {e q : Int} (h0 : t 59 0 = 0) : hy_Ct sc hm_M_worthOf 6 [.inr (some 59), .inl e, .inl q] t (hy_e (some 0) t) := by
  refine hy_mk_ct ok_M_worthOf ck_M_worthOf (Nat.le_of_ble_eq_true rfl) ?_
  have loop : ∀ (m : Nat), ∀ (k : Nat) (v6 : hy_V), m + k = 12 → hy_W sc hm_M_worthOf 6 9 [.inr (some 59), .inl e, .inl q, .inl 0, .inl 0, .inl (k : Int), v6] [] t (hy_e (some 0) t) := by
    intro m
    induction m with
    | zero =>
      intro k v6 hm
      refine hy_iload (i := 9) rfl rfl ?_
      refine hy_const (i := 10) rfl (by decide) ?_
      refine hy_ic_ge (i := 11) (tt := 47) rfl (fun zc1 => ?_) (fun zc1 => ?_)
      · refine hy_iload (i := 47) rfl rfl ?_
        refine hy_ireturn (i := 48) rfl rfl ?_
        exact ⟨rfl, rfl⟩
      · omega
    | succ m ih =>
      intro k v6 hm
      refine hy_iload (i := 9) rfl rfl ?_
      refine hy_const (i := 10) rfl (by decide) ?_
      refine hy_ic_ge (i := 11) (tt := 47) rfl (fun zc1 => ?_) (fun zc1 => ?_)
      · omega
      · refine hy_iload (i := 12) rfl rfl ?_
        refine hy_iload (i := 13) rfl rfl ?_
        refine hy_cS2e (i := 14) rfl (by decide) mj_M_has (by decide) rfl (Nat.le_of_ble_eq_true rfl) (c_M_has) ?_
        refine hy_ib_eq (i := 15) (tt := 21) rfl (fun zc2 => ?_) (fun zc2 => ?_)
        · refine hy_const (i := 21) rfl (by decide) ?_
          refine hy_istore (i := 22) rfl ?_
          refine hy_iload (i := 23) rfl rfl ?_
          refine hy_if_ne (i := 24) (tt := 26) rfl (fun zc3 => ?_) (fun zc3 => ?_)
          · exact absurd rfl zc3
          · refine hy_goto (i := 25) (tt := 45) rfl ?_
            refine hy_iinc (i := 45) rfl rfl (by omega) ?_
            refine hy_goto (i := 46) (tt := 9) rfl ?_
            exact ih (k + 1) _ (by omega)
        · rw [hz_b_0] at zc2; cases zc2
  refine hy_aload (i := 0) rfl rfl ?_
  refine hy_iload (i := 1) rfl rfl ?_
  refine hy_iload (i := 2) rfl rfl ?_
  refine hy_cV2e (i := 3) rfl mj_M_seenBy (by decide) rfl (Nat.le_of_ble_eq_true rfl) rfl rfl rfl (c_M_seenBy0 h0) ?_
  refine hy_istore (i := 4) rfl ?_
  refine hy_const (i := 5) rfl (by decide) ?_
  refine hy_istore (i := 6) rfl ?_
  refine hy_const (i := 7) rfl (by decide) ?_
  refine hy_istore (i := 8) rfl ?_
  exact loop 12 0 _ rfl
theorem c_M_worth0 {e q : Int} (h0 : t 59 0 = 0) : hy_Ct sc hm_M_worth 7 [.inr (some 59), .inl e, .inl q] t (hy_r (if (0 ≤ e ∧ e < 6) ∧ 0 ≤ q ∧ q < 4 then 0 else -1)) := by
  refine hy_mk_ct ok_M_worth ck_M_worth (Nat.le_of_ble_eq_true rfl) ?_
  refine hy_iload (i := 0) rfl rfl ?_
  refine hy_cS1e (i := 1) rfl (by decide) mj_M_isEmpire (by decide) rfl (Nat.le_of_ble_eq_true rfl) (c_M_isEmpire) ?_
  refine hy_ib_eq (i := 2) (tt := 11) rfl (fun zc1 => ?_) (fun zc1 => ?_)
  · refine hy_const (i := 11) rfl (by decide) ?_
    refine hy_ireturn (i := 12) rfl rfl ?_
    exact congrArg some (by simp only [decide_eq_true_eq, decide_eq_false_iff_not] at *; first | rw [if_pos ⟨by assumption, by assumption⟩] | rw [if_neg (by omega)])
  · refine hy_iload (i := 3) rfl rfl ?_
    refine hy_cS1e (i := 4) rfl (by decide) mj_M_isQuarter (by decide) rfl (Nat.le_of_ble_eq_true rfl) (c_M_isQuarter) ?_
    refine hy_ib_eq (i := 5) (tt := 11) rfl (fun zc2 => ?_) (fun zc2 => ?_)
    · refine hy_const (i := 11) rfl (by decide) ?_
      refine hy_ireturn (i := 12) rfl rfl ?_
      exact congrArg some (by simp only [decide_eq_true_eq, decide_eq_false_iff_not] at *; first | rw [if_pos ⟨by assumption, by assumption⟩] | rw [if_neg (by omega)])
    · refine hy_aload (i := 6) rfl rfl ?_
      refine hy_iload (i := 7) rfl rfl ?_
      refine hy_iload (i := 8) rfl rfl ?_
      refine hy_cV2e (i := 9) rfl mj_M_worthOf (by decide) rfl (Nat.le_of_ble_eq_true rfl) rfl rfl rfl (c_M_worthOf0 h0) ?_
      refine hy_goto (i := 10) (tt := 12) rfl ?_
      refine hy_ireturn (i := 12) rfl rfl ?_
      exact congrArg some (by simp only [decide_eq_true_eq, decide_eq_false_iff_not] at *; first | rw [if_pos ⟨by assumption, by assumption⟩] | rw [if_neg (by omega)])
theorem c_M_power0 {cs c e q w : Int} (h0 : t 59 0 = 0) : hy_Ct sc hm_M_power 8 [.inr (some 59), .inl cs, .inl c, .inl e, .inl q, .inl w] t (hy_r (-1000000000)) := by
  refine hy_mk_ct ok_M_power ck_M_power (Nat.le_of_ble_eq_true rfl) ?_
  have loop : ∀ (hc : 0 ≤ c ∧ c ≤ 11) (hb : hz_b cs c = true), ∀ (m : Nat), ∀ (k : Nat), m + k = 12 → (k : Int) ≤ c → hy_W sc hm_M_power 8 33 ([.inr (some 59), .inl cs, .inl c, .inl e, .inl q, .inl w, .inl (k : Int)] ++ List.replicate (hx_L hm_M_power - 7) (.inr none)) [] t (hy_r (-1000000000)) := by
    intro hc hb m
    induction m with
    | zero => intro k hm hk; omega
    | succ m ih =>
      intro k hm hk
      refine hy_iload (i := 33) rfl rfl ?_
      refine hy_const (i := 34) rfl (by decide) ?_
      refine hy_ic_ge (i := 35) (tt := 48) rfl (fun zc1 => ?_) (fun zc1 => ?_)
      · omega
      · refine hy_iload (i := 36) rfl rfl ?_
        refine hy_iload (i := 37) rfl rfl ?_
        refine hy_cS2e (i := 38) rfl (by decide) mj_M_has (by decide) rfl (Nat.le_of_ble_eq_true rfl) (c_M_has) ?_
        refine hy_ib_eq (i := 39) (tt := 46) rfl (fun zc2 => ?_) (fun zc2 => ?_)
        · refine hy_iinc (i := 46) rfl rfl (by omega) ?_
          refine hy_goto (i := 47) (tt := 33) rfl ?_
          refine ih (k + 1) (by omega) ?_
          have hne : (k : Int) ≠ c := fun h => by rw [h, hb] at zc2; cases zc2
          omega
        · refine hy_aload (i := 40) rfl rfl ?_
          refine hy_iload (i := 41) rfl rfl ?_
          refine hy_cV1e (i := 42) rfl mj_M_isPlain (by decide) rfl (Nat.le_of_ble_eq_true rfl) rfl rfl rfl (c_M_isPlain) ?_
          refine hy_ib_ne (i := 43) (tt := 46) rfl (fun zc3 => ?_) (fun zc3 => ?_)
          · rw [h0, sp_told_0, Bool.false_and] at zc3; cases zc3
          · refine hy_const (i := 44) rfl (by decide) ?_
            refine hy_ireturn (i := 45) rfl rfl ?_
            exact rfl
  refine hy_iload (i := 0) rfl rfl ?_
  refine hy_const (i := 1) rfl (by decide) ?_
  refine hy_const (i := 2) rfl (by decide) ?_
  refine hy_cS3e (i := 3) rfl (by decide) mj_M_in (by decide) rfl (Nat.le_of_ble_eq_true rfl) (c_M_in) ?_
  refine hy_ib_eq (i := 4) (tt := 29) rfl (fun zc1 => ?_) (fun zc1 => ?_)
  · refine hy_const (i := 29) rfl (by decide) ?_
    refine hy_ireturn (i := 30) rfl rfl ?_
    exact rfl
  · refine hy_iload (i := 5) rfl rfl ?_
    refine hy_cS1e (i := 6) rfl (by decide) mj_M_bits (by decide) rfl (Nat.le_of_ble_eq_true rfl) (c_M_bits) ?_
    refine hy_const (i := 7) rfl (by decide) ?_
    refine hy_ic_gt (i := 8) (tt := 29) rfl (fun zc2 => ?_) (fun zc2 => ?_)
    · refine hy_const (i := 29) rfl (by decide) ?_
      refine hy_ireturn (i := 30) rfl rfl ?_
      exact rfl
    · refine hy_iload (i := 9) rfl rfl ?_
      refine hy_const (i := 10) rfl (by decide) ?_
      refine hy_const (i := 11) rfl (by decide) ?_
      refine hy_cS3e (i := 12) rfl (by decide) mj_M_in (by decide) rfl (Nat.le_of_ble_eq_true rfl) (c_M_in) ?_
      refine hy_ib_eq (i := 13) (tt := 29) rfl (fun zc3 => ?_) (fun zc3 => ?_)
      · refine hy_const (i := 29) rfl (by decide) ?_
        refine hy_ireturn (i := 30) rfl rfl ?_
        exact rfl
      · refine hy_iload (i := 14) rfl rfl ?_
        refine hy_iload (i := 15) rfl rfl ?_
        refine hy_cS2e (i := 16) rfl (by decide) mj_M_has (by decide) rfl (Nat.le_of_ble_eq_true rfl) (c_M_has) ?_
        refine hy_ib_eq (i := 17) (tt := 29) rfl (fun zc4 => ?_) (fun zc4 => ?_)
        · refine hy_const (i := 29) rfl (by decide) ?_
          refine hy_ireturn (i := 30) rfl rfl ?_
          exact rfl
        · refine hy_iload (i := 18) rfl rfl ?_
          refine hy_cS1e (i := 19) rfl (by decide) mj_M_isEmpire (by decide) rfl (Nat.le_of_ble_eq_true rfl) (c_M_isEmpire) ?_
          refine hy_ib_eq (i := 20) (tt := 29) rfl (fun zc5 => ?_) (fun zc5 => ?_)
          · refine hy_const (i := 29) rfl (by decide) ?_
            refine hy_ireturn (i := 30) rfl rfl ?_
            exact rfl
          · refine hy_iload (i := 21) rfl rfl ?_
            refine hy_cS1e (i := 22) rfl (by decide) mj_M_isQuarter (by decide) rfl (Nat.le_of_ble_eq_true rfl) (c_M_isQuarter) ?_
            refine hy_ib_eq (i := 23) (tt := 29) rfl (fun zc6 => ?_) (fun zc6 => ?_)
            · refine hy_const (i := 29) rfl (by decide) ?_
              refine hy_ireturn (i := 30) rfl rfl ?_
              exact rfl
            · refine hy_iload (i := 24) rfl rfl ?_
              refine hy_const (i := 25) rfl (by decide) ?_
              refine hy_const (i := 26) rfl (by decide) ?_
              refine hy_cS3e (i := 27) rfl (by decide) mj_M_in (by decide) rfl (Nat.le_of_ble_eq_true rfl) (c_M_in) ?_
              refine hy_ib_ne (i := 28) (tt := 31) rfl (fun zc7 => ?_) (fun zc7 => ?_)
              · refine hy_const (i := 31) rfl (by decide) ?_
                refine hy_istore (i := 32) rfl ?_
                exact loop (by simp at zc3; omega) zc4 12 0 rfl (by simp at zc3; omega)
              · refine hy_const (i := 29) rfl (by decide) ?_
                refine hy_ireturn (i := 30) rfl rfl ?_
                exact rfl
theorem c_M_parted0 {m w : Int} (h : t 59 9 < 8) : hy_Ct sc hm_M_parted 2 [.inr (some 59), .inl m, .inl w] t (hy_r (-1)) := by
  refine hy_mk_ct ok_M_parted ck_M_parted (Nat.le_of_ble_eq_true rfl) ?_
  refine hy_iload (i := 0) rfl rfl ?_
  refine hy_const (i := 1) rfl (by decide) ?_
  refine hy_const (i := 2) rfl (by decide) ?_
  refine hy_cS3e (i := 3) rfl (by decide) mj_M_in (by decide) rfl (Nat.le_of_ble_eq_true rfl) (c_M_in) ?_
  refine hy_ib_eq (i := 4) (tt := 21) rfl (fun zc1 => ?_) (fun zc1 => ?_)
  · refine hy_const (i := 21) rfl (by decide) ?_
    refine hy_ireturn (i := 22) rfl rfl ?_
    exact rfl
  · refine hy_iload (i := 5) rfl rfl ?_
    refine hy_const (i := 6) rfl (by decide) ?_
    refine hy_const (i := 7) rfl (by decide) ?_
    refine hy_cS3e (i := 8) rfl (by decide) mj_M_in (by decide) rfl (Nat.le_of_ble_eq_true rfl) (c_M_in) ?_
    refine hy_ib_ne (i := 9) (tt := 15) rfl (fun zc2 => ?_) (fun zc2 => ?_)
    · refine hy_const (i := 15) rfl (by decide) ?_
      refine hy_iload (i := 16) rfl rfl ?_
      refine hy_imul (i := 17) rfl (by simp at zc1; omega) ?_
      refine hy_aload (i := 18) rfl rfl ?_
      refine hy_get (i := 19) (fk := 9) rfl rfl rfl ?_
      refine hy_ic_le (i := 20) (tt := 23) rfl (fun zc3 => ?_) (fun zc3 => ?_)
      · simp at zc1; omega
      · refine hy_const (i := 21) rfl (by decide) ?_
        refine hy_ireturn (i := 22) rfl rfl ?_
        exact rfl
    · refine hy_iload (i := 10) rfl rfl ?_
      refine hy_const (i := 11) rfl (by decide) ?_
      refine hy_const (i := 12) rfl (by decide) ?_
      refine hy_cS3e (i := 13) rfl (by decide) mj_M_in (by decide) rfl (Nat.le_of_ble_eq_true rfl) (c_M_in) ?_
      refine hy_ib_eq (i := 14) (tt := 21) rfl (fun zc3 => ?_) (fun zc3 => ?_)
      · refine hy_const (i := 21) rfl (by decide) ?_
        refine hy_ireturn (i := 22) rfl rfl ?_
        exact rfl
      · refine hy_const (i := 15) rfl (by decide) ?_
        refine hy_iload (i := 16) rfl rfl ?_
        refine hy_imul (i := 17) rfl (by simp at zc1; omega) ?_
        refine hy_aload (i := 18) rfl rfl ?_
        refine hy_get (i := 19) (fk := 9) rfl rfl rfl ?_
        refine hy_ic_le (i := 20) (tt := 23) rfl (fun zc4 => ?_) (fun zc4 => ?_)
        · simp at zc1; omega
        · refine hy_const (i := 21) rfl (by decide) ?_
          refine hy_ireturn (i := 22) rfl rfl ?_
          exact rfl
theorem c_M_spies0 {n w : Int} (h : t 59 9 < 3) : hy_Ct sc hm_M_spies 9 [.inr (some 59), .inl n, .inl w] t (hy_r (-1)) := by
  refine hy_mk_ct ok_M_spies ck_M_spies (Nat.le_of_ble_eq_true rfl) ?_
  refine hy_iload (i := 0) rfl rfl ?_
  refine hy_const (i := 1) rfl (by decide) ?_
  refine hy_const (i := 2) rfl (by decide) ?_
  refine hy_cS3e (i := 3) rfl (by decide) mj_M_in (by decide) rfl (Nat.le_of_ble_eq_true rfl) (c_M_in) ?_
  refine hy_ib_eq (i := 4) (tt := 16) rfl (fun zc1 => ?_) (fun zc1 => ?_)
  · refine hy_const (i := 16) rfl (by decide) ?_
    refine hy_ireturn (i := 17) rfl rfl ?_
    exact rfl
  · refine hy_iload (i := 5) rfl rfl ?_
    refine hy_const (i := 6) rfl (by decide) ?_
    refine hy_const (i := 7) rfl (by decide) ?_
    refine hy_cS3e (i := 8) rfl (by decide) mj_M_in (by decide) rfl (Nat.le_of_ble_eq_true rfl) (c_M_in) ?_
    refine hy_ib_eq (i := 9) (tt := 16) rfl (fun zc2 => ?_) (fun zc2 => ?_)
    · refine hy_const (i := 16) rfl (by decide) ?_
      refine hy_ireturn (i := 17) rfl rfl ?_
      exact rfl
    · refine hy_const (i := 10) rfl (by decide) ?_
      refine hy_iload (i := 11) rfl rfl ?_
      refine hy_imul (i := 12) rfl (by simp at zc1; omega) ?_
      refine hy_aload (i := 13) rfl rfl ?_
      refine hy_get (i := 14) (fk := 9) rfl rfl rfl ?_
      refine hy_ic_le (i := 15) (tt := 18) rfl (fun zc3 => ?_) (fun zc3 => ?_)
      · simp at zc1; omega
      · refine hy_const (i := 16) rfl (by decide) ?_
        refine hy_ireturn (i := 17) rfl rfl ?_
        exact rfl
theorem c_M_law0 {n : Int} (h : t 59 9 = 0) : hy_Ct sc hm_M_law 8 [.inr (some 59), .inl n] t (hy_r (-1)) := by
  refine hy_mk_ct ok_M_law ck_M_law (Nat.le_of_ble_eq_true rfl) ?_
  refine hy_iload (i := 0) rfl rfl ?_
  refine hy_const (i := 1) rfl (by decide) ?_
  refine hy_const (i := 2) rfl (by decide) ?_
  refine hy_cS3e (i := 3) rfl (by decide) mj_M_in (by decide) rfl (Nat.le_of_ble_eq_true rfl) (c_M_in) ?_
  refine hy_ib_eq (i := 4) (tt := 9) rfl (fun zc1 => ?_) (fun zc1 => ?_)
  · refine hy_const (i := 9) rfl (by decide) ?_
    refine hy_ireturn (i := 10) rfl rfl ?_
    exact rfl
  · refine hy_iload (i := 5) rfl rfl ?_
    refine hy_aload (i := 6) rfl rfl ?_
    refine hy_get (i := 7) (fk := 9) rfl rfl rfl ?_
    refine hy_ic_le (i := 8) (tt := 11) rfl (fun zc2 => ?_) (fun zc2 => ?_)
    · simp at zc1; omega
    · refine hy_const (i := 9) rfl (by decide) ?_
      refine hy_ireturn (i := 10) rfl rfl ?_
      exact rfl
theorem c_M_land0 {n : Int} (h : t 59 9 = 0) : hy_Ct sc hm_M_land 3 [.inr (some 59), .inl n] t (hy_r (-1)) := by
  refine hy_mk_ct ok_M_land ck_M_land (Nat.le_of_ble_eq_true rfl) ?_
  refine hy_iload (i := 0) rfl rfl ?_
  refine hy_const (i := 1) rfl (by decide) ?_
  refine hy_const (i := 2) rfl (by decide) ?_
  refine hy_cS3e (i := 3) rfl (by decide) mj_M_in (by decide) rfl (Nat.le_of_ble_eq_true rfl) (c_M_in) ?_
  refine hy_ib_eq (i := 4) (tt := 9) rfl (fun zc1 => ?_) (fun zc1 => ?_)
  · refine hy_const (i := 9) rfl (by decide) ?_
    refine hy_ireturn (i := 10) rfl rfl ?_
    exact rfl
  · refine hy_iload (i := 5) rfl rfl ?_
    refine hy_aload (i := 6) rfl rfl ?_
    refine hy_get (i := 7) (fk := 9) rfl rfl rfl ?_
    refine hy_ic_le (i := 8) (tt := 11) rfl (fun zc2 => ?_) (fun zc2 => ?_)
    · simp at zc1; omega
    · refine hy_const (i := 9) rfl (by decide) ?_
      refine hy_ireturn (i := 10) rfl rfl ?_
      exact rfl
theorem c_M_treaties0 {n : Int} (h : t 59 9 = 0) : hy_Ct sc hm_M_treaties 5 [.inr (some 59), .inl n] t (hy_r (-1)) := by
  refine hy_mk_ct ok_M_treaties ck_M_treaties (Nat.le_of_ble_eq_true rfl) ?_
  refine hy_iload (i := 0) rfl rfl ?_
  refine hy_const (i := 1) rfl (by decide) ?_
  refine hy_const (i := 2) rfl (by decide) ?_
  refine hy_cS3e (i := 3) rfl (by decide) mj_M_in (by decide) rfl (Nat.le_of_ble_eq_true rfl) (c_M_in) ?_
  refine hy_ib_eq (i := 4) (tt := 9) rfl (fun zc1 => ?_) (fun zc1 => ?_)
  · refine hy_const (i := 9) rfl (by decide) ?_
    refine hy_ireturn (i := 10) rfl rfl ?_
    exact rfl
  · refine hy_iload (i := 5) rfl rfl ?_
    refine hy_aload (i := 6) rfl rfl ?_
    refine hy_get (i := 7) (fk := 9) rfl rfl rfl ?_
    refine hy_ic_le (i := 8) (tt := 11) rfl (fun zc2 => ?_) (fun zc2 => ?_)
    · simp at zc1; omega
    · refine hy_const (i := 9) rfl (by decide) ?_
      refine hy_ireturn (i := 10) rfl rfl ?_
      exact rfl
theorem c_M_judged0 {n : Int} (h : t 59 9 = 0) : hy_Ct sc hm_M_judged 5 [.inr (some 59), .inl n] t (hy_r (-1)) := by
  refine hy_mk_ct ok_M_judged ck_M_judged (Nat.le_of_ble_eq_true rfl) ?_
  refine hy_iload (i := 0) rfl rfl ?_
  refine hy_const (i := 1) rfl (by decide) ?_
  refine hy_const (i := 2) rfl (by decide) ?_
  refine hy_cS3e (i := 3) rfl (by decide) mj_M_in (by decide) rfl (Nat.le_of_ble_eq_true rfl) (c_M_in) ?_
  refine hy_ib_eq (i := 4) (tt := 9) rfl (fun zc1 => ?_) (fun zc1 => ?_)
  · refine hy_const (i := 9) rfl (by decide) ?_
    refine hy_ireturn (i := 10) rfl rfl ?_
    exact rfl
  · refine hy_iload (i := 5) rfl rfl ?_
    refine hy_aload (i := 6) rfl rfl ?_
    refine hy_get (i := 7) (fk := 9) rfl rfl rfl ?_
    refine hy_ic_le (i := 8) (tt := 11) rfl (fun zc2 => ?_) (fun zc2 => ?_)
    · simp at zc1; omega
    · refine hy_const (i := 9) rfl (by decide) ?_
      refine hy_ireturn (i := 10) rfl rfl ?_
      exact rfl
end MC
/-! the model, where nothing is told yet: days, tried, painting, signals, battle -/
theorem mf_pack1_F (r : Nat) (t : hy_T) (k : Nat) : hy_F (fun r' _ => r' == r) t (mf_pack1 r t k) := by
  unfold mf_pack1
  exact (((((hy_F.rf.up (by simp)).up (by simp)).up (by simp)).up (by simp)).up (by simp)).up (by simp)
theorem mf_packN_F (r : Nat) (t : hy_T) : ∀ k, hy_F (fun r' _ => r' == r) t (mf_packN r t k)
  | 0 => hy_F.rf
  | k + 1 => (mf_packN_F r t k).tr' (mf_pack1_F r _ k)
theorem mf_begins_0 (t : hy_T) {j : Nat} (hj : j ≠ 51 ∧ j ≠ 52 ∧ j ≠ 53) : mf_begins t 59 j = t 59 j := by
  have h1 := mf_packN_F 92 (hy_cp t 62 91 48) 16 59 j rfl
  simp only [mf_begins, mf_set3, hy_up]
  rw [if_neg (by omega), if_neg (by omega), if_neg (by omega), h1]
  rfl
theorem mf_bitsN_0 : ∀ k, mf_bitsN 0 k = 0
  | 0 => rfl
  | k + 1 => by simp only [mf_bitsN, mf_bitsN_0 k, hz_b_0]; rfl
section MD
variable {sc : List Int32} {t : hy_T}
theorem c_M_daysGo0 {n : Int} (hn : n ≤ 99) (h34 : t 59 34 = 0) (hd : 0 ≤ t 59 2 ∧ t 59 2 ≤ 9999) : hy_Ct sc hm_M_daysGo 5 [.inr (some 59), .inl n] t (fun r t' => r = none ∧ t' 59 58 = 0 ∧ t' 59 59 = -2 ∧ t' 59 60 = -2) := by
  refine hy_mk_ct ok_M_daysGo ck_M_daysGo (Nat.le_of_ble_eq_true rfl) ?_
  have loop : ∀ (m : Nat), ∀ (k : Nat) (t1 : hy_T) (v3 : hy_V), m + k = n.toNat → t1 59 34 = 0 → (0 ≤ t1 59 2 ∧ t1 59 2 ≤ 9999) → t1 59 58 = 0 → t1 59 59 = -2 → t1 59 60 = -2 → hy_W sc hm_M_daysGo 5 11 [.inr (some 59), .inl n, .inl (k : Int), v3] [] t1 (fun r t' => r = none ∧ t' 59 58 = 0 ∧ t' 59 59 = -2 ∧ t' 59 60 = -2) := by
    intro m
    induction m with
    | zero =>
      intro k t1 v3 hm h34 hd a b c
      refine hy_iload (i := 11) rfl rfl ?_
      refine hy_iload (i := 12) rfl rfl ?_
      refine hy_ic_ge (i := 13) (tt := 59) rfl (fun zc1 => ?_) (fun zc1 => ?_)
      · refine hy_return (i := 59) rfl rfl ?_
        exact ⟨rfl, a, b, c⟩
      · omega
    | succ m ih =>
      intro k t1 v3 hm h34 hd a b c
      refine hy_iload (i := 11) rfl rfl ?_
      refine hy_iload (i := 12) rfl rfl ?_
      refine hy_ic_ge (i := 13) (tt := 59) rfl (fun zc1 => ?_) (fun zc1 => ?_)
      · refine hy_return (i := 59) rfl rfl ?_
        exact ⟨rfl, a, b, c⟩
      · refine hy_aload (i := 14) rfl rfl ?_
        refine hy_get (i := 15) (fk := 2) rfl rfl rfl ?_
        refine hy_const (i := 16) rfl (by decide) ?_
        refine hy_ic_ge (i := 17) (tt := 59) rfl (fun zc2 => ?_) (fun zc2 => ?_)
        · refine hy_return (i := 59) rfl rfl ?_
          exact ⟨rfl, a, b, c⟩
        · refine hy_const (i := 18) rfl (by decide) ?_
          refine hy_istore (i := 19) rfl ?_
          refine hy_iload (i := 20) rfl rfl ?_
          refine hy_aload (i := 21) rfl rfl ?_
          refine hy_get (i := 22) (fk := 34) rfl rfl rfl ?_
          refine hy_ic_ge (i := 23) (tt := 51) rfl (fun zc3 => ?_) (fun zc3 => ?_)
          · refine hy_aload (i := 51) rfl rfl ?_
            refine hy_aload (i := 52) rfl rfl ?_
            refine hy_get (i := 53) (fk := 2) rfl rfl rfl ?_
            refine hy_const (i := 54) rfl (by decide) ?_
            refine hy_iadd (i := 55) rfl (by omega) ?_
            refine hy_put (i := 56) (fk := 2) rfl rfl rfl rfl ?_
            refine hy_iinc (i := 57) rfl rfl (by omega) ?_
            refine hy_goto (i := 58) (tt := 11) rfl ?_
            exact ih (k + 1) _ _ (by omega) h34 (by show 0 ≤ t1 59 2 + 1 ∧ t1 59 2 + 1 ≤ 9999; omega) a b c
          · omega
  refine hy_aload (i := 0) rfl rfl ?_
  refine hy_const (i := 1) rfl (by decide) ?_
  refine hy_put (i := 2) (fk := 58) rfl rfl rfl rfl ?_
  refine hy_aload (i := 3) rfl rfl ?_
  refine hy_const (i := 4) rfl (by decide) ?_
  refine hy_put (i := 5) (fk := 59) rfl rfl rfl rfl ?_
  refine hy_aload (i := 6) rfl rfl ?_
  refine hy_const (i := 7) rfl (by decide) ?_
  refine hy_put (i := 8) (fk := 60) rfl rfl rfl rfl ?_
  refine hy_const (i := 9) rfl (by decide) ?_
  refine hy_istore (i := 10) rfl ?_
  exact loop n.toNat 0 _ _ rfl h34 hd rfl rfl rfl
theorem c_M_days0 {n : Int} (h34 : t 59 34 = 0) (hd : 0 ≤ t 59 2 ∧ t 59 2 ≤ 9999) : hy_Ct sc hm_M_days 6 [.inr (some 59), .inl n] t (hy_r (if 1 ≤ n ∧ n ≤ 99 then 0 else -1)) := by
  refine hy_mk_ct ok_M_days ck_M_days (Nat.le_of_ble_eq_true rfl) ?_
  by_cases hq : 1 ≤ n ∧ n ≤ 99
  · rw [if_pos hq]
    refine hy_iload (i := 0) rfl rfl ?_
    refine hy_const (i := 1) rfl (by decide) ?_
    refine hy_const (i := 2) rfl (by decide) ?_
    refine hy_cS3e (i := 3) rfl (by decide) mj_M_in (by decide) rfl (Nat.le_of_ble_eq_true rfl) (c_M_in) ?_
    refine hy_ib_ne (i := 4) (tt := 7) rfl (fun zc1 => ?_) (fun zc1 => ?_)
    · refine hy_aload (i := 7) rfl rfl ?_
      refine hy_iload (i := 8) rfl rfl ?_
      refine hy_cV1 (i := 9) rfl mj_M_daysGo (by decide) rfl (Nat.le_of_ble_eq_true rfl) rfl rfl rfl (c_M_daysGo0 (by omega) h34 hd) (fun r2_ t2_ h2 => ?_)
      obtain ⟨rfl, a, b, c⟩ := h2
      dsimp only [hy_st, List.nil_append]
      refine hy_aload (i := 10) rfl rfl ?_
      refine hy_get (i := 11) (fk := 58) rfl rfl rfl ?_
      refine hy_ireturn (i := 12) rfl rfl ?_
      exact congrArg some a
    · simp at zc1; omega
  · rw [if_neg hq]
    refine hy_iload (i := 0) rfl rfl ?_
    refine hy_const (i := 1) rfl (by decide) ?_
    refine hy_const (i := 2) rfl (by decide) ?_
    refine hy_cS3e (i := 3) rfl (by decide) mj_M_in (by decide) rfl (Nat.le_of_ble_eq_true rfl) (c_M_in) ?_
    refine hy_ib_ne (i := 4) (tt := 7) rfl (fun zc1 => ?_) (fun zc1 => ?_)
    · simp at zc1; omega
    · refine hy_const (i := 5) rfl (by decide) ?_
      refine hy_ireturn (i := 6) rfl rfl ?_
      exact rfl
theorem c_M_tried0 {n w : Int} (h0 : t 59 0 = 0) (h34 : t 59 34 = 0) (hd : 0 ≤ t 59 2 ∧ t 59 2 ≤ 9999) : hy_Ct sc hm_M_tried 6 [.inr (some 59), .inl n, .inl w] t (hy_r (if (1 ≤ n ∧ n ≤ 99) ∧ 0 ≤ w ∧ w < 3 then (if w = 0 then 0 else -2) else -1)) := by
  refine hy_mk_ct ok_M_tried ck_M_tried (Nat.le_of_ble_eq_true rfl) ?_
  by_cases hq : (1 ≤ n ∧ n ≤ 99) ∧ 0 ≤ w ∧ w < 3
  · rw [if_pos hq]
    refine hy_iload (i := 0) rfl rfl ?_
    refine hy_const (i := 1) rfl (by decide) ?_
    refine hy_const (i := 2) rfl (by decide) ?_
    refine hy_cS3e (i := 3) rfl (by decide) mj_M_in (by decide) rfl (Nat.le_of_ble_eq_true rfl) (c_M_in) ?_
    refine hy_ib_eq (i := 4) (tt := 16) rfl (fun zc1 => ?_) (fun zc1 => ?_)
    · simp at zc1; omega
    · refine hy_iload (i := 5) rfl rfl ?_
      refine hy_const (i := 6) rfl (by decide) ?_
      refine hy_const (i := 7) rfl (by decide) ?_
      refine hy_cS3e (i := 8) rfl (by decide) mj_M_in (by decide) rfl (Nat.le_of_ble_eq_true rfl) (c_M_in) ?_
      refine hy_ib_ne (i := 9) (tt := 18) rfl (fun zc2 => ?_) (fun zc2 => ?_)
      · refine hy_aload (i := 18) rfl rfl ?_
        refine hy_cV0v (i := 19) rfl mj_M_begins (by decide) rfl (Nat.le_of_ble_eq_true rfl) rfl rfl rfl (c_M_begins) ?_
        refine hy_aload (i := 20) rfl rfl ?_
        refine hy_iload (i := 21) rfl rfl ?_
        refine hy_cV1 (i := 22) rfl mj_M_daysGo (by decide) rfl (Nat.le_of_ble_eq_true rfl) rfl rfl rfl (c_M_daysGo0 (by omega) ((mf_begins_0 t (by decide)).trans h34) (by rw [mf_begins_0 t (by decide)]; exact hd)) (fun r4_ t4_ h4 => ?_)
        obtain ⟨rfl, a, b, c⟩ := h4
        dsimp only [hy_st, List.nil_append]
        refine hy_iload (i := 23) rfl rfl ?_
        refine hy_if_ne (i := 24) (tt := 28) rfl (fun zc3 => ?_) (fun zc3 => ?_)
        · refine hy_iload (i := 28) rfl rfl ?_
          refine hy_const (i := 29) rfl (by decide) ?_
          refine hy_ic_ne (i := 30) (tt := 34) rfl (fun zc4 => ?_) (fun zc4 => ?_)
          · refine hy_iload (i := 34) rfl rfl ?_
            refine hy_const (i := 35) rfl (by decide) ?_
            refine hy_ic_ne (i := 36) (tt := 40) rfl (fun zc5 => ?_) (fun zc5 => ?_)
            · omega
            · refine hy_aload (i := 37) rfl rfl ?_
              refine hy_get (i := 38) (fk := 60) rfl rfl rfl ?_
              refine hy_goto (i := 39) (tt := 45) rfl ?_
              refine hy_istore (i := 45) rfl ?_
              refine hy_aload (i := 46) rfl rfl ?_
              refine hy_cV0v (i := 47) rfl mj_M_again (by decide) rfl (Nat.le_of_ble_eq_true rfl) rfl rfl rfl (c_M_again) ?_
              refine hy_iload (i := 48) rfl rfl ?_
              refine hy_ireturn (i := 49) rfl rfl ?_
              exact congrArg some (by first | (rw [if_pos (by omega)]; exact a) | (rw [if_neg (by omega)]; first | exact b | exact c))
          · refine hy_aload (i := 31) rfl rfl ?_
            refine hy_get (i := 32) (fk := 59) rfl rfl rfl ?_
            refine hy_goto (i := 33) (tt := 45) rfl ?_
            refine hy_istore (i := 45) rfl ?_
            refine hy_aload (i := 46) rfl rfl ?_
            refine hy_cV0v (i := 47) rfl mj_M_again (by decide) rfl (Nat.le_of_ble_eq_true rfl) rfl rfl rfl (c_M_again) ?_
            refine hy_iload (i := 48) rfl rfl ?_
            refine hy_ireturn (i := 49) rfl rfl ?_
            exact congrArg some (by first | (rw [if_pos (by omega)]; exact a) | (rw [if_neg (by omega)]; first | exact b | exact c))
        · refine hy_aload (i := 25) rfl rfl ?_
          refine hy_get (i := 26) (fk := 58) rfl rfl rfl ?_
          refine hy_goto (i := 27) (tt := 45) rfl ?_
          refine hy_istore (i := 45) rfl ?_
          refine hy_aload (i := 46) rfl rfl ?_
          refine hy_cV0v (i := 47) rfl mj_M_again (by decide) rfl (Nat.le_of_ble_eq_true rfl) rfl rfl rfl (c_M_again) ?_
          refine hy_iload (i := 48) rfl rfl ?_
          refine hy_ireturn (i := 49) rfl rfl ?_
          exact congrArg some (by first | (rw [if_pos (by omega)]; exact a) | (rw [if_neg (by omega)]; first | exact b | exact c))
      · simp at zc2; omega
  · rw [if_neg hq]
    refine hy_iload (i := 0) rfl rfl ?_
    refine hy_const (i := 1) rfl (by decide) ?_
    refine hy_const (i := 2) rfl (by decide) ?_
    refine hy_cS3e (i := 3) rfl (by decide) mj_M_in (by decide) rfl (Nat.le_of_ble_eq_true rfl) (c_M_in) ?_
    refine hy_ib_eq (i := 4) (tt := 16) rfl (fun zc1 => ?_) (fun zc1 => ?_)
    · refine hy_const (i := 16) rfl (by decide) ?_
      refine hy_ireturn (i := 17) rfl rfl ?_
      exact rfl
    · refine hy_iload (i := 5) rfl rfl ?_
      refine hy_const (i := 6) rfl (by decide) ?_
      refine hy_const (i := 7) rfl (by decide) ?_
      refine hy_cS3e (i := 8) rfl (by decide) mj_M_in (by decide) rfl (Nat.le_of_ble_eq_true rfl) (c_M_in) ?_
      refine hy_ib_ne (i := 9) (tt := 18) rfl (fun zc2 => ?_) (fun zc2 => ?_)
      · simp at zc1 zc2; omega
      · refine hy_aload (i := 10) rfl rfl ?_
        refine hy_iload (i := 11) rfl rfl ?_
        refine hy_const (i := 12) rfl (by decide) ?_
        refine hy_isubw (i := 13) rfl ?_
        refine hy_cV1e (i := 14) rfl mj_M_isPlain (by decide) rfl (Nat.le_of_ble_eq_true rfl) rfl rfl rfl (c_M_isPlain) ?_
        refine hy_ib_ne (i := 15) (tt := 18) rfl (fun zc3 => ?_) (fun zc3 => ?_)
        · rw [h0, sp_told_0, Bool.false_and] at zc3; cases zc3
        · refine hy_const (i := 16) rfl (by decide) ?_
          refine hy_ireturn (i := 17) rfl rfl ?_
          exact rfl
theorem c_M_painting0 {cs w : Int} (h0 : t 59 0 = 0) : hy_Ct sc hm_M_painting 6 [.inr (some 59), .inl cs, .inl w] t (hy_r (if cs = 0 ∧ 0 ≤ w ∧ w < 3 then (if w = 0 then 24 else 0) else -1)) := by
  refine hy_mk_ct ok_M_painting ck_M_painting (Nat.le_of_ble_eq_true rfl) ?_
  by_cases hq : cs = 0 ∧ 0 ≤ w ∧ w < 3
  · rw [if_pos hq]
    obtain ⟨rfl, hw⟩ := hq
    have loop : ∀ (m : Nat), ∀ (k : Nat) (f : Int), m + k = 24 → (f = -1 ∧ k = 0 ∨ f = 0 ∧ 0 < k) → hy_W sc hm_M_painting 6 25 [.inr (some 59), .inl 0, .inl w, .inl (k : Int), .inl f, .inl (k : Int)] [] t (hy_r (if w = 0 then 24 else 0)) := by
      intro m
      induction m with
      | zero =>
        intro k f hm hf
        obtain rfl : k = 24 := by omega
        obtain rfl : f = 0 := by omega
        refine hy_iload (i := 25) rfl rfl ?_
        refine hy_const (i := 26) rfl (by decide) ?_
        refine hy_ic_ge (i := 27) (tt := 55) rfl (fun zc1 => ?_) (fun zc1 => ?_)
        · refine hy_iload (i := 55) rfl rfl ?_
          refine hy_if_ne (i := 56) (tt := 59) rfl (fun zc2 => ?_) (fun zc2 => ?_)
          · refine hy_iload (i := 59) rfl rfl ?_
            refine hy_const (i := 60) rfl (by decide) ?_
            refine hy_ic_ne (i := 61) (tt := 64) rfl (fun zc3 => ?_) (fun zc3 => ?_)
            · refine hy_iload (i := 64) rfl rfl ?_
              refine hy_const (i := 65) rfl (by decide) ?_
              refine hy_ic_ne (i := 66) (tt := 71) rfl (fun zc4 => ?_) (fun zc4 => ?_)
              · refine hy_iload (i := 71) rfl rfl ?_
                refine hy_const (i := 72) rfl (by decide) ?_
                refine hy_irem (i := 73) rfl (by omega) (by omega) ?_
                refine hy_ireturn (i := 74) rfl rfl ?_
                exact congrArg some (by first | (rw [if_pos (by omega)]; rfl) | (rw [if_neg (by omega)]; rfl))
              · refine hy_iload (i := 67) rfl rfl ?_
                refine hy_const (i := 68) rfl (by decide) ?_
                refine hy_idiv (i := 69) rfl (by omega) (by omega) ?_
                refine hy_goto (i := 70) (tt := 74) rfl ?_
                refine hy_ireturn (i := 74) rfl rfl ?_
                exact congrArg some (by first | (rw [if_pos (by omega)]; rfl) | (rw [if_neg (by omega)]; rfl))
            · omega
          · refine hy_iload (i := 57) rfl rfl ?_
            refine hy_goto (i := 58) (tt := 74) rfl ?_
            refine hy_ireturn (i := 74) rfl rfl ?_
            exact congrArg some (by first | (rw [if_pos (by omega)]; rfl) | (rw [if_neg (by omega)]; rfl))
        · omega
      | succ m ih =>
        intro k f hm hf
        refine hy_iload (i := 25) rfl rfl ?_
        refine hy_const (i := 26) rfl (by decide) ?_
        refine hy_ic_ge (i := 27) (tt := 55) rfl (fun zc1 => ?_) (fun zc1 => ?_)
        · omega
        · refine hy_iload (i := 28) rfl rfl ?_
          refine hy_aload (i := 29) rfl rfl ?_
          refine hy_iload (i := 30) rfl rfl ?_
          refine hy_const (i := 31) rfl (by decide) ?_
          refine hy_idiv (i := 32) rfl (by omega) (by omega) ?_
          refine hy_iload (i := 33) rfl rfl ?_
          refine hy_const (i := 34) rfl (by decide) ?_
          refine hy_irem (i := 35) rfl (by omega) (by omega) ?_
          refine hy_cV2e (i := 36) rfl mj_M_seenBy (by decide) rfl (Nat.le_of_ble_eq_true rfl) rfl rfl rfl (c_M_seenBy0 h0) ?_
          refine hy_const (i := 37) rfl (by decide) ?_
          refine hy_ixor (i := 38) rfl ?_
          refine hy_iand (i := 39) rfl ?_
          refine hy_if_eq (i := 40) (tt := 42) rfl (fun zc2 => ?_) (fun zc2 => ?_)
          · refine hy_iload (i := 42) rfl rfl ?_
            refine hy_const (i := 43) rfl (by decide) ?_
            refine hy_ic_ne (i := 44) (tt := 47) rfl (fun zc3 => ?_) (fun zc3 => ?_)
            · refine hy_iload (i := 47) rfl rfl ?_
              refine hy_istore (i := 48) rfl ?_
              refine hy_iload (i := 49) rfl rfl ?_
              refine hy_const (i := 50) rfl (by decide) ?_
              refine hy_iadd (i := 51) rfl (by omega) ?_
              refine hy_istore (i := 52) rfl ?_
              refine hy_iinc (i := 53) rfl rfl (by omega) ?_
              refine hy_goto (i := 54) (tt := 25) rfl ?_
              exact ih (k + 1) _ (by omega) (by omega)
            · refine hy_iload (i := 45) rfl rfl ?_
              refine hy_goto (i := 46) (tt := 48) rfl ?_
              refine hy_istore (i := 48) rfl ?_
              refine hy_iload (i := 49) rfl rfl ?_
              refine hy_const (i := 50) rfl (by decide) ?_
              refine hy_iadd (i := 51) rfl (by omega) ?_
              refine hy_istore (i := 52) rfl ?_
              refine hy_iinc (i := 53) rfl rfl (by omega) ?_
              refine hy_goto (i := 54) (tt := 25) rfl ?_
              exact ih (k + 1) _ (by omega) (by omega)
          · exact absurd (hz_iand_0 _) zc2
    refine hy_iload (i := 0) rfl rfl ?_
    refine hy_const (i := 1) rfl (by decide) ?_
    refine hy_const (i := 2) rfl (by decide) ?_
    refine hy_cS3e (i := 3) rfl (by decide) mj_M_in (by decide) rfl (Nat.le_of_ble_eq_true rfl) (c_M_in) ?_
    refine hy_ib_eq (i := 4) (tt := 17) rfl (fun zc1 => ?_) (fun zc1 => ?_)
    · simp at zc1
    · refine hy_iload (i := 5) rfl rfl ?_
      refine hy_aload (i := 6) rfl rfl ?_
      refine hy_get (i := 7) (fk := 0) rfl rfl rfl ?_
      refine hy_const (i := 8) rfl (by decide) ?_
      refine hy_ixor (i := 9) rfl ?_
      refine hy_iand (i := 10) rfl ?_
      refine hy_if_ne (i := 11) (tt := 17) rfl (fun zc2 => ?_) (fun zc2 => ?_)
      · exact absurd (hz_iand_0 _) zc2
      · refine hy_iload (i := 12) rfl rfl ?_
        refine hy_const (i := 13) rfl (by decide) ?_
        refine hy_const (i := 14) rfl (by decide) ?_
        refine hy_cS3e (i := 15) rfl (by decide) mj_M_in (by decide) rfl (Nat.le_of_ble_eq_true rfl) (c_M_in) ?_
        refine hy_ib_ne (i := 16) (tt := 19) rfl (fun zc3 => ?_) (fun zc3 => ?_)
        · refine hy_const (i := 19) rfl (by decide) ?_
          refine hy_istore (i := 20) rfl ?_
          refine hy_const (i := 21) rfl (by decide) ?_
          refine hy_istore (i := 22) rfl ?_
          refine hy_const (i := 23) rfl (by decide) ?_
          refine hy_istore (i := 24) rfl ?_
          exact loop 24 0 _ rfl (.inl ⟨rfl, rfl⟩)
        · simp at zc3; omega
  · rw [if_neg hq]
    refine hy_iload (i := 0) rfl rfl ?_
    refine hy_const (i := 1) rfl (by decide) ?_
    refine hy_const (i := 2) rfl (by decide) ?_
    refine hy_cS3e (i := 3) rfl (by decide) mj_M_in (by decide) rfl (Nat.le_of_ble_eq_true rfl) (c_M_in) ?_
    refine hy_ib_eq (i := 4) (tt := 17) rfl (fun zc1 => ?_) (fun zc1 => ?_)
    · refine hy_const (i := 17) rfl (by decide) ?_
      refine hy_ireturn (i := 18) rfl rfl ?_
      exact rfl
    · refine hy_iload (i := 5) rfl rfl ?_
      refine hy_aload (i := 6) rfl rfl ?_
      refine hy_get (i := 7) (fk := 0) rfl rfl rfl ?_
      refine hy_const (i := 8) rfl (by decide) ?_
      refine hy_ixor (i := 9) rfl ?_
      refine hy_iand (i := 10) rfl ?_
      refine hy_if_ne (i := 11) (tt := 17) rfl (fun zc2 => ?_) (fun zc2 => ?_)
      · refine hy_const (i := 17) rfl (by decide) ?_
        refine hy_ireturn (i := 18) rfl rfl ?_
        exact rfl
      · refine hy_iload (i := 12) rfl rfl ?_
        refine hy_const (i := 13) rfl (by decide) ?_
        refine hy_const (i := 14) rfl (by decide) ?_
        refine hy_cS3e (i := 15) rfl (by decide) mj_M_in (by decide) rfl (Nat.le_of_ble_eq_true rfl) (c_M_in) ?_
        refine hy_ib_ne (i := 16) (tt := 19) rfl (fun zc3 => ?_) (fun zc3 => ?_)
        · exfalso; simp only [decide_eq_true_eq, decide_eq_false_iff_not] at zc1 zc3; rw [h0, hz_iand_n0 (show hy_R cs from ⟨by omega, by omega⟩)] at zc2; omega
        · refine hy_const (i := 17) rfl (by decide) ?_
          refine hy_ireturn (i := 18) rfl rfl ?_
          exact rfl
theorem c_M_laysAll0 {q : Int} (h0 : t 59 0 = 0) : hy_Ct sc hm_M_laysAll 7 [.inr (some 59), .inl q] t (fun r t' => r = none ∧ hy_F (fun r _ => r == 79 || r == 98) t t') := by
  refine hy_mk_ct ok_M_laysAll ck_M_laysAll (Nat.le_of_ble_eq_true rfl) ?_
  have loop : ∀ (m : Nat), ∀ (k : Nat) (t1 : hy_T) (v3 : hy_V), m + k = 6 → hy_F (fun r _ => r == 79 || r == 98) t t1 → hy_W sc hm_M_laysAll 7 2 [.inr (some 59), .inl q, .inl (k : Int), v3] [] t1 (fun r t' => r = none ∧ hy_F (fun r _ => r == 79 || r == 98) t t') := by
    intro m
    induction m with
    | zero =>
      intro k t1 v3 hm hF
      refine hy_iload (i := 2) rfl rfl ?_
      refine hy_const (i := 3) rfl (by decide) ?_
      refine hy_ic_ge (i := 4) (tt := 30) rfl (fun zc1 => ?_) (fun zc1 => ?_)
      · refine hy_return (i := 30) rfl rfl ?_
        exact ⟨rfl, hF⟩
      · omega
    | succ m ih =>
      intro k t1 v3 hm hF
      have inner : ∀ (m2 : Nat), ∀ (c : Nat) (t2 : hy_T), m2 + c = 12 → hy_F (fun r _ => r == 79 || r == 98) t t2 → hy_W sc hm_M_laysAll 7 11 [.inr (some 59), .inl q, .inl (k : Int), .inl (c : Int)] [] t2 (fun r t' => r = none ∧ hy_F (fun r _ => r == 79 || r == 98) t t') := by
        intro m2
        induction m2 with
        | zero =>
          intro c t2 hm2 hF2
          refine hy_iload (i := 11) rfl rfl ?_
          refine hy_const (i := 12) rfl (by decide) ?_
          refine hy_ic_ge (i := 13) (tt := 28) rfl (fun zc1 => ?_) (fun zc1 => ?_)
          · refine hy_iinc (i := 28) rfl rfl (by omega) ?_
            refine hy_goto (i := 29) (tt := 2) rfl ?_
            exact ih (k + 1) _ _ (by omega) hF2
          · omega
        | succ m2 ih2 =>
          intro c t2 hm2 hF2
          refine hy_iload (i := 11) rfl rfl ?_
          refine hy_const (i := 12) rfl (by decide) ?_
          refine hy_ic_ge (i := 13) (tt := 28) rfl (fun zc1 => ?_) (fun zc1 => ?_)
          · omega
          · refine hy_aload (i := 14) rfl rfl ?_
            refine hy_getr (i := 15) rfl rfl ?_
            refine hy_const (i := 16) rfl (by decide) ?_
            refine hy_iload (i := 17) rfl rfl ?_
            refine hy_imul (i := 18) rfl (by omega) ?_
            refine hy_iload (i := 19) rfl rfl ?_
            refine hy_iadd (i := 20) rfl (by omega) ?_
            refine hy_aload (i := 21) rfl rfl ?_
            refine hy_getr (i := 22) rfl rfl ?_
            refine hy_iload (i := 23) rfl rfl ?_
            refine hy_iald (i := 24) rfl rfl (by omega) rfl ?_
            refine hy_iast (i := 25) rfl rfl (by omega) rfl ?_
            refine hy_iinc (i := 26) rfl rfl (by omega) ?_
            refine hy_goto (i := 27) (tt := 11) rfl ?_
            exact ih2 (c + 1) _ (by omega) (hF2.up rfl)
      refine hy_iload (i := 2) rfl rfl ?_
      refine hy_const (i := 3) rfl (by decide) ?_
      refine hy_ic_ge (i := 4) (tt := 30) rfl (fun zc1 => ?_) (fun zc1 => ?_)
      · omega
      · refine hy_aload (i := 5) rfl rfl ?_
        refine hy_iload (i := 6) rfl rfl ?_
        refine hy_iload (i := 7) rfl rfl ?_
        refine hy_cV2v (i := 8) rfl mj_M_laysAs (by decide) rfl (Nat.le_of_ble_eq_true rfl) rfl rfl rfl (c_M_laysAs0 ((hF 59 0 rfl).trans h0)) ?_
        refine hy_const (i := 9) rfl (by decide) ?_
        refine hy_istore (i := 10) rfl ?_
        exact inner 12 0 _ rfl (hF.tr' ((mf_as0N_F t1 12).w (fun r j q => by revert q; simp; omega)))
  refine hy_const (i := 0) rfl (by decide) ?_
  refine hy_istore (i := 1) rfl ?_
  exact loop 6 0 t _ rfl hy_F.rf
theorem c_M_signals0 {n fr fo q w : Int} (h0 : t 59 0 = 0) : hy_Ct sc hm_M_signals 8 [.inr (some 59), .inl n, .inl fr, .inl fo, .inl q, .inl w] t (hy_r (if wf_sigok n fr fo q w then (if w = 1 then -2 else 0) else -1)) := by
  refine hy_mk_ct ok_M_signals ck_M_signals (Nat.le_of_ble_eq_true rfl) ?_
  by_cases hq : wf_sigok n fr fo q w
  · rw [if_pos hq]
    have loop : ∀ (t1 : hy_T), t1 59 0 = 0 → ∀ (m : Nat), ∀ (k : Nat), m + k = 4096 → hy_W sc hm_M_signals 8 43 [.inr (some 59), .inl n, .inl fr, .inl fo, .inl q, .inl w, .inl 0, .inl (-2), .inl 0, .inl (k : Int)] [] t1 (hy_r (if w = 1 then -2 else 0)) := by
      intro t1 h1 m
      induction m with
      | zero =>
        intro k hm
        refine hy_iload (i := 43) rfl rfl ?_
        refine hy_const (i := 44) rfl (by decide) ?_
        refine hy_ic_ge (i := 45) (tt := 88) rfl (fun zc1 => ?_) (fun zc1 => ?_)
        · refine hy_iload (i := 88) rfl rfl ?_
          refine hy_if_ne (i := 89) (tt := 92) rfl (fun zc2 => ?_) (fun zc2 => ?_)
          · refine hy_iload (i := 92) rfl rfl ?_
            refine hy_const (i := 93) rfl (by decide) ?_
            refine hy_ic_ne (i := 94) (tt := 97) rfl (fun zc3 => ?_) (fun zc3 => ?_)
            · refine hy_iload (i := 97) rfl rfl ?_
              refine hy_ireturn (i := 98) rfl rfl ?_
              exact congrArg some (by first | rw [if_pos (by omega)] | rw [if_neg (by omega)])
            · refine hy_iload (i := 95) rfl rfl ?_
              refine hy_goto (i := 96) (tt := 98) rfl ?_
              refine hy_ireturn (i := 98) rfl rfl ?_
              exact congrArg some (by first | rw [if_pos (by omega)] | rw [if_neg (by omega)])
          · refine hy_iload (i := 90) rfl rfl ?_
            refine hy_goto (i := 91) (tt := 98) rfl ?_
            refine hy_ireturn (i := 98) rfl rfl ?_
            exact congrArg some (by first | rw [if_pos (by omega)] | rw [if_neg (by omega)])
        · omega
      | succ m ih =>
        intro k hm
        by_cases hk : k = 0
        · subst hk
          refine hy_iload (i := 43) rfl rfl ?_
          refine hy_const (i := 44) rfl (by decide) ?_
          refine hy_ic_ge (i := 45) (tt := 88) rfl (fun zc1 => ?_) (fun zc1 => ?_)
          · omega
          · refine hy_iload (i := 46) rfl rfl ?_
            refine hy_aload (i := 47) rfl rfl ?_
            refine hy_get (i := 48) (fk := 0) rfl rfl rfl ?_
            refine hy_const (i := 49) rfl (by decide) ?_
            refine hy_ixor (i := 50) rfl ?_
            refine hy_iand (i := 51) rfl ?_
            refine hy_if_ne (i := 52) (tt := 86) rfl (fun zc2 => ?_) (fun zc2 => ?_)
            · refine hy_iinc (i := 86) rfl rfl (by omega) ?_
              refine hy_goto (i := 87) (tt := 43) rfl ?_
              exact ih 1 (by omega)
            · refine hy_iload (i := 53) rfl rfl ?_
              refine hy_cS1e (i := 54) rfl (by decide) mj_M_bits (by decide) rfl (Nat.le_of_ble_eq_true rfl) (c_M_bits) ?_
              refine hy_const (i := 55) rfl (by decide) ?_
              refine hy_const (i := 56) rfl (by decide) ?_
              rw [show mf_bitsN ((0 : Nat) : Int) 12 = 0 from mf_bitsN_0 12]
              refine hy_cS3e (i := 57) rfl (by decide) mj_M_in (by decide) rfl (Nat.le_of_ble_eq_true rfl) (c_M_in) ?_
              refine hy_ib_eq (i := 58) (tt := 86) rfl (fun zc3 => ?_) (fun zc3 => ?_)
              · refine hy_iinc (i := 86) rfl rfl (by omega) ?_
                refine hy_goto (i := 87) (tt := 43) rfl ?_
                exact ih 1 (by omega)
              · simp at zc3
        · skip
          refine hy_iload (i := 43) rfl rfl ?_
          refine hy_const (i := 44) rfl (by decide) ?_
          refine hy_ic_ge (i := 45) (tt := 88) rfl (fun zc1 => ?_) (fun zc1 => ?_)
          · omega
          · refine hy_iload (i := 46) rfl rfl ?_
            refine hy_aload (i := 47) rfl rfl ?_
            refine hy_get (i := 48) (fk := 0) rfl rfl rfl ?_
            refine hy_const (i := 49) rfl (by decide) ?_
            refine hy_ixor (i := 50) rfl ?_
            refine hy_iand (i := 51) rfl ?_
            refine hy_if_ne (i := 52) (tt := 86) rfl (fun zc2 => ?_) (fun zc2 => ?_)
            · refine hy_iinc (i := 86) rfl rfl (by omega) ?_
              refine hy_goto (i := 87) (tt := 43) rfl ?_
              exact ih (k + 1) (by omega)
            · rw [h1, hz_iand_n0 (show hy_R k from ⟨by omega, by omega⟩)] at zc2; omega
    have fin : hy_W sc hm_M_signals 8 32 [.inr (some 59), .inl n, .inl fr, .inl fo, .inl q, .inl w, .inr none, .inr none, .inr none, .inr none] [] t (hy_r (if w = 1 then -2 else 0)) := by
      refine hy_aload (i := 32) rfl rfl ?_
      refine hy_iload (i := 33) rfl rfl ?_
      refine hy_cV1 (i := 34) rfl mj_M_laysAll (by decide) rfl (Nat.le_of_ble_eq_true rfl) rfl rfl rfl (c_M_laysAll0 h0) (fun r1_ t1_ h1 => ?_)
      obtain ⟨rfl, hF1⟩ := h1
      dsimp only [hy_st, List.nil_append]
      refine hy_const (i := 35) rfl (by decide) ?_
      refine hy_istore (i := 36) rfl ?_
      refine hy_const (i := 37) rfl (by decide) ?_
      refine hy_istore (i := 38) rfl ?_
      refine hy_const (i := 39) rfl (by decide) ?_
      refine hy_istore (i := 40) rfl ?_
      refine hy_const (i := 41) rfl (by decide) ?_
      refine hy_istore (i := 42) rfl ?_
      exact loop _ ((hF1 59 0 rfl).trans h0) 4096 0 rfl
    refine hy_iload (i := 0) rfl rfl ?_
    refine hy_const (i := 1) rfl (by decide) ?_
    refine hy_const (i := 2) rfl (by decide) ?_
    refine hy_cS3e (i := 3) rfl (by decide) mj_M_in (by decide) rfl (Nat.le_of_ble_eq_true rfl) (c_M_in) ?_
    refine hy_ib_eq (i := 4) (tt := 30) rfl (fun zc1 => ?_) (fun zc1 => ?_)
    · simp at zc1; omega
    · refine hy_iload (i := 5) rfl rfl ?_
      refine hy_const (i := 6) rfl (by decide) ?_
      refine hy_const (i := 7) rfl (by decide) ?_
      refine hy_cS3e (i := 8) rfl (by decide) mj_M_in (by decide) rfl (Nat.le_of_ble_eq_true rfl) (c_M_in) ?_
      refine hy_ib_eq (i := 9) (tt := 30) rfl (fun zc2 => ?_) (fun zc2 => ?_)
      · simp at zc2; omega
      · refine hy_iload (i := 10) rfl rfl ?_
        refine hy_iload (i := 11) rfl rfl ?_
        refine hy_iand (i := 12) rfl ?_
        refine hy_if_ne (i := 13) (tt := 30) rfl (fun zc3 => ?_) (fun zc3 => ?_)
        · exact absurd hq.2.1.1 (by assumption)
        · refine hy_iload (i := 14) rfl rfl ?_
          refine hy_cS1e (i := 15) rfl (by decide) mj_M_isQuarter (by decide) rfl (Nat.le_of_ble_eq_true rfl) (c_M_isQuarter) ?_
          refine hy_ib_eq (i := 16) (tt := 30) rfl (fun zc4 => ?_) (fun zc4 => ?_)
          · simp at zc4; omega
          · refine hy_iload (i := 17) rfl rfl ?_
            refine hy_const (i := 18) rfl (by decide) ?_
            refine hy_const (i := 19) rfl (by decide) ?_
            refine hy_cS3e (i := 20) rfl (by decide) mj_M_in (by decide) rfl (Nat.le_of_ble_eq_true rfl) (c_M_in) ?_
            refine hy_ib_eq (i := 21) (tt := 30) rfl (fun zc5 => ?_) (fun zc5 => ?_)
            · simp at zc5; omega
            · refine hy_iload (i := 22) rfl rfl ?_
              refine hy_const (i := 23) rfl (by decide) ?_
              refine hy_ic_ge (i := 24) (tt := 32) rfl (fun zc6 => ?_) (fun zc6 => ?_)
              · exact fin
              · refine hy_iload (i := 25) rfl rfl ?_
                refine hy_const (i := 26) rfl (by decide) ?_
                refine hy_const (i := 27) rfl (by decide) ?_
                refine hy_cS3e (i := 28) rfl (by decide) mj_M_in (by decide) rfl (Nat.le_of_ble_eq_true rfl) (c_M_in) ?_
                refine hy_ib_ne (i := 29) (tt := 32) rfl (fun zc7 => ?_) (fun zc7 => ?_)
                · exact fin
                · simp at zc7; omega
  · rw [if_neg hq]
    have no : ∀ (a : 1 ≤ fr ∧ fr ≤ 63) (b : 0 ≤ fo ∧ fo ≤ 63) (c : hz_iand fr fo = 0) (d : 0 ≤ q ∧ q < 4) (e : 0 ≤ w ∧ w ≤ 2) (f : w = 2 ∨ 2 ≤ n ∧ n ≤ 6), False := fun a b c d e f => hq ⟨⟨⟨by omega, by omega⟩, by omega, by omega⟩, ⟨c, d, by omega, by omega⟩, f⟩
    refine hy_iload (i := 0) rfl rfl ?_
    refine hy_const (i := 1) rfl (by decide) ?_
    refine hy_const (i := 2) rfl (by decide) ?_
    refine hy_cS3e (i := 3) rfl (by decide) mj_M_in (by decide) rfl (Nat.le_of_ble_eq_true rfl) (c_M_in) ?_
    refine hy_ib_eq (i := 4) (tt := 30) rfl (fun zc1 => ?_) (fun zc1 => ?_)
    · refine hy_const (i := 30) rfl (by decide) ?_
      refine hy_ireturn (i := 31) rfl rfl ?_
      exact rfl
    · refine hy_iload (i := 5) rfl rfl ?_
      refine hy_const (i := 6) rfl (by decide) ?_
      refine hy_const (i := 7) rfl (by decide) ?_
      refine hy_cS3e (i := 8) rfl (by decide) mj_M_in (by decide) rfl (Nat.le_of_ble_eq_true rfl) (c_M_in) ?_
      refine hy_ib_eq (i := 9) (tt := 30) rfl (fun zc2 => ?_) (fun zc2 => ?_)
      · refine hy_const (i := 30) rfl (by decide) ?_
        refine hy_ireturn (i := 31) rfl rfl ?_
        exact rfl
      · refine hy_iload (i := 10) rfl rfl ?_
        refine hy_iload (i := 11) rfl rfl ?_
        refine hy_iand (i := 12) rfl ?_
        refine hy_if_ne (i := 13) (tt := 30) rfl (fun zc3 => ?_) (fun zc3 => ?_)
        · refine hy_const (i := 30) rfl (by decide) ?_
          refine hy_ireturn (i := 31) rfl rfl ?_
          exact rfl
        · refine hy_iload (i := 14) rfl rfl ?_
          refine hy_cS1e (i := 15) rfl (by decide) mj_M_isQuarter (by decide) rfl (Nat.le_of_ble_eq_true rfl) (c_M_isQuarter) ?_
          refine hy_ib_eq (i := 16) (tt := 30) rfl (fun zc4 => ?_) (fun zc4 => ?_)
          · refine hy_const (i := 30) rfl (by decide) ?_
            refine hy_ireturn (i := 31) rfl rfl ?_
            exact rfl
          · refine hy_iload (i := 17) rfl rfl ?_
            refine hy_const (i := 18) rfl (by decide) ?_
            refine hy_const (i := 19) rfl (by decide) ?_
            refine hy_cS3e (i := 20) rfl (by decide) mj_M_in (by decide) rfl (Nat.le_of_ble_eq_true rfl) (c_M_in) ?_
            refine hy_ib_eq (i := 21) (tt := 30) rfl (fun zc5 => ?_) (fun zc5 => ?_)
            · refine hy_const (i := 30) rfl (by decide) ?_
              refine hy_ireturn (i := 31) rfl rfl ?_
              exact rfl
            · refine hy_iload (i := 22) rfl rfl ?_
              refine hy_const (i := 23) rfl (by decide) ?_
              refine hy_ic_ge (i := 24) (tt := 32) rfl (fun zc6 => ?_) (fun zc6 => ?_)
              · exfalso; simp only [decide_eq_true_eq] at zc1 zc2 zc4 zc5; exact no zc1 zc2 (by first | assumption | exact Classical.byContradiction (by assumption)) zc4 zc5 (.inl (by omega))
              · refine hy_iload (i := 25) rfl rfl ?_
                refine hy_const (i := 26) rfl (by decide) ?_
                refine hy_const (i := 27) rfl (by decide) ?_
                refine hy_cS3e (i := 28) rfl (by decide) mj_M_in (by decide) rfl (Nat.le_of_ble_eq_true rfl) (c_M_in) ?_
                refine hy_ib_ne (i := 29) (tt := 32) rfl (fun zc7 => ?_) (fun zc7 => ?_)
                · exfalso; simp only [decide_eq_true_eq] at zc1 zc2 zc4 zc5 zc7; exact no zc1 zc2 (by first | assumption | exact Classical.byContradiction (by assumption)) zc4 zc5 (.inr zc7)
                · refine hy_const (i := 30) rfl (by decide) ?_
                  refine hy_ireturn (i := 31) rfl rfl ?_
                  exact rfl
theorem c_M_canTake0 {e o c q : Int} (h0 : t 59 0 = 0) : hy_Ct sc hm_M_canTake 3 [.inr (some 59), .inl e, .inl o, .inl c, .inl q] t (hy_e (some 0) t) := by
  refine hy_mk_ct ok_M_canTake ck_M_canTake (Nat.le_of_ble_eq_true rfl) ?_
  refine hy_aload (i := 0) rfl rfl ?_
  refine hy_iload (i := 1) rfl rfl ?_
  refine hy_cV1e (i := 2) rfl mj_M_isPlain (by decide) rfl (Nat.le_of_ble_eq_true rfl) rfl rfl rfl (c_M_isPlain) ?_
  refine hy_ib_eq (i := 3) (tt := 28) rfl (fun zc1 => ?_) (fun zc1 => ?_)
  · refine hy_const (i := 28) rfl (by decide) ?_
    refine hy_zreturn (i := 29) rfl rfl (by first | decide | exact hy_b01 _) ?_
    exact ⟨rfl, rfl⟩
  · rw [h0, sp_told_0, Bool.false_and] at zc1; cases zc1
theorem c_M_laysFights0 {a b q : Int} (h0 : t 59 0 = 0) : hy_Ct sc hm_M_laysFights 7 [.inr (some 59), .inl a, .inl b, .inl q] t (fun r t' => r = none ∧ ∀ c : Nat, c < 144 → t' 101 c = 0) := by
  refine hy_mk_ct ok_M_laysFights ck_M_laysFights (Nat.le_of_ble_eq_true rfl) ?_
  have loop : ∀ (m : Nat), ∀ (k : Nat) (t1 : hy_T) (v5 v6 : hy_V), m + k = 144 → t1 59 0 = 0 → (∀ c : Nat, c < k → t1 101 c = 0) → hy_W sc hm_M_laysFights 7 4 [.inr (some 59), .inl a, .inl b, .inl q, .inl (k : Int), v5, v6] [] t1 (fun r t' => r = none ∧ ∀ c : Nat, c < 144 → t' 101 c = 0) := by
    intro m
    induction m with
    | zero =>
      intro k t1 v5 v6 hm h1 hp
      obtain rfl : k = 144 := by omega
      refine hy_iload (i := 4) rfl rfl ?_
      refine hy_const (i := 5) rfl (by decide) ?_
      refine hy_ic_ge (i := 6) (tt := 94) rfl (fun zc1 => ?_) (fun zc1 => ?_)
      · refine hy_return (i := 94) rfl rfl ?_
        exact ⟨rfl, hp⟩
      · omega
    | succ m ih =>
      intro k t1 v5 v6 hm h1 hp
      refine hy_iload (i := 4) rfl rfl ?_
      refine hy_const (i := 5) rfl (by decide) ?_
      refine hy_ic_ge (i := 6) (tt := 94) rfl (fun zc1 => ?_) (fun zc1 => ?_)
      · omega
      · refine hy_iload (i := 7) rfl rfl ?_
        refine hy_const (i := 8) rfl (by decide) ?_
        refine hy_idiv (i := 9) rfl (by omega) (by omega) ?_
        refine hy_istore (i := 10) rfl ?_
        refine hy_iload (i := 11) rfl rfl ?_
        refine hy_const (i := 12) rfl (by decide) ?_
        refine hy_irem (i := 13) rfl (by omega) (by omega) ?_
        refine hy_istore (i := 14) rfl ?_
        refine hy_aload (i := 15) rfl rfl ?_
        refine hy_getr (i := 16) rfl rfl ?_
        refine hy_iload (i := 17) rfl rfl ?_
        refine hy_aload (i := 18) rfl rfl ?_
        refine hy_iload (i := 19) rfl rfl ?_
        refine hy_iload (i := 20) rfl rfl ?_
        refine hy_iload (i := 21) rfl rfl ?_
        refine hy_iload (i := 22) rfl rfl ?_
        refine hy_cV4e (i := 23) rfl mj_M_canTake (by decide) rfl (Nat.le_of_ble_eq_true rfl) rfl rfl rfl (c_M_canTake0 h1) ?_
        refine hy_if_eq (i := 24) (tt := 34) rfl (fun zc2 => ?_) (fun zc2 => ?_)
        · refine hy_const (i := 34) rfl (by decide) ?_
          refine hy_zast (i := 35) rfl rfl (by omega) (k := k) (by omega) (.inl rfl) ?_
          refine hy_aload (i := 36) rfl rfl ?_
          refine hy_getr (i := 37) rfl rfl ?_
          refine hy_iload (i := 38) rfl rfl ?_
          refine hy_bald (i := 39) rfl rfl (by decide) (by omega) (k := k) (by omega) ?_
          rw [show hy_up t1 101 k 0 101 k = 0 by simp [hy_up]]
          refine hy_if_ne (i := 40) (tt := 42) rfl (fun zc3 => ?_) (fun zc3 => ?_)
          · exact absurd rfl zc3
          · refine hy_goto (i := 41) (tt := 92) rfl ?_
            refine hy_iinc (i := 92) rfl rfl (by omega) ?_
            refine hy_goto (i := 93) (tt := 4) rfl ?_
            refine ih (k + 1) _ _ _ (by omega) h1 (fun c hc => ?_)
            by_cases e : c = k
            · rw [e]; simp [hy_up]
            · rw [show hy_up t1 101 k 0 101 c = t1 101 c by simp [hy_up, e]]; exact hp c (by omega)
        · exact absurd rfl zc2
  refine hy_aload (i := 0) rfl rfl ?_
  refine hy_cV0v (i := 1) rfl mj_M_begins (by decide) rfl (Nat.le_of_ble_eq_true rfl) rfl rfl rfl (c_M_begins) ?_
  refine hy_const (i := 2) rfl (by decide) ?_
  refine hy_istore (i := 3) rfl ?_
  exact loop 144 0 _ _ _ rfl ((mf_begins_0 t (by decide)).trans h0) (fun c hc => by omega)
theorem c_M_battle0 {a b q w : Int} (h0 : t 59 0 = 0) : hy_Ct sc hm_M_battle 8 [.inr (some 59), .inl a, .inl b, .inl q, .inl w] t (hy_r (if (((0 ≤ a ∧ a < 6) ∧ 0 ≤ b ∧ b < 6) ∧ a ≠ b) ∧ (0 ≤ q ∧ q < 4) ∧ 0 ≤ w ∧ w < 3 then (if w = 0 then 0 else -2) else -1)) := by
  refine hy_mk_ct ok_M_battle ck_M_battle (Nat.le_of_ble_eq_true rfl) ?_
  by_cases hq : (((0 ≤ a ∧ a < 6) ∧ 0 ≤ b ∧ b < 6) ∧ a ≠ b) ∧ (0 ≤ q ∧ q < 4) ∧ 0 ≤ w ∧ w < 3
  · rw [if_pos hq]
    have loop : ∀ (t1 : hy_T), (∀ c : Nat, c < 144 → t1 101 c = 0) → ∀ (m : Nat), ∀ (k : Nat), m + k = 144 → hy_W sc hm_M_battle 8 30 [.inr (some 59), .inl a, .inl b, .inl q, .inl w, .inl 0, .inl (-1), .inl (k : Int)] [] t1 (hy_r (if w = 0 then 0 else -2)) := by
      intro t1 h1 m
      induction m with
      | zero =>
        intro k hm
        refine hy_iload (i := 30) rfl rfl ?_
        refine hy_const (i := 31) rfl (by decide) ?_
        refine hy_ic_ge (i := 32) (tt := 56) rfl (fun zc1 => ?_) (fun zc1 => ?_)
        · refine hy_iload (i := 56) rfl rfl ?_
          refine hy_if_ne (i := 57) (tt := 60) rfl (fun zc2 => ?_) (fun zc2 => ?_)
          · refine hy_iload (i := 60) rfl rfl ?_
            refine hy_const (i := 61) rfl (by decide) ?_
            refine hy_ic_ne (i := 62) (tt := 65) rfl (fun zc3 => ?_) (fun zc3 => ?_)
            · omega
            · refine hy_const (i := 63) rfl (by decide) ?_
              refine hy_goto (i := 64) (tt := 75) rfl ?_
              refine hy_ireturn (i := 75) rfl rfl ?_
              exact congrArg some (by first | rw [if_pos (by omega)] | rw [if_neg (by omega)])
          · refine hy_iload (i := 58) rfl rfl ?_
            refine hy_goto (i := 59) (tt := 75) rfl ?_
            refine hy_ireturn (i := 75) rfl rfl ?_
            exact congrArg some (by first | rw [if_pos (by omega)] | rw [if_neg (by omega)])
        · omega
      | succ m ih =>
        intro k hm
        refine hy_iload (i := 30) rfl rfl ?_
        refine hy_const (i := 31) rfl (by decide) ?_
        refine hy_ic_ge (i := 32) (tt := 56) rfl (fun zc1 => ?_) (fun zc1 => ?_)
        · omega
        · refine hy_aload (i := 33) rfl rfl ?_
          refine hy_getr (i := 34) rfl rfl ?_
          refine hy_iload (i := 35) rfl rfl ?_
          refine hy_bald (i := 36) rfl rfl (by decide) (by omega) (k := k) (by omega) ?_
          refine hy_if_eq (i := 37) (tt := 54) rfl (fun zc2 => ?_) (fun zc2 => ?_)
          · refine hy_iinc (i := 54) rfl rfl (by omega) ?_
            refine hy_goto (i := 55) (tt := 30) rfl ?_
            exact ih (k + 1) (by omega)
          · exact absurd (h1 k (by omega)) zc2
    refine hy_iload (i := 0) rfl rfl ?_
    refine hy_cS1e (i := 1) rfl (by decide) mj_M_isEmpire (by decide) rfl (Nat.le_of_ble_eq_true rfl) (c_M_isEmpire) ?_
    refine hy_ib_eq (i := 2) (tt := 17) rfl (fun zc1 => ?_) (fun zc1 => ?_)
    · simp at zc1; omega
    · refine hy_iload (i := 3) rfl rfl ?_
      refine hy_cS1e (i := 4) rfl (by decide) mj_M_isEmpire (by decide) rfl (Nat.le_of_ble_eq_true rfl) (c_M_isEmpire) ?_
      refine hy_ib_eq (i := 5) (tt := 17) rfl (fun zc2 => ?_) (fun zc2 => ?_)
      · simp at zc2; omega
      · refine hy_iload (i := 6) rfl rfl ?_
        refine hy_iload (i := 7) rfl rfl ?_
        refine hy_ic_eq (i := 8) (tt := 17) rfl (fun zc3 => ?_) (fun zc3 => ?_)
        · omega
        · refine hy_iload (i := 9) rfl rfl ?_
          refine hy_cS1e (i := 10) rfl (by decide) mj_M_isQuarter (by decide) rfl (Nat.le_of_ble_eq_true rfl) (c_M_isQuarter) ?_
          refine hy_ib_eq (i := 11) (tt := 17) rfl (fun zc4 => ?_) (fun zc4 => ?_)
          · simp at zc4; omega
          · refine hy_iload (i := 12) rfl rfl ?_
            refine hy_const (i := 13) rfl (by decide) ?_
            refine hy_const (i := 14) rfl (by decide) ?_
            refine hy_cS3e (i := 15) rfl (by decide) mj_M_in (by decide) rfl (Nat.le_of_ble_eq_true rfl) (c_M_in) ?_
            refine hy_ib_ne (i := 16) (tt := 19) rfl (fun zc5 => ?_) (fun zc5 => ?_)
            · refine hy_aload (i := 19) rfl rfl ?_
              refine hy_iload (i := 20) rfl rfl ?_
              refine hy_iload (i := 21) rfl rfl ?_
              refine hy_iload (i := 22) rfl rfl ?_
              refine hy_cV3 (i := 23) rfl mj_M_laysFights (by decide) rfl (Nat.le_of_ble_eq_true rfl) rfl rfl rfl (c_M_laysFights0 h0) (fun r5_ t5_ h5 => ?_)
              obtain ⟨rfl, hX5⟩ := h5
              dsimp only [hy_st, List.nil_append]
              refine hy_const (i := 24) rfl (by decide) ?_
              refine hy_istore (i := 25) rfl ?_
              refine hy_const (i := 26) rfl (by decide) ?_
              refine hy_istore (i := 27) rfl ?_
              refine hy_const (i := 28) rfl (by decide) ?_
              refine hy_istore (i := 29) rfl ?_
              exact loop _ (by assumption) 144 0 rfl
            · simp at zc5; omega
  · rw [if_neg hq]
    refine hy_iload (i := 0) rfl rfl ?_
    refine hy_cS1e (i := 1) rfl (by decide) mj_M_isEmpire (by decide) rfl (Nat.le_of_ble_eq_true rfl) (c_M_isEmpire) ?_
    refine hy_ib_eq (i := 2) (tt := 17) rfl (fun zc1 => ?_) (fun zc1 => ?_)
    · refine hy_const (i := 17) rfl (by decide) ?_
      refine hy_ireturn (i := 18) rfl rfl ?_
      exact rfl
    · refine hy_iload (i := 3) rfl rfl ?_
      refine hy_cS1e (i := 4) rfl (by decide) mj_M_isEmpire (by decide) rfl (Nat.le_of_ble_eq_true rfl) (c_M_isEmpire) ?_
      refine hy_ib_eq (i := 5) (tt := 17) rfl (fun zc2 => ?_) (fun zc2 => ?_)
      · refine hy_const (i := 17) rfl (by decide) ?_
        refine hy_ireturn (i := 18) rfl rfl ?_
        exact rfl
      · refine hy_iload (i := 6) rfl rfl ?_
        refine hy_iload (i := 7) rfl rfl ?_
        refine hy_ic_eq (i := 8) (tt := 17) rfl (fun zc3 => ?_) (fun zc3 => ?_)
        · refine hy_const (i := 17) rfl (by decide) ?_
          refine hy_ireturn (i := 18) rfl rfl ?_
          exact rfl
        · refine hy_iload (i := 9) rfl rfl ?_
          refine hy_cS1e (i := 10) rfl (by decide) mj_M_isQuarter (by decide) rfl (Nat.le_of_ble_eq_true rfl) (c_M_isQuarter) ?_
          refine hy_ib_eq (i := 11) (tt := 17) rfl (fun zc4 => ?_) (fun zc4 => ?_)
          · refine hy_const (i := 17) rfl (by decide) ?_
            refine hy_ireturn (i := 18) rfl rfl ?_
            exact rfl
          · refine hy_iload (i := 12) rfl rfl ?_
            refine hy_const (i := 13) rfl (by decide) ?_
            refine hy_const (i := 14) rfl (by decide) ?_
            refine hy_cS3e (i := 15) rfl (by decide) mj_M_in (by decide) rfl (Nat.le_of_ble_eq_true rfl) (c_M_in) ?_
            refine hy_ib_ne (i := 16) (tt := 19) rfl (fun zc5 => ?_) (fun zc5 => ?_)
            · exfalso; simp only [decide_eq_true_eq] at zc1 zc2 zc4 zc5; exact hq ⟨⟨⟨zc1, zc2⟩, zc3⟩, zc4, by omega, by omega⟩
            · refine hy_const (i := 17) rfl (by decide) ?_
              refine hy_ireturn (i := 18) rfl rfl ?_
              exact rfl
end MD
/-! the model's seas -/
def mf_joins (t : hy_T) (a b : Int) : Bool × hy_T :=
  if b = -1 ∨ t 102 a.toNat = -1 ∨ t 102 b.toNat = -1 ∨ t 102 a.toNat = t 102 b.toNat then (false, t)
  else (true, hy_up (hy_up t 102 a.toNat (if t 102 a.toNat < t 102 b.toNat then t 102 a.toNat else t 102 b.toNat)) 102 b.toNat (if t 102 a.toNat < t 102 b.toNat then t 102 a.toNat else t 102 b.toNat))
def mf_seaP (t : hy_T) : Nat → Bool × hy_T
  | 0 => (false, t)
  | f + 1 =>
    let p := mf_seaP t f
    let j1 := mf_joins p.2 f (pa_beside f 0)
    let j2 := mf_joins j1.2 f (pa_beside f 2)
    (j2.1 || (j1.1 || p.1), j2.2)
def mf_sea0N (t : hy_T) : Nat → hy_T
  | 0 => t
  | f + 1 => hy_up (mf_sea0N t f) 102 f (if t 79 (t 63 f).toNat = 12 then (f : Int) else -1)
theorem mf_sea0N_F (t : hy_T) : ∀ n, hy_F (fun r _ => r == 102) t (mf_sea0N t n)
  | 0 => hy_F.rf
  | n + 1 => (mf_sea0N_F t n).up rfl
theorem mf_joins_F (t : hy_T) (a b : Int) : hy_F (fun r _ => r == 102) t (mf_joins t a b).2 := by
  unfold mf_joins
  split
  · exact hy_F.rf
  · exact (hy_F.rf.up rfl).up rfl
theorem mf_seaP_F (t : hy_T) : ∀ n, hy_F (fun r _ => r == 102) t (mf_seaP t n).2
  | 0 => hy_F.rf
  | n + 1 => ((mf_seaP_F t n).tr' (mf_joins_F _ _ _)).tr' (mf_joins_F _ _ _)
section ME
variable {sc : List Int32} {t : hy_T}
theorem c_M_beside {f s : Int} (hf : 0 ≤ f ∧ f < 64) (hs : 0 ≤ s ∧ s < 4) : hy_Ct sc hm_M_beside 1 [.inr (some 59), .inl f, .inl s] t (hy_e (some (pa_beside f s)) t) := by
  refine hy_mk_ct ok_M_beside ck_M_beside (Nat.le_of_ble_eq_true rfl) ?_
  refine hy_iload (i := 0) rfl rfl ?_
  refine hy_const (i := 1) rfl (by decide) ?_
  refine hy_irem (i := 2) rfl (by omega) (by omega) ?_
  refine hy_iload (i := 3) rfl rfl ?_
  refine hy_if_ne (i := 4) (tt := 7) rfl (fun zc1 => ?_) (fun zc1 => ?_)
  · refine hy_iload (i := 7) rfl rfl ?_
    refine hy_const (i := 8) rfl (by decide) ?_
    refine hy_ic_ne (i := 9) (tt := 12) rfl (fun zc2 => ?_) (fun zc2 => ?_)
    · refine hy_const (i := 12) rfl (by decide) ?_
      refine hy_iadd (i := 13) rfl (by omega) ?_
      refine hy_istore (i := 14) rfl ?_
      refine hy_iload (i := 15) rfl rfl ?_
      refine hy_const (i := 16) rfl (by decide) ?_
      refine hy_idiv (i := 17) rfl (by omega) (by omega) ?_
      refine hy_iload (i := 18) rfl rfl ?_
      refine hy_const (i := 19) rfl (by decide) ?_
      refine hy_ic_ne (i := 20) (tt := 23) rfl (fun zc3 => ?_) (fun zc3 => ?_)
      · refine hy_iload (i := 23) rfl rfl ?_
        refine hy_const (i := 24) rfl (by decide) ?_
        refine hy_ic_ne (i := 25) (tt := 28) rfl (fun zc4 => ?_) (fun zc4 => ?_)
        · refine hy_const (i := 28) rfl (by decide) ?_
          refine hy_iadd (i := 29) rfl (by omega) ?_
          refine hy_istore (i := 30) rfl ?_
          refine hy_iload (i := 31) rfl rfl ?_
          refine hy_const (i := 32) rfl (by decide) ?_
          refine hy_const (i := 33) rfl (by decide) ?_
          refine hy_cS3e (i := 34) rfl (by decide) mj_M_in (by decide) rfl (Nat.le_of_ble_eq_true rfl) (c_M_in) ?_
          refine hy_ib_eq (i := 35) (tt := 47) rfl (fun zc5 => ?_) (fun zc5 => ?_)
          · refine hy_const (i := 47) rfl (by decide) ?_
            refine hy_ireturn (i := 48) rfl rfl ?_
            refine ⟨congrArg some ?_, rfl⟩
            simp only [decide_eq_true_eq, decide_eq_false_iff_not] at *
            unfold pa_beside
            (repeat' split) <;> omega
          · refine hy_iload (i := 36) rfl rfl ?_
            refine hy_const (i := 37) rfl (by decide) ?_
            refine hy_const (i := 38) rfl (by decide) ?_
            refine hy_cS3e (i := 39) rfl (by decide) mj_M_in (by decide) rfl (Nat.le_of_ble_eq_true rfl) (c_M_in) ?_
            refine hy_ib_eq (i := 40) (tt := 47) rfl (fun zc6 => ?_) (fun zc6 => ?_)
            · refine hy_const (i := 47) rfl (by decide) ?_
              refine hy_ireturn (i := 48) rfl rfl ?_
              refine ⟨congrArg some ?_, rfl⟩
              simp only [decide_eq_true_eq, decide_eq_false_iff_not] at *
              unfold pa_beside
              (repeat' split) <;> omega
            · refine hy_const (i := 41) rfl (by decide) ?_
              refine hy_iload (i := 42) rfl rfl ?_
              refine hy_imul (i := 43) rfl (by omega) ?_
              refine hy_iload (i := 44) rfl rfl ?_
              refine hy_iadd (i := 45) rfl (by omega) ?_
              refine hy_goto (i := 46) (tt := 48) rfl ?_
              refine hy_ireturn (i := 48) rfl rfl ?_
              refine ⟨congrArg some ?_, rfl⟩
              simp only [decide_eq_true_eq, decide_eq_false_iff_not] at *
              unfold pa_beside
              (repeat' split) <;> omega
        · refine hy_const (i := 26) rfl (by decide) ?_
          refine hy_goto (i := 27) (tt := 29) rfl ?_
          refine hy_iadd (i := 29) rfl (by omega) ?_
          refine hy_istore (i := 30) rfl ?_
          refine hy_iload (i := 31) rfl rfl ?_
          refine hy_const (i := 32) rfl (by decide) ?_
          refine hy_const (i := 33) rfl (by decide) ?_
          refine hy_cS3e (i := 34) rfl (by decide) mj_M_in (by decide) rfl (Nat.le_of_ble_eq_true rfl) (c_M_in) ?_
          refine hy_ib_eq (i := 35) (tt := 47) rfl (fun zc5 => ?_) (fun zc5 => ?_)
          · refine hy_const (i := 47) rfl (by decide) ?_
            refine hy_ireturn (i := 48) rfl rfl ?_
            refine ⟨congrArg some ?_, rfl⟩
            simp only [decide_eq_true_eq, decide_eq_false_iff_not] at *
            unfold pa_beside
            (repeat' split) <;> omega
          · refine hy_iload (i := 36) rfl rfl ?_
            refine hy_const (i := 37) rfl (by decide) ?_
            refine hy_const (i := 38) rfl (by decide) ?_
            refine hy_cS3e (i := 39) rfl (by decide) mj_M_in (by decide) rfl (Nat.le_of_ble_eq_true rfl) (c_M_in) ?_
            refine hy_ib_eq (i := 40) (tt := 47) rfl (fun zc6 => ?_) (fun zc6 => ?_)
            · refine hy_const (i := 47) rfl (by decide) ?_
              refine hy_ireturn (i := 48) rfl rfl ?_
              refine ⟨congrArg some ?_, rfl⟩
              simp only [decide_eq_true_eq, decide_eq_false_iff_not] at *
              unfold pa_beside
              (repeat' split) <;> omega
            · refine hy_const (i := 41) rfl (by decide) ?_
              refine hy_iload (i := 42) rfl rfl ?_
              refine hy_imul (i := 43) rfl (by omega) ?_
              refine hy_iload (i := 44) rfl rfl ?_
              refine hy_iadd (i := 45) rfl (by omega) ?_
              refine hy_goto (i := 46) (tt := 48) rfl ?_
              refine hy_ireturn (i := 48) rfl rfl ?_
              refine ⟨congrArg some ?_, rfl⟩
              simp only [decide_eq_true_eq, decide_eq_false_iff_not] at *
              unfold pa_beside
              (repeat' split) <;> omega
      · refine hy_const (i := 21) rfl (by decide) ?_
        refine hy_goto (i := 22) (tt := 29) rfl ?_
        refine hy_iadd (i := 29) rfl (by omega) ?_
        refine hy_istore (i := 30) rfl ?_
        refine hy_iload (i := 31) rfl rfl ?_
        refine hy_const (i := 32) rfl (by decide) ?_
        refine hy_const (i := 33) rfl (by decide) ?_
        refine hy_cS3e (i := 34) rfl (by decide) mj_M_in (by decide) rfl (Nat.le_of_ble_eq_true rfl) (c_M_in) ?_
        refine hy_ib_eq (i := 35) (tt := 47) rfl (fun zc4 => ?_) (fun zc4 => ?_)
        · refine hy_const (i := 47) rfl (by decide) ?_
          refine hy_ireturn (i := 48) rfl rfl ?_
          refine ⟨congrArg some ?_, rfl⟩
          simp only [decide_eq_true_eq, decide_eq_false_iff_not] at *
          unfold pa_beside
          (repeat' split) <;> omega
        · refine hy_iload (i := 36) rfl rfl ?_
          refine hy_const (i := 37) rfl (by decide) ?_
          refine hy_const (i := 38) rfl (by decide) ?_
          refine hy_cS3e (i := 39) rfl (by decide) mj_M_in (by decide) rfl (Nat.le_of_ble_eq_true rfl) (c_M_in) ?_
          refine hy_ib_eq (i := 40) (tt := 47) rfl (fun zc5 => ?_) (fun zc5 => ?_)
          · refine hy_const (i := 47) rfl (by decide) ?_
            refine hy_ireturn (i := 48) rfl rfl ?_
            refine ⟨congrArg some ?_, rfl⟩
            simp only [decide_eq_true_eq, decide_eq_false_iff_not] at *
            unfold pa_beside
            (repeat' split) <;> omega
          · refine hy_const (i := 41) rfl (by decide) ?_
            refine hy_iload (i := 42) rfl rfl ?_
            refine hy_imul (i := 43) rfl (by omega) ?_
            refine hy_iload (i := 44) rfl rfl ?_
            refine hy_iadd (i := 45) rfl (by omega) ?_
            refine hy_goto (i := 46) (tt := 48) rfl ?_
            refine hy_ireturn (i := 48) rfl rfl ?_
            refine ⟨congrArg some ?_, rfl⟩
            simp only [decide_eq_true_eq, decide_eq_false_iff_not] at *
            unfold pa_beside
            (repeat' split) <;> omega
    · refine hy_const (i := 10) rfl (by decide) ?_
      refine hy_goto (i := 11) (tt := 13) rfl ?_
      refine hy_iadd (i := 13) rfl (by omega) ?_
      refine hy_istore (i := 14) rfl ?_
      refine hy_iload (i := 15) rfl rfl ?_
      refine hy_const (i := 16) rfl (by decide) ?_
      refine hy_idiv (i := 17) rfl (by omega) (by omega) ?_
      refine hy_iload (i := 18) rfl rfl ?_
      refine hy_const (i := 19) rfl (by decide) ?_
      refine hy_ic_ne (i := 20) (tt := 23) rfl (fun zc3 => ?_) (fun zc3 => ?_)
      · refine hy_iload (i := 23) rfl rfl ?_
        refine hy_const (i := 24) rfl (by decide) ?_
        refine hy_ic_ne (i := 25) (tt := 28) rfl (fun zc4 => ?_) (fun zc4 => ?_)
        · refine hy_const (i := 28) rfl (by decide) ?_
          refine hy_iadd (i := 29) rfl (by omega) ?_
          refine hy_istore (i := 30) rfl ?_
          refine hy_iload (i := 31) rfl rfl ?_
          refine hy_const (i := 32) rfl (by decide) ?_
          refine hy_const (i := 33) rfl (by decide) ?_
          refine hy_cS3e (i := 34) rfl (by decide) mj_M_in (by decide) rfl (Nat.le_of_ble_eq_true rfl) (c_M_in) ?_
          refine hy_ib_eq (i := 35) (tt := 47) rfl (fun zc5 => ?_) (fun zc5 => ?_)
          · refine hy_const (i := 47) rfl (by decide) ?_
            refine hy_ireturn (i := 48) rfl rfl ?_
            refine ⟨congrArg some ?_, rfl⟩
            simp only [decide_eq_true_eq, decide_eq_false_iff_not] at *
            unfold pa_beside
            (repeat' split) <;> omega
          · refine hy_iload (i := 36) rfl rfl ?_
            refine hy_const (i := 37) rfl (by decide) ?_
            refine hy_const (i := 38) rfl (by decide) ?_
            refine hy_cS3e (i := 39) rfl (by decide) mj_M_in (by decide) rfl (Nat.le_of_ble_eq_true rfl) (c_M_in) ?_
            refine hy_ib_eq (i := 40) (tt := 47) rfl (fun zc6 => ?_) (fun zc6 => ?_)
            · refine hy_const (i := 47) rfl (by decide) ?_
              refine hy_ireturn (i := 48) rfl rfl ?_
              refine ⟨congrArg some ?_, rfl⟩
              simp only [decide_eq_true_eq, decide_eq_false_iff_not] at *
              unfold pa_beside
              (repeat' split) <;> omega
            · refine hy_const (i := 41) rfl (by decide) ?_
              refine hy_iload (i := 42) rfl rfl ?_
              refine hy_imul (i := 43) rfl (by omega) ?_
              refine hy_iload (i := 44) rfl rfl ?_
              refine hy_iadd (i := 45) rfl (by omega) ?_
              refine hy_goto (i := 46) (tt := 48) rfl ?_
              refine hy_ireturn (i := 48) rfl rfl ?_
              refine ⟨congrArg some ?_, rfl⟩
              simp only [decide_eq_true_eq, decide_eq_false_iff_not] at *
              unfold pa_beside
              (repeat' split) <;> omega
        · refine hy_const (i := 26) rfl (by decide) ?_
          refine hy_goto (i := 27) (tt := 29) rfl ?_
          refine hy_iadd (i := 29) rfl (by omega) ?_
          refine hy_istore (i := 30) rfl ?_
          refine hy_iload (i := 31) rfl rfl ?_
          refine hy_const (i := 32) rfl (by decide) ?_
          refine hy_const (i := 33) rfl (by decide) ?_
          refine hy_cS3e (i := 34) rfl (by decide) mj_M_in (by decide) rfl (Nat.le_of_ble_eq_true rfl) (c_M_in) ?_
          refine hy_ib_eq (i := 35) (tt := 47) rfl (fun zc5 => ?_) (fun zc5 => ?_)
          · refine hy_const (i := 47) rfl (by decide) ?_
            refine hy_ireturn (i := 48) rfl rfl ?_
            refine ⟨congrArg some ?_, rfl⟩
            simp only [decide_eq_true_eq, decide_eq_false_iff_not] at *
            unfold pa_beside
            (repeat' split) <;> omega
          · refine hy_iload (i := 36) rfl rfl ?_
            refine hy_const (i := 37) rfl (by decide) ?_
            refine hy_const (i := 38) rfl (by decide) ?_
            refine hy_cS3e (i := 39) rfl (by decide) mj_M_in (by decide) rfl (Nat.le_of_ble_eq_true rfl) (c_M_in) ?_
            refine hy_ib_eq (i := 40) (tt := 47) rfl (fun zc6 => ?_) (fun zc6 => ?_)
            · refine hy_const (i := 47) rfl (by decide) ?_
              refine hy_ireturn (i := 48) rfl rfl ?_
              refine ⟨congrArg some ?_, rfl⟩
              simp only [decide_eq_true_eq, decide_eq_false_iff_not] at *
              unfold pa_beside
              (repeat' split) <;> omega
            · refine hy_const (i := 41) rfl (by decide) ?_
              refine hy_iload (i := 42) rfl rfl ?_
              refine hy_imul (i := 43) rfl (by omega) ?_
              refine hy_iload (i := 44) rfl rfl ?_
              refine hy_iadd (i := 45) rfl (by omega) ?_
              refine hy_goto (i := 46) (tt := 48) rfl ?_
              refine hy_ireturn (i := 48) rfl rfl ?_
              refine ⟨congrArg some ?_, rfl⟩
              simp only [decide_eq_true_eq, decide_eq_false_iff_not] at *
              unfold pa_beside
              (repeat' split) <;> omega
      · refine hy_const (i := 21) rfl (by decide) ?_
        refine hy_goto (i := 22) (tt := 29) rfl ?_
        refine hy_iadd (i := 29) rfl (by omega) ?_
        refine hy_istore (i := 30) rfl ?_
        refine hy_iload (i := 31) rfl rfl ?_
        refine hy_const (i := 32) rfl (by decide) ?_
        refine hy_const (i := 33) rfl (by decide) ?_
        refine hy_cS3e (i := 34) rfl (by decide) mj_M_in (by decide) rfl (Nat.le_of_ble_eq_true rfl) (c_M_in) ?_
        refine hy_ib_eq (i := 35) (tt := 47) rfl (fun zc4 => ?_) (fun zc4 => ?_)
        · refine hy_const (i := 47) rfl (by decide) ?_
          refine hy_ireturn (i := 48) rfl rfl ?_
          refine ⟨congrArg some ?_, rfl⟩
          simp only [decide_eq_true_eq, decide_eq_false_iff_not] at *
          unfold pa_beside
          (repeat' split) <;> omega
        · refine hy_iload (i := 36) rfl rfl ?_
          refine hy_const (i := 37) rfl (by decide) ?_
          refine hy_const (i := 38) rfl (by decide) ?_
          refine hy_cS3e (i := 39) rfl (by decide) mj_M_in (by decide) rfl (Nat.le_of_ble_eq_true rfl) (c_M_in) ?_
          refine hy_ib_eq (i := 40) (tt := 47) rfl (fun zc5 => ?_) (fun zc5 => ?_)
          · refine hy_const (i := 47) rfl (by decide) ?_
            refine hy_ireturn (i := 48) rfl rfl ?_
            refine ⟨congrArg some ?_, rfl⟩
            simp only [decide_eq_true_eq, decide_eq_false_iff_not] at *
            unfold pa_beside
            (repeat' split) <;> omega
          · refine hy_const (i := 41) rfl (by decide) ?_
            refine hy_iload (i := 42) rfl rfl ?_
            refine hy_imul (i := 43) rfl (by omega) ?_
            refine hy_iload (i := 44) rfl rfl ?_
            refine hy_iadd (i := 45) rfl (by omega) ?_
            refine hy_goto (i := 46) (tt := 48) rfl ?_
            refine hy_ireturn (i := 48) rfl rfl ?_
            refine ⟨congrArg some ?_, rfl⟩
            simp only [decide_eq_true_eq, decide_eq_false_iff_not] at *
            unfold pa_beside
            (repeat' split) <;> omega
  · refine hy_const (i := 5) rfl (by decide) ?_
    refine hy_goto (i := 6) (tt := 13) rfl ?_
    refine hy_iadd (i := 13) rfl (by omega) ?_
    refine hy_istore (i := 14) rfl ?_
    refine hy_iload (i := 15) rfl rfl ?_
    refine hy_const (i := 16) rfl (by decide) ?_
    refine hy_idiv (i := 17) rfl (by omega) (by omega) ?_
    refine hy_iload (i := 18) rfl rfl ?_
    refine hy_const (i := 19) rfl (by decide) ?_
    refine hy_ic_ne (i := 20) (tt := 23) rfl (fun zc2 => ?_) (fun zc2 => ?_)
    · refine hy_iload (i := 23) rfl rfl ?_
      refine hy_const (i := 24) rfl (by decide) ?_
      refine hy_ic_ne (i := 25) (tt := 28) rfl (fun zc3 => ?_) (fun zc3 => ?_)
      · refine hy_const (i := 28) rfl (by decide) ?_
        refine hy_iadd (i := 29) rfl (by omega) ?_
        refine hy_istore (i := 30) rfl ?_
        refine hy_iload (i := 31) rfl rfl ?_
        refine hy_const (i := 32) rfl (by decide) ?_
        refine hy_const (i := 33) rfl (by decide) ?_
        refine hy_cS3e (i := 34) rfl (by decide) mj_M_in (by decide) rfl (Nat.le_of_ble_eq_true rfl) (c_M_in) ?_
        refine hy_ib_eq (i := 35) (tt := 47) rfl (fun zc4 => ?_) (fun zc4 => ?_)
        · refine hy_const (i := 47) rfl (by decide) ?_
          refine hy_ireturn (i := 48) rfl rfl ?_
          refine ⟨congrArg some ?_, rfl⟩
          simp only [decide_eq_true_eq, decide_eq_false_iff_not] at *
          unfold pa_beside
          (repeat' split) <;> omega
        · refine hy_iload (i := 36) rfl rfl ?_
          refine hy_const (i := 37) rfl (by decide) ?_
          refine hy_const (i := 38) rfl (by decide) ?_
          refine hy_cS3e (i := 39) rfl (by decide) mj_M_in (by decide) rfl (Nat.le_of_ble_eq_true rfl) (c_M_in) ?_
          refine hy_ib_eq (i := 40) (tt := 47) rfl (fun zc5 => ?_) (fun zc5 => ?_)
          · refine hy_const (i := 47) rfl (by decide) ?_
            refine hy_ireturn (i := 48) rfl rfl ?_
            refine ⟨congrArg some ?_, rfl⟩
            simp only [decide_eq_true_eq, decide_eq_false_iff_not] at *
            unfold pa_beside
            (repeat' split) <;> omega
          · refine hy_const (i := 41) rfl (by decide) ?_
            refine hy_iload (i := 42) rfl rfl ?_
            refine hy_imul (i := 43) rfl (by omega) ?_
            refine hy_iload (i := 44) rfl rfl ?_
            refine hy_iadd (i := 45) rfl (by omega) ?_
            refine hy_goto (i := 46) (tt := 48) rfl ?_
            refine hy_ireturn (i := 48) rfl rfl ?_
            refine ⟨congrArg some ?_, rfl⟩
            simp only [decide_eq_true_eq, decide_eq_false_iff_not] at *
            unfold pa_beside
            (repeat' split) <;> omega
      · refine hy_const (i := 26) rfl (by decide) ?_
        refine hy_goto (i := 27) (tt := 29) rfl ?_
        refine hy_iadd (i := 29) rfl (by omega) ?_
        refine hy_istore (i := 30) rfl ?_
        refine hy_iload (i := 31) rfl rfl ?_
        refine hy_const (i := 32) rfl (by decide) ?_
        refine hy_const (i := 33) rfl (by decide) ?_
        refine hy_cS3e (i := 34) rfl (by decide) mj_M_in (by decide) rfl (Nat.le_of_ble_eq_true rfl) (c_M_in) ?_
        refine hy_ib_eq (i := 35) (tt := 47) rfl (fun zc4 => ?_) (fun zc4 => ?_)
        · refine hy_const (i := 47) rfl (by decide) ?_
          refine hy_ireturn (i := 48) rfl rfl ?_
          refine ⟨congrArg some ?_, rfl⟩
          simp only [decide_eq_true_eq, decide_eq_false_iff_not] at *
          unfold pa_beside
          (repeat' split) <;> omega
        · refine hy_iload (i := 36) rfl rfl ?_
          refine hy_const (i := 37) rfl (by decide) ?_
          refine hy_const (i := 38) rfl (by decide) ?_
          refine hy_cS3e (i := 39) rfl (by decide) mj_M_in (by decide) rfl (Nat.le_of_ble_eq_true rfl) (c_M_in) ?_
          refine hy_ib_eq (i := 40) (tt := 47) rfl (fun zc5 => ?_) (fun zc5 => ?_)
          · refine hy_const (i := 47) rfl (by decide) ?_
            refine hy_ireturn (i := 48) rfl rfl ?_
            refine ⟨congrArg some ?_, rfl⟩
            simp only [decide_eq_true_eq, decide_eq_false_iff_not] at *
            unfold pa_beside
            (repeat' split) <;> omega
          · refine hy_const (i := 41) rfl (by decide) ?_
            refine hy_iload (i := 42) rfl rfl ?_
            refine hy_imul (i := 43) rfl (by omega) ?_
            refine hy_iload (i := 44) rfl rfl ?_
            refine hy_iadd (i := 45) rfl (by omega) ?_
            refine hy_goto (i := 46) (tt := 48) rfl ?_
            refine hy_ireturn (i := 48) rfl rfl ?_
            refine ⟨congrArg some ?_, rfl⟩
            simp only [decide_eq_true_eq, decide_eq_false_iff_not] at *
            unfold pa_beside
            (repeat' split) <;> omega
    · refine hy_const (i := 21) rfl (by decide) ?_
      refine hy_goto (i := 22) (tt := 29) rfl ?_
      refine hy_iadd (i := 29) rfl (by omega) ?_
      refine hy_istore (i := 30) rfl ?_
      refine hy_iload (i := 31) rfl rfl ?_
      refine hy_const (i := 32) rfl (by decide) ?_
      refine hy_const (i := 33) rfl (by decide) ?_
      refine hy_cS3e (i := 34) rfl (by decide) mj_M_in (by decide) rfl (Nat.le_of_ble_eq_true rfl) (c_M_in) ?_
      refine hy_ib_eq (i := 35) (tt := 47) rfl (fun zc3 => ?_) (fun zc3 => ?_)
      · refine hy_const (i := 47) rfl (by decide) ?_
        refine hy_ireturn (i := 48) rfl rfl ?_
        refine ⟨congrArg some ?_, rfl⟩
        simp only [decide_eq_true_eq, decide_eq_false_iff_not] at *
        unfold pa_beside
        (repeat' split) <;> omega
      · refine hy_iload (i := 36) rfl rfl ?_
        refine hy_const (i := 37) rfl (by decide) ?_
        refine hy_const (i := 38) rfl (by decide) ?_
        refine hy_cS3e (i := 39) rfl (by decide) mj_M_in (by decide) rfl (Nat.le_of_ble_eq_true rfl) (c_M_in) ?_
        refine hy_ib_eq (i := 40) (tt := 47) rfl (fun zc4 => ?_) (fun zc4 => ?_)
        · refine hy_const (i := 47) rfl (by decide) ?_
          refine hy_ireturn (i := 48) rfl rfl ?_
          refine ⟨congrArg some ?_, rfl⟩
          simp only [decide_eq_true_eq, decide_eq_false_iff_not] at *
          unfold pa_beside
          (repeat' split) <;> omega
        · refine hy_const (i := 41) rfl (by decide) ?_
          refine hy_iload (i := 42) rfl rfl ?_
          refine hy_imul (i := 43) rfl (by omega) ?_
          refine hy_iload (i := 44) rfl rfl ?_
          refine hy_iadd (i := 45) rfl (by omega) ?_
          refine hy_goto (i := 46) (tt := 48) rfl ?_
          refine hy_ireturn (i := 48) rfl rfl ?_
          refine ⟨congrArg some ?_, rfl⟩
          simp only [decide_eq_true_eq, decide_eq_false_iff_not] at *
          unfold pa_beside
          (repeat' split) <;> omega
theorem c_M_joins {a b : Int} (ha : 0 ≤ a ∧ a < 64) (hb : -1 ≤ b ∧ b < 64) : hy_Ct sc hm_M_joins 1 [.inr (some 59), .inl a, .inl b] t (hy_e (some (hy_b (mf_joins t a b).1)) (mf_joins t a b).2) := by
  refine hy_mk_ct ok_M_joins ck_M_joins (Nat.le_of_ble_eq_true rfl) ?_
  by_cases hq : b = -1 ∨ t 102 a.toNat = -1 ∨ t 102 b.toNat = -1 ∨ t 102 a.toNat = t 102 b.toNat
  · have e : mf_joins t a b = (false, t) := by unfold mf_joins; rw [if_pos hq]
    rw [e]
    refine hy_iload (i := 0) rfl rfl ?_
    refine hy_const (i := 1) rfl (by decide) ?_
    refine hy_ic_eq (i := 2) (tt := 24) rfl (fun zc1 => ?_) (fun zc1 => ?_)
    · refine hy_const (i := 24) rfl (by decide) ?_
      refine hy_zreturn (i := 25) rfl rfl (by first | decide | exact hy_b01 _) ?_
      exact ⟨rfl, rfl⟩
    · refine hy_aload (i := 3) rfl rfl ?_
      refine hy_getr (i := 4) rfl rfl ?_
      refine hy_iload (i := 5) rfl rfl ?_
      refine hy_iald (i := 6) rfl rfl (by omega) rfl ?_
      refine hy_const (i := 7) rfl (by decide) ?_
      refine hy_ic_eq (i := 8) (tt := 24) rfl (fun zc2 => ?_) (fun zc2 => ?_)
      · refine hy_const (i := 24) rfl (by decide) ?_
        refine hy_zreturn (i := 25) rfl rfl (by first | decide | exact hy_b01 _) ?_
        exact ⟨rfl, rfl⟩
      · refine hy_aload (i := 9) rfl rfl ?_
        refine hy_getr (i := 10) rfl rfl ?_
        refine hy_iload (i := 11) rfl rfl ?_
        refine hy_iald (i := 12) rfl rfl (by omega) rfl ?_
        refine hy_const (i := 13) rfl (by decide) ?_
        refine hy_ic_eq (i := 14) (tt := 24) rfl (fun zc3 => ?_) (fun zc3 => ?_)
        · refine hy_const (i := 24) rfl (by decide) ?_
          refine hy_zreturn (i := 25) rfl rfl (by first | decide | exact hy_b01 _) ?_
          exact ⟨rfl, rfl⟩
        · refine hy_aload (i := 15) rfl rfl ?_
          refine hy_getr (i := 16) rfl rfl ?_
          refine hy_iload (i := 17) rfl rfl ?_
          refine hy_iald (i := 18) rfl rfl (by omega) rfl ?_
          refine hy_aload (i := 19) rfl rfl ?_
          refine hy_getr (i := 20) rfl rfl ?_
          refine hy_iload (i := 21) rfl rfl ?_
          refine hy_iald (i := 22) rfl rfl (by omega) rfl ?_
          refine hy_ic_ne (i := 23) (tt := 26) rfl (fun zc4 => ?_) (fun zc4 => ?_)
          · omega
          · refine hy_const (i := 24) rfl (by decide) ?_
            refine hy_zreturn (i := 25) rfl rfl (by first | decide | exact hy_b01 _) ?_
            exact ⟨rfl, rfl⟩
  · have e : mf_joins t a b = (true, hy_up (hy_up t 102 a.toNat (if t 102 a.toNat < t 102 b.toNat then t 102 a.toNat else t 102 b.toNat)) 102 b.toNat (if t 102 a.toNat < t 102 b.toNat then t 102 a.toNat else t 102 b.toNat)) := by unfold mf_joins; rw [if_neg hq]
    rw [e]
    refine hy_iload (i := 0) rfl rfl ?_
    refine hy_const (i := 1) rfl (by decide) ?_
    refine hy_ic_eq (i := 2) (tt := 24) rfl (fun zc1 => ?_) (fun zc1 => ?_)
    · omega
    · refine hy_aload (i := 3) rfl rfl ?_
      refine hy_getr (i := 4) rfl rfl ?_
      refine hy_iload (i := 5) rfl rfl ?_
      refine hy_iald (i := 6) rfl rfl (by omega) rfl ?_
      refine hy_const (i := 7) rfl (by decide) ?_
      refine hy_ic_eq (i := 8) (tt := 24) rfl (fun zc2 => ?_) (fun zc2 => ?_)
      · omega
      · refine hy_aload (i := 9) rfl rfl ?_
        refine hy_getr (i := 10) rfl rfl ?_
        refine hy_iload (i := 11) rfl rfl ?_
        refine hy_iald (i := 12) rfl rfl (by omega) rfl ?_
        refine hy_const (i := 13) rfl (by decide) ?_
        refine hy_ic_eq (i := 14) (tt := 24) rfl (fun zc3 => ?_) (fun zc3 => ?_)
        · omega
        · refine hy_aload (i := 15) rfl rfl ?_
          refine hy_getr (i := 16) rfl rfl ?_
          refine hy_iload (i := 17) rfl rfl ?_
          refine hy_iald (i := 18) rfl rfl (by omega) rfl ?_
          refine hy_aload (i := 19) rfl rfl ?_
          refine hy_getr (i := 20) rfl rfl ?_
          refine hy_iload (i := 21) rfl rfl ?_
          refine hy_iald (i := 22) rfl rfl (by omega) rfl ?_
          refine hy_ic_ne (i := 23) (tt := 26) rfl (fun zc4 => ?_) (fun zc4 => ?_)
          · refine hy_aload (i := 26) rfl rfl ?_
            refine hy_getr (i := 27) rfl rfl ?_
            refine hy_iload (i := 28) rfl rfl ?_
            refine hy_iald (i := 29) rfl rfl (by omega) rfl ?_
            refine hy_aload (i := 30) rfl rfl ?_
            refine hy_getr (i := 31) rfl rfl ?_
            refine hy_iload (i := 32) rfl rfl ?_
            refine hy_iald (i := 33) rfl rfl (by omega) rfl ?_
            refine hy_cS2e (i := 34) rfl (by decide) mj_M_min (by decide) rfl (Nat.le_of_ble_eq_true rfl) (c_M_min) ?_
            refine hy_istore (i := 35) rfl ?_
            refine hy_aload (i := 36) rfl rfl ?_
            refine hy_getr (i := 37) rfl rfl ?_
            refine hy_iload (i := 38) rfl rfl ?_
            refine hy_iload (i := 39) rfl rfl ?_
            refine hy_iast (i := 40) rfl rfl (by omega) rfl ?_
            refine hy_aload (i := 41) rfl rfl ?_
            refine hy_getr (i := 42) rfl rfl ?_
            refine hy_iload (i := 43) rfl rfl ?_
            refine hy_iload (i := 44) rfl rfl ?_
            refine hy_iast (i := 45) rfl rfl (by omega) rfl ?_
            refine hy_const (i := 46) rfl (by decide) ?_
            refine hy_zreturn (i := 47) rfl rfl (by first | decide | exact hy_b01 _) ?_
            exact ⟨rfl, rfl⟩
          · omega
theorem hy_b_or (p q : Bool) : (if p = true then (1 : Int) else if q = true then 1 else 0) = hy_b (p || q) := by cases p <;> cases q <;> rfl
theorem c_M_seaPass {v2 : hy_V} {Q : Option Int → hy_T → Prop} (h : hy_W sc hm_M_laysSeas 2 25 [.inr (some 59), .inl (hy_b (mf_seaP t 64).1), .inl 64] [] (mf_seaP t 64).2 Q) : hy_W sc hm_M_laysSeas 2 25 [.inr (some 59), .inl 1, v2] [] t Q := by
  have loop : ∀ (m : Nat), ∀ (k : Nat), m + k = 64 → hy_W sc hm_M_laysSeas 2 31 [.inr (some 59), .inl (hy_b (mf_seaP t k).1), .inl (k : Int)] [] (mf_seaP t k).2 Q := by
    intro m
    induction m with
    | zero =>
      intro k hm
      obtain rfl : k = 64 := by omega
      refine hy_iload (i := 31) rfl rfl ?_
      refine hy_const (i := 32) rfl (by decide) ?_
      refine hy_ic_ge (i := 33) (tt := 64) rfl (fun zc1 => ?_) (fun zc1 => ?_)
      · refine hy_goto (i := 64) (tt := 25) rfl ?_
        exact h
      · omega
    | succ m ih =>
      intro k hm
      have b0 := pa_beside_in (f := (k : Int)) (by omega) 0
      have b2 := pa_beside_in (f := (k : Int)) (by omega) 2
      have ih' := ih (k + 1) (by omega)
      have e2 : (mf_seaP t (k + 1)).2 = (mf_joins (mf_joins (mf_seaP t k).2 k (pa_beside k 0)).2 k (pa_beside k 2)).2 := rfl
      have e1 : (mf_seaP t (k + 1)).1 = ((mf_joins (mf_joins (mf_seaP t k).2 k (pa_beside k 0)).2 k (pa_beside k 2)).1 || ((mf_joins (mf_seaP t k).2 k (pa_beside k 0)).1 || (mf_seaP t k).1)) := rfl
      rw [e1, e2] at ih'
      have st2 : ∀ g : Bool, g = ((mf_joins (mf_seaP t k).2 k (pa_beside k 0)).1 || (mf_seaP t k).1) → hy_W sc hm_M_laysSeas 2 48 [.inr (some 59), .inl (hy_b g), .inl (k : Int)] [] (mf_joins (mf_seaP t k).2 k (pa_beside k 0)).2 Q := by
        intro g hg
        rw [← hg] at ih'
        refine hy_aload (i := 48) rfl rfl ?_
        refine hy_iload (i := 49) rfl rfl ?_
        refine hy_aload (i := 50) rfl rfl ?_
        refine hy_iload (i := 51) rfl rfl ?_
        refine hy_const (i := 52) rfl (by decide) ?_
        refine hy_cV2e (i := 53) rfl mj_M_beside (by decide) rfl (Nat.le_of_ble_eq_true rfl) rfl rfl rfl (c_M_beside (by omega) (by omega)) ?_
        refine hy_cV2e (i := 54) rfl mj_M_joins (by decide) rfl (Nat.le_of_ble_eq_true rfl) rfl rfl rfl (c_M_joins (by omega) (by omega)) ?_
        refine hy_ib_ne (i := 55) (tt := 58) rfl (fun zc1 => ?_) (fun zc1 => ?_)
        · refine hy_const (i := 58) rfl (by decide) ?_
          refine hy_goto (i := 59) (tt := 61) rfl ?_
          refine hy_istore (i := 61) rfl ?_
          refine hy_iinc (i := 62) rfl rfl (by omega) ?_
          refine hy_goto (i := 63) (tt := 31) rfl ?_
          first | (rw [zc1] at ih'; exact ih') | (rw [zc1, zc2] at ih'; exact ih')
        · refine hy_iload (i := 56) rfl rfl ?_
          refine hy_ib_eq (i := 57) (tt := 60) rfl (fun zc2 => ?_) (fun zc2 => ?_)
          · refine hy_const (i := 60) rfl (by decide) ?_
            refine hy_istore (i := 61) rfl ?_
            refine hy_iinc (i := 62) rfl rfl (by omega) ?_
            refine hy_goto (i := 63) (tt := 31) rfl ?_
            first | (rw [zc1] at ih'; exact ih') | (rw [zc1, zc2] at ih'; exact ih')
          · refine hy_const (i := 58) rfl (by decide) ?_
            refine hy_goto (i := 59) (tt := 61) rfl ?_
            refine hy_istore (i := 61) rfl ?_
            refine hy_iinc (i := 62) rfl rfl (by omega) ?_
            refine hy_goto (i := 63) (tt := 31) rfl ?_
            first | (rw [zc1] at ih'; exact ih') | (rw [zc1, zc2] at ih'; exact ih')
      refine hy_iload (i := 31) rfl rfl ?_
      refine hy_const (i := 32) rfl (by decide) ?_
      refine hy_ic_ge (i := 33) (tt := 64) rfl (fun zc1 => ?_) (fun zc1 => ?_)
      · omega
      · refine hy_aload (i := 34) rfl rfl ?_
        refine hy_iload (i := 35) rfl rfl ?_
        refine hy_aload (i := 36) rfl rfl ?_
        refine hy_iload (i := 37) rfl rfl ?_
        refine hy_const (i := 38) rfl (by decide) ?_
        refine hy_cV2e (i := 39) rfl mj_M_beside (by decide) rfl (Nat.le_of_ble_eq_true rfl) rfl rfl rfl (c_M_beside (by omega) (by omega)) ?_
        refine hy_cV2e (i := 40) rfl mj_M_joins (by decide) rfl (Nat.le_of_ble_eq_true rfl) rfl rfl rfl (c_M_joins (by omega) (by omega)) ?_
        refine hy_ib_ne (i := 41) (tt := 44) rfl (fun zc2 => ?_) (fun zc2 => ?_)
        · refine hy_const (i := 44) rfl (by decide) ?_
          refine hy_goto (i := 45) (tt := 47) rfl ?_
          refine hy_istore (i := 47) rfl ?_
          first | exact st2 true (by rw [zc2]; rfl) | exact st2 true (by rw [zc2, zc3]; rfl) | exact st2 false (by rw [zc2, zc3]; rfl)
        · refine hy_iload (i := 42) rfl rfl ?_
          refine hy_ib_eq (i := 43) (tt := 46) rfl (fun zc3 => ?_) (fun zc3 => ?_)
          · refine hy_const (i := 46) rfl (by decide) ?_
            refine hy_istore (i := 47) rfl ?_
            first | exact st2 true (by rw [zc2]; rfl) | exact st2 true (by rw [zc2, zc3]; rfl) | exact st2 false (by rw [zc2, zc3]; rfl)
          · refine hy_const (i := 44) rfl (by decide) ?_
            refine hy_goto (i := 45) (tt := 47) rfl ?_
            refine hy_istore (i := 47) rfl ?_
            first | exact st2 true (by rw [zc2]; rfl) | exact st2 true (by rw [zc2, zc3]; rfl) | exact st2 false (by rw [zc2, zc3]; rfl)
  refine hy_iload (i := 25) rfl rfl ?_
  refine hy_if_eq (i := 26) (tt := 65) rfl (fun zc1 => ?_) (fun zc1 => ?_)
  · omega
  · refine hy_const (i := 27) rfl (by decide) ?_
    refine hy_istore (i := 28) rfl ?_
    refine hy_const (i := 29) rfl (by decide) ?_
    refine hy_istore (i := 30) rfl ?_
    exact loop 64 0 rfl
theorem c_M_laysSeasOf {Q : Option Int → hy_T → Prop} (h63 : ∀ f : Nat, f < 64 → 0 ≤ t 63 f ∧ t 63 f ≤ 12) (h : hy_W sc hm_M_laysSeas 2 25 [.inr (some 59), .inl 1, .inr none] [] (mf_sea0N t 64) Q) : hy_Ct sc hm_M_laysSeas 2 [.inr (some 59)] t Q := by
  refine hy_mk_ct ok_M_laysSeas ck_M_laysSeas (Nat.le_of_ble_eq_true rfl) ?_
  have loop : ∀ (m : Nat), ∀ (k : Nat) (t1 : hy_T), m + k = 64 → t1 = mf_sea0N t k → hy_W sc hm_M_laysSeas 2 2 [.inr (some 59), .inl (k : Int), .inr none] [] t1 Q := by
    intro m
    induction m with
    | zero =>
      intro k t1 hm ht
      obtain rfl : k = 64 := by omega
      refine hy_iload (i := 2) rfl rfl ?_
      refine hy_const (i := 3) rfl (by decide) ?_
      refine hy_ic_ge (i := 4) (tt := 23) rfl (fun zc1 => ?_) (fun zc1 => ?_)
      · refine hy_const (i := 23) rfl (by decide) ?_
        refine hy_istore (i := 24) rfl ?_
        rw [ht]; exact h
      · omega
    | succ m ih =>
      intro k t1 hm ht
      have hc := h63 k (by omega)
      have e63 : t1 63 k = t 63 k := by rw [ht]; exact mf_sea0N_F t k 63 k rfl
      have e79 : ∀ j, t1 79 j = t 79 j := fun j => by rw [ht]; exact mf_sea0N_F t k 79 j rfl
      by_cases hx : t 79 (t 63 k).toNat = 12
      · skip
        refine hy_iload (i := 2) rfl rfl ?_
        refine hy_const (i := 3) rfl (by decide) ?_
        refine hy_ic_ge (i := 4) (tt := 23) rfl (fun zc1 => ?_) (fun zc1 => ?_)
        · omega
        · refine hy_aload (i := 5) rfl rfl ?_
          refine hy_getr (i := 6) rfl rfl ?_
          refine hy_iload (i := 7) rfl rfl ?_
          refine hy_aload (i := 8) rfl rfl ?_
          refine hy_getr (i := 9) rfl rfl ?_
          refine hy_aload (i := 10) rfl rfl ?_
          refine hy_getr (i := 11) rfl rfl ?_
          refine hy_iload (i := 12) rfl rfl ?_
          refine hy_iald (i := 13) rfl rfl (by omega) (k := k) (by omega) ?_
          rw [e63]
          refine hy_iald (i := 14) rfl rfl (by omega) rfl ?_
          rw [e79]
          refine hy_const (i := 15) rfl (by decide) ?_
          refine hy_ic_ne (i := 16) (tt := 19) rfl (fun zc2 => ?_) (fun zc2 => ?_)
          · exact absurd hx (by assumption)
          · refine hy_iload (i := 17) rfl rfl ?_
            refine hy_goto (i := 18) (tt := 20) rfl ?_
            refine hy_iast (i := 20) rfl rfl (by omega) (k := k) (by omega) ?_
            refine hy_iinc (i := 21) rfl rfl (by omega) ?_
            refine hy_goto (i := 22) (tt := 2) rfl ?_
            exact ih (k + 1) _ (by omega) (by rw [ht]; simp only [mf_sea0N]; rw [if_pos hx])
      · skip
        refine hy_iload (i := 2) rfl rfl ?_
        refine hy_const (i := 3) rfl (by decide) ?_
        refine hy_ic_ge (i := 4) (tt := 23) rfl (fun zc1 => ?_) (fun zc1 => ?_)
        · omega
        · refine hy_aload (i := 5) rfl rfl ?_
          refine hy_getr (i := 6) rfl rfl ?_
          refine hy_iload (i := 7) rfl rfl ?_
          refine hy_aload (i := 8) rfl rfl ?_
          refine hy_getr (i := 9) rfl rfl ?_
          refine hy_aload (i := 10) rfl rfl ?_
          refine hy_getr (i := 11) rfl rfl ?_
          refine hy_iload (i := 12) rfl rfl ?_
          refine hy_iald (i := 13) rfl rfl (by omega) (k := k) (by omega) ?_
          rw [e63]
          refine hy_iald (i := 14) rfl rfl (by omega) rfl ?_
          rw [e79]
          refine hy_const (i := 15) rfl (by decide) ?_
          refine hy_ic_ne (i := 16) (tt := 19) rfl (fun zc2 => ?_) (fun zc2 => ?_)
          · refine hy_const (i := 19) rfl (by decide) ?_
            refine hy_iast (i := 20) rfl rfl (by omega) (k := k) (by omega) ?_
            refine hy_iinc (i := 21) rfl rfl (by omega) ?_
            refine hy_goto (i := 22) (tt := 2) rfl ?_
            exact ih (k + 1) _ (by omega) (by rw [ht]; simp only [mf_sea0N]; rw [if_neg hx])
          · exact absurd (by first | assumption | omega) hx
  refine hy_const (i := 0) rfl (by decide) ?_
  refine hy_istore (i := 1) rfl ?_
  exact loop 64 0 t rfl rfl
end ME
/-! seas of a land all ash: the model's and the class's -/
theorem mf_jn_no {t : hy_T} {a b : Int} (h : b = -1 ∨ t 102 a.toNat = t 102 b.toNat) : mf_joins t a b = (false, t) := by
  unfold mf_joins
  rw [if_pos (by rcases h with h | h; exact .inl h; exact .inr (.inr (.inr h)))]
theorem mf_jn_yes {t : hy_T} {a b : Nat} (ha : t 102 a = 0) (hb : 0 < t 102 b) : mf_joins t (a : Int) (b : Int) = (true, hy_up (hy_up t 102 a 0) 102 b 0) := by
  unfold mf_joins
  rw [show (a : Int).toNat = a from rfl, show (b : Int).toNat = b from rfl, if_neg (by omega), ha, if_pos hb]
abbrev ZP (n g : Nat) : Prop := (g < 8 ∧ g ≤ n) ∨ (8 ≤ g ∧ g ≤ n + 7)
theorem mf_pass1 {t : hy_T} (h : ∀ g : Nat, g < 64 → t 102 g = g) : ∀ n : Nat, n ≤ 64 → (∀ g : Nat, g < 64 → (mf_seaP t n).2 102 g = if ZP n g then 0 else (g : Int)) ∧ (mf_seaP t n).1 = decide (0 < n)
  | 0, _ => ⟨fun g hg => by
      show t 102 g = _
      rw [h g hg]
      split <;> omega, rfl⟩
  | n + 1, hn => by
    obtain ⟨i1, i2⟩ := mf_pass1 h n (by omega)
    have hn0 : (mf_seaP t n).2 102 n = 0 := by rw [i1 n (by omega), if_pos (by omega)]
    -- to the right
    have r1 : ∃ T : hy_T, mf_joins (mf_seaP t n).2 n (pa_beside n 0) = (decide (n < 7), T) ∧ ∀ g : Nat, g < 64 → T 102 g = if ZP n g ∨ (n < 7 ∧ g = n + 1) then 0 else (g : Int) := by
      by_cases h7 : n < 7
      · have hb : pa_beside (n : Int) 0 = ((n + 1 : Nat) : Int) := by unfold pa_beside; rw [if_pos rfl, if_pos (by omega)]; omega
        have hv : (mf_seaP t n).2 102 (n + 1) = ((n + 1 : Nat) : Int) := by rw [i1 (n + 1) (by omega), if_neg (by omega)]
        rw [hb, mf_jn_yes hn0 (by rw [hv]; omega)]
        refine ⟨_, by rw [decide_eq_true h7], fun g hg => ?_⟩
        simp only [hy_up]
        by_cases g1 : g = n + 1
        · rw [if_pos ⟨trivial, g1⟩, if_pos (.inr ⟨h7, g1⟩)]
        · rw [if_neg (fun q => g1 q.2)]
          by_cases g2 : g = n
          · rw [if_pos ⟨trivial, g2⟩, if_pos (by omega)]
          · rw [if_neg (fun q => g2 q.2), i1 g hg]
            by_cases g3 : ZP n g
            · rw [if_pos g3, if_pos (.inl g3)]
            · rw [if_neg g3, if_neg (by omega)]
      · have hno : mf_joins (mf_seaP t n).2 n (pa_beside n 0) = (false, (mf_seaP t n).2) := by
          refine mf_jn_no ?_
          unfold pa_beside
          rw [if_pos rfl]
          by_cases h8 : (n : Int) % 8 < 7
          · rw [if_pos h8]
            refine .inr ?_
            rw [show (n : Int).toNat = n from rfl, hn0, show ((n : Int) + 1).toNat = n + 1 by omega, i1 (n + 1) (by omega), if_pos (by omega)]
          · rw [if_neg h8]; exact .inl rfl
        rw [hno]
        refine ⟨_, by rw [decide_eq_false h7], fun g hg => ?_⟩
        rw [i1 g hg]
        by_cases g3 : ZP n g
        · rw [if_pos g3, if_pos (.inl g3)]
        · rw [if_neg g3, if_neg (by omega)]
    obtain ⟨T, e1, hT⟩ := r1
    have hTn : T 102 n = 0 := by rw [hT n (by omega), if_pos (by omega)]
    have r2 : ∃ (b : Bool) (U : hy_T), mf_joins T n (pa_beside n 2) = (b, U) ∧ ∀ g : Nat, g < 64 → U 102 g = if ZP (n + 1) g then 0 else (g : Int) := by
      have hbe : pa_beside (n : Int) 2 = if (n : Int) + 8 < 64 then (n : Int) + 8 else -1 := by unfold pa_beside; rw [if_neg (by decide), if_neg (by decide), if_pos rfl]
      rw [hbe]
      by_cases h8 : (n : Int) + 8 < 64
      · rw [if_pos h8, show (n : Int) + 8 = ((n + 8 : Nat) : Int) by omega]
        have hv : T 102 (n + 8) = ((n + 8 : Nat) : Int) := by rw [hT (n + 8) (by omega), if_neg (by omega)]
        rw [mf_jn_yes hTn (by rw [hv]; omega)]
        refine ⟨_, _, rfl, fun g hg => ?_⟩
        simp only [hy_up]
        by_cases g1 : g = n + 8
        · rw [if_pos ⟨trivial, g1⟩, if_pos (by omega)]
        · rw [if_neg (fun q => g1 q.2)]
          by_cases g2 : g = n
          · rw [if_pos ⟨trivial, g2⟩, if_pos (by omega)]
          · rw [if_neg (fun q => g2 q.2), hT g hg]
            by_cases g3 : ZP (n + 1) g
            · rw [if_pos (by omega), if_pos g3]
            · rw [if_neg (by omega), if_neg g3]
      · rw [if_neg h8, mf_jn_no (.inl rfl)]
        refine ⟨_, _, rfl, fun g hg => ?_⟩
        rw [hT g hg]
        by_cases g3 : ZP (n + 1) g
        · rw [if_pos (by omega), if_pos g3]
        · rw [if_neg (by omega), if_neg g3]
    obtain ⟨b, U, e2, hU⟩ := r2
    have f2 : (mf_seaP t (n + 1)).2 = (mf_joins (mf_joins (mf_seaP t n).2 n (pa_beside n 0)).2 n (pa_beside n 2)).2 := rfl
    have f1 : (mf_seaP t (n + 1)).1 = ((mf_joins (mf_joins (mf_seaP t n).2 n (pa_beside n 0)).2 n (pa_beside n 2)).1 || ((mf_joins (mf_seaP t n).2 n (pa_beside n 0)).1 || (mf_seaP t n).1)) := rfl
    rw [e1] at f1 f2
    dsimp only at f1 f2
    rw [e2] at f1 f2
    refine ⟨fun g hg => by rw [f2]; exact hU g hg, ?_⟩
    rw [f1, i2, decide_eq_true (show 0 < n + 1 by omega)]
    by_cases hz : n = 0
    · rw [decide_eq_true (show n < 7 by omega)]; simp
    · rw [decide_eq_true (show 0 < n by omega)]; simp
theorem mf_pass2 {t : hy_T} (h : ∀ g : Nat, g < 64 → t 102 g = 0) : ∀ n : Nat, n ≤ 64 → mf_seaP t n = (false, t)
  | 0, _ => rfl
  | n + 1, hn => by
    have i := mf_pass2 h n (by omega)
    have f : mf_seaP t (n + 1) = ((mf_joins (mf_joins (mf_seaP t n).2 n (pa_beside n 0)).2 n (pa_beside n 2)).1 || ((mf_joins (mf_seaP t n).2 n (pa_beside n 0)).1 || (mf_seaP t n).1), (mf_joins (mf_joins (mf_seaP t n).2 n (pa_beside n 0)).2 n (pa_beside n 2)).2) := rfl
    have no : ∀ s : Int, mf_joins t n (pa_beside n s) = (false, t) := fun s => by
      have hb := pa_beside_in (f := (n : Int)) (by omega) s
      by_cases hm : pa_beside (n : Int) s = -1
      · exact mf_jn_no (.inl hm)
      · exact mf_jn_no (.inr (by rw [show (n : Int).toNat = n from rfl, h n (by omega), h _ (by omega)]))
    rw [f, i]
    dsimp only
    rw [no 0]
    dsimp only
    rw [no 2]
    rfl
theorem mf_sea0N_v {t : hy_T} (h : ∀ f : Nat, f < 64 → t 79 (t 63 f).toNat = 12) : ∀ (n : Nat), n ≤ 64 → ∀ g : Nat, g < n → mf_sea0N t n 102 g = g
  | 0, _, g, hg => by omega
  | n + 1, hn, g, hg => by
    simp only [mf_sea0N]
    rw [if_pos (h n (by omega))]
    by_cases e : g = n
    · subst e; simp [hy_up]
    · rw [show ∀ v, hy_up (mf_sea0N t n) 102 n v 102 g = mf_sea0N t n 102 g from fun v => by simp [hy_up, e]]
      exact mf_sea0N_v h n (by omega) g (by omega)
section MF
variable {sc : List Int32} {t : hy_T}
theorem c_M_ash0 {e q w : Int} (h0 : t 59 0 = 0) (h63 : ∀ f : Nat, f < 64 → t 63 f = 12) : hy_Ct sc hm_M_ash 7 [.inr (some 59), .inl e, .inl q, .inl w] t (hy_r (if ((0 ≤ e ∧ e < 6) ∧ 0 ≤ q ∧ q < 4) ∧ 0 ≤ w ∧ w < 3 then (if w = 2 then 1 else 64) else -1)) := by
  refine hy_mk_ct ok_M_ash ck_M_ash (Nat.le_of_ble_eq_true rfl) ?_
  by_cases hq : ((0 ≤ e ∧ e < 6) ∧ 0 ≤ q ∧ q < 4) ∧ 0 ≤ w ∧ w < 3
  · rw [if_pos hq]
    have loop : ∀ (t1 : hy_T), (∀ g : Nat, g < 64 → t1 102 g = 0) → ∀ (m : Nat), ∀ (k : Nat) (s ms : Int) (v8 v9 : hy_V), m + k = 64 → (s = 0 ∧ ms = 0 ∧ k = 0 ∨ s = 1 ∧ ms = 64 ∧ 0 < k) → hy_W sc hm_M_ash 7 27 [.inr (some 59), .inl e, .inl q, .inl w, .inl (k : Int), .inl s, .inl ms, .inl (k : Int), v8, v9] [] t1 (hy_r (if w = 2 then 1 else 64)) := by
      intro t1 h1 m
      induction m with
      | zero =>
        intro k s ms v8 v9 hm hs
        obtain rfl : k = 64 := by omega
        obtain ⟨rfl, rfl⟩ : s = 1 ∧ ms = 64 := by omega
        refine hy_iload (i := 27) rfl rfl ?_
        refine hy_const (i := 28) rfl (by decide) ?_
        refine hy_ic_ge (i := 29) (tt := 80) rfl (fun zc1 => ?_) (fun zc1 => ?_)
        · refine hy_iload (i := 80) rfl rfl ?_
          refine hy_if_ne (i := 81) (tt := 84) rfl (fun zc2 => ?_) (fun zc2 => ?_)
          · refine hy_iload (i := 84) rfl rfl ?_
            refine hy_const (i := 85) rfl (by decide) ?_
            refine hy_ic_ne (i := 86) (tt := 89) rfl (fun zc3 => ?_) (fun zc3 => ?_)
            · refine hy_iload (i := 89) rfl rfl ?_
              refine hy_ireturn (i := 90) rfl rfl ?_
              exact congrArg some (by first | (rw [if_pos (by omega)]; done) | (rw [if_neg (by omega)]; done) | (rw [if_neg (by omega)]; rfl))
            · refine hy_iload (i := 87) rfl rfl ?_
              refine hy_goto (i := 88) (tt := 90) rfl ?_
              refine hy_ireturn (i := 90) rfl rfl ?_
              exact congrArg some (by first | (rw [if_pos (by omega)]; done) | (rw [if_neg (by omega)]; done) | (rw [if_neg (by omega)]; rfl))
          · refine hy_iload (i := 82) rfl rfl ?_
            refine hy_goto (i := 83) (tt := 90) rfl ?_
            refine hy_ireturn (i := 90) rfl rfl ?_
            exact congrArg some (by first | (rw [if_pos (by omega)]; done) | (rw [if_neg (by omega)]; done) | (rw [if_neg (by omega)]; rfl))
        · omega
      | succ m ih =>
        intro k s ms v8 v9 hm hs
        have hk := h1 k (by omega)
        by_cases hz : k = 0
        · obtain ⟨rfl, rfl⟩ : s = 0 ∧ ms = 0 := by omega
          subst hz
          have inner : ∀ (m2 : Nat), ∀ (c : Nat), m2 + c = 64 → hy_W sc hm_M_ash 7 53 [.inr (some 59), .inl e, .inl q, .inl w, .inl 1, .inl 0, .inl 0, .inl 0, .inl (c : Int), .inl (c : Int)] [] t1 (hy_r (if w = 2 then 1 else 64)) := by
            intro m2
            induction m2 with
            | zero =>
              intro c hm2
              obtain rfl : c = 64 := by omega
              refine hy_iload (i := 53) rfl rfl ?_
              refine hy_const (i := 54) rfl (by decide) ?_
              refine hy_ic_ge (i := 55) (tt := 70) rfl (fun zc1 => ?_) (fun zc1 => ?_)
              · refine hy_iload (i := 70) rfl rfl ?_
                refine hy_const (i := 71) rfl (by decide) ?_
                refine hy_iadd (i := 72) rfl (by omega) ?_
                refine hy_istore (i := 73) rfl ?_
                refine hy_iload (i := 74) rfl rfl ?_
                refine hy_iload (i := 75) rfl rfl ?_
                refine hy_cS2e (i := 76) rfl (by decide) mj_M_max (by decide) rfl (Nat.le_of_ble_eq_true rfl) (c_M_max) ?_
                refine hy_istore (i := 77) rfl ?_
                refine hy_iinc (i := 78) rfl rfl (by omega) ?_
                refine hy_goto (i := 79) (tt := 27) rfl ?_
                exact ih 1 _ _ _ _ (by omega) (.inr ⟨rfl, rfl, by decide⟩)
              · omega
            | succ m2 ih2 =>
              intro c hm2
              have hc := h1 c (by omega)
              refine hy_iload (i := 53) rfl rfl ?_
              refine hy_const (i := 54) rfl (by decide) ?_
              refine hy_ic_ge (i := 55) (tt := 70) rfl (fun zc1 => ?_) (fun zc1 => ?_)
              · omega
              · refine hy_iload (i := 56) rfl rfl ?_
                refine hy_aload (i := 57) rfl rfl ?_
                refine hy_getr (i := 58) rfl rfl ?_
                refine hy_iload (i := 59) rfl rfl ?_
                refine hy_iald (i := 60) rfl rfl (by omega) (k := c) (by omega) ?_
                refine hy_iload (i := 61) rfl rfl ?_
                refine hy_ic_ne (i := 62) (tt := 65) rfl (fun zc2 => ?_) (fun zc2 => ?_)
                · omega
                · refine hy_const (i := 63) rfl (by decide) ?_
                  refine hy_goto (i := 64) (tt := 66) rfl ?_
                  refine hy_iadd (i := 66) rfl (by omega) ?_
                  refine hy_istore (i := 67) rfl ?_
                  refine hy_iinc (i := 68) rfl rfl (by omega) ?_
                  refine hy_goto (i := 69) (tt := 53) rfl ?_
                  exact ih2 (c + 1) (by omega)
          refine hy_iload (i := 27) rfl rfl ?_
          refine hy_const (i := 28) rfl (by decide) ?_
          refine hy_ic_ge (i := 29) (tt := 80) rfl (fun zc1 => ?_) (fun zc1 => ?_)
          · omega
          · refine hy_iload (i := 30) rfl rfl ?_
            refine hy_aload (i := 31) rfl rfl ?_
            refine hy_getr (i := 32) rfl rfl ?_
            refine hy_iload (i := 33) rfl rfl ?_
            refine hy_iald (i := 34) rfl rfl (by omega) (k := 0) rfl ?_
            refine hy_const (i := 35) rfl (by decide) ?_
            refine hy_ic_ne (i := 36) (tt := 39) rfl (fun zc2 => ?_) (fun zc2 => ?_)
            · refine hy_const (i := 39) rfl (by decide) ?_
              refine hy_iadd (i := 40) rfl (by omega) ?_
              refine hy_istore (i := 41) rfl ?_
              refine hy_aload (i := 42) rfl rfl ?_
              refine hy_getr (i := 43) rfl rfl ?_
              refine hy_iload (i := 44) rfl rfl ?_
              refine hy_iald (i := 45) rfl rfl (by omega) (k := 0) rfl ?_
              refine hy_iload (i := 46) rfl rfl ?_
              refine hy_ic_eq (i := 47) (tt := 49) rfl (fun zc3 => ?_) (fun zc3 => ?_)
              · refine hy_const (i := 49) rfl (by decide) ?_
                refine hy_istore (i := 50) rfl ?_
                refine hy_const (i := 51) rfl (by decide) ?_
                refine hy_istore (i := 52) rfl ?_
                exact inner 64 0 rfl
              · omega
            · omega
        · skip
          refine hy_iload (i := 27) rfl rfl ?_
          refine hy_const (i := 28) rfl (by decide) ?_
          refine hy_ic_ge (i := 29) (tt := 80) rfl (fun zc1 => ?_) (fun zc1 => ?_)
          · omega
          · refine hy_iload (i := 30) rfl rfl ?_
            refine hy_aload (i := 31) rfl rfl ?_
            refine hy_getr (i := 32) rfl rfl ?_
            refine hy_iload (i := 33) rfl rfl ?_
            refine hy_iald (i := 34) rfl rfl (by omega) (k := k) (by omega) ?_
            refine hy_const (i := 35) rfl (by decide) ?_
            refine hy_ic_ne (i := 36) (tt := 39) rfl (fun zc2 => ?_) (fun zc2 => ?_)
            · refine hy_const (i := 39) rfl (by decide) ?_
              refine hy_iadd (i := 40) rfl (by omega) ?_
              refine hy_istore (i := 41) rfl ?_
              refine hy_aload (i := 42) rfl rfl ?_
              refine hy_getr (i := 43) rfl rfl ?_
              refine hy_iload (i := 44) rfl rfl ?_
              refine hy_iald (i := 45) rfl rfl (by omega) (k := k) (by omega) ?_
              refine hy_iload (i := 46) rfl rfl ?_
              refine hy_ic_eq (i := 47) (tt := 49) rfl (fun zc3 => ?_) (fun zc3 => ?_)
              · omega
              · refine hy_goto (i := 48) (tt := 78) rfl ?_
                refine hy_iinc (i := 78) rfl rfl (by omega) ?_
                refine hy_goto (i := 79) (tt := 27) rfl ?_
                exact ih (k + 1) _ _ _ _ (by omega) (by omega)
            · omega
    have t1as : ∀ f : Nat, f < 64 → mf_as0N t 12 63 f = 12 := fun f hf => by rw [mf_as0N_F t 12 63 f rfl]; exact h63 f hf
    have z1 : ∀ f : Nat, f < 64 → mf_as0N t 12 79 (mf_as0N t 12 63 f).toNat = 12 := fun f hf => by rw [t1as f hf]; exact mf_as0N_v t 12 12 (by decide) (.inr rfl)
    have p0 := mf_sea0N_v z1 64 (by decide)
    obtain ⟨p1, p1b⟩ := mf_pass1 p0 64 (by decide)
    have p1z : ∀ g : Nat, g < 64 → (mf_seaP (mf_sea0N (mf_as0N t 12) 64) 64).2 102 g = 0 := fun g hg => by rw [p1 g hg, if_pos (by omega)]
    have p2 := mf_pass2 p1z 64 (by decide)
    have seas : hy_Ct sc hm_M_laysSeas 2 [.inr (some 59)] (mf_as0N t 12) (hy_e none (mf_seaP (mf_sea0N (mf_as0N t 12) 64) 64).2) := by
      refine c_M_laysSeasOf (fun f hf => by rw [t1as f hf]; decide) ?_
      refine c_M_seaPass ?_
      rw [p1b]
      refine c_M_seaPass ?_
      rw [p2]
      dsimp only
      generalize (mf_seaP (mf_sea0N (mf_as0N t 12) 64) 64).2 = T
      refine hy_iload (i := 25) rfl rfl ?_
      refine hy_if_eq (i := 26) (tt := 65) rfl (fun zc1 => ?_) (fun zc1 => ?_)
      · refine hy_return (i := 65) rfl rfl ?_
        exact ⟨rfl, rfl⟩
      · exact absurd rfl zc1
    refine hy_iload (i := 0) rfl rfl ?_
    refine hy_cS1e (i := 1) rfl (by decide) mj_M_isEmpire (by decide) rfl (Nat.le_of_ble_eq_true rfl) (c_M_isEmpire) ?_
    refine hy_ib_eq (i := 2) (tt := 11) rfl (fun zc1 => ?_) (fun zc1 => ?_)
    · simp at zc1; omega
    · refine hy_iload (i := 3) rfl rfl ?_
      refine hy_cS1e (i := 4) rfl (by decide) mj_M_isQuarter (by decide) rfl (Nat.le_of_ble_eq_true rfl) (c_M_isQuarter) ?_
      refine hy_ib_eq (i := 5) (tt := 11) rfl (fun zc2 => ?_) (fun zc2 => ?_)
      · simp at zc2; omega
      · refine hy_iload (i := 6) rfl rfl ?_
        refine hy_const (i := 7) rfl (by decide) ?_
        refine hy_const (i := 8) rfl (by decide) ?_
        refine hy_cS3e (i := 9) rfl (by decide) mj_M_in (by decide) rfl (Nat.le_of_ble_eq_true rfl) (c_M_in) ?_
        refine hy_ib_ne (i := 10) (tt := 13) rfl (fun zc3 => ?_) (fun zc3 => ?_)
        · refine hy_aload (i := 13) rfl rfl ?_
          refine hy_iload (i := 14) rfl rfl ?_
          refine hy_iload (i := 15) rfl rfl ?_
          refine hy_cV2v (i := 16) rfl mj_M_laysAs (by decide) rfl (Nat.le_of_ble_eq_true rfl) rfl rfl rfl (c_M_laysAs0 h0) ?_
          refine hy_aload (i := 17) rfl rfl ?_
          refine hy_cV0v (i := 18) rfl mj_M_laysSeas (by decide) rfl (Nat.le_of_ble_eq_true rfl) rfl rfl rfl (seas) ?_
          refine hy_const (i := 19) rfl (by decide) ?_
          refine hy_istore (i := 20) rfl ?_
          refine hy_const (i := 21) rfl (by decide) ?_
          refine hy_istore (i := 22) rfl ?_
          refine hy_const (i := 23) rfl (by decide) ?_
          refine hy_istore (i := 24) rfl ?_
          refine hy_const (i := 25) rfl (by decide) ?_
          refine hy_istore (i := 26) rfl ?_
          exact loop _ p1z 64 0 _ _ _ _ rfl (.inl ⟨rfl, rfl, rfl⟩)
        · simp at zc3; omega
  · rw [if_neg hq]
    refine hy_iload (i := 0) rfl rfl ?_
    refine hy_cS1e (i := 1) rfl (by decide) mj_M_isEmpire (by decide) rfl (Nat.le_of_ble_eq_true rfl) (c_M_isEmpire) ?_
    refine hy_ib_eq (i := 2) (tt := 11) rfl (fun zc1 => ?_) (fun zc1 => ?_)
    · refine hy_const (i := 11) rfl (by decide) ?_
      refine hy_ireturn (i := 12) rfl rfl ?_
      exact rfl
    · refine hy_iload (i := 3) rfl rfl ?_
      refine hy_cS1e (i := 4) rfl (by decide) mj_M_isQuarter (by decide) rfl (Nat.le_of_ble_eq_true rfl) (c_M_isQuarter) ?_
      refine hy_ib_eq (i := 5) (tt := 11) rfl (fun zc2 => ?_) (fun zc2 => ?_)
      · refine hy_const (i := 11) rfl (by decide) ?_
        refine hy_ireturn (i := 12) rfl rfl ?_
        exact rfl
      · refine hy_iload (i := 6) rfl rfl ?_
        refine hy_const (i := 7) rfl (by decide) ?_
        refine hy_const (i := 8) rfl (by decide) ?_
        refine hy_cS3e (i := 9) rfl (by decide) mj_M_in (by decide) rfl (Nat.le_of_ble_eq_true rfl) (c_M_in) ?_
        refine hy_ib_ne (i := 10) (tt := 13) rfl (fun zc3 => ?_) (fun zc3 => ?_)
        · exfalso; simp only [decide_eq_true_eq] at zc1 zc2 zc3; exact hq ⟨⟨zc1, zc2⟩, by omega, by omega⟩
        · refine hy_const (i := 11) rfl (by decide) ?_
          refine hy_ireturn (i := 12) rfl rfl ?_
          exact rfl
end MF
/-! the class's seas of a land all ash -/
def fl_sideN (f : Nat) (D : Nat) (S : List Nat) : Nat → Nat × List Nat
  | 0 => (D, S)
  | n + 1 => match fl_sideN f D S n with
    | (D', S') => if 0 ≤ pa_beside f n ∧ D'.testBit (pa_beside f n).toNat = false ∧ S'.length < 64 then (D' ||| 2 ^ (pa_beside f n).toNat, (pa_beside f n).toNat :: S') else (D', S')
def fl_fillN : Nat → Nat → List Nat → Nat → Nat × Nat
  | 0, D, _, z => (D, z)
  | _ + 1, D, [], z => (D, z)
  | n + 1, D, f :: S, z => match fl_sideN f D S 4 with
    | (D', S') => fl_fillN n D' S' (z + 1)
theorem fl_all : fl_fillN 64 1 [0] 0 = (2 ^ 64 - 1, 64) := by decide +kernel
abbrev fl_R (t : hy_T) (w : Int) (D : Nat) (S : List Nat) : Prop :=
  (∀ j : Nat, j < 64 → t 53 j = 1) ∧ (∀ j : Nat, j < 64 → t 54 j = if D.testBit j = true then 1 else 0) ∧ w = S.length ∧ S.length ≤ 64 ∧ ∀ (i : Nat) (h : i < S.length), S[i] < 64 ∧ t 56 (S.length - 1 - i) = (S[i] : Nat)
theorem fl_push {t : hy_T} {w : Int} {D : Nat} {S : List Nat} (h : fl_R t w D S) {b : Nat} (hb : b < 64) (hl : S.length < 64) : fl_R (pa_push t b w).1 (pa_push t b w).2 (D ||| 2 ^ b) (b :: S) := by
  obtain ⟨h1, h2, h3, h4, h5⟩ := h
  have e : pa_push t b w = (hy_up (hy_up t 54 b 1) 56 S.length b, w + 1) := by
    unfold pa_push
    rw [if_pos ⟨⟨by omega, by omega⟩, by omega, by omega⟩, show (b : Int).toNat = b from rfl, show w.toNat = S.length by omega]
  rw [e]
  refine ⟨fun j hj => h1 j hj, fun j hj => ?_, by simp; omega, by simp; omega, fun i hi => ?_⟩
  · show hy_up (hy_up t 54 b 1) 56 S.length (b : Int) 54 j = _
    rw [Nat.testBit_or, Nat.testBit_two_pow]
    by_cases hjb : j = b
    · subst hjb; simp [hy_up]
    · rw [show hy_up (hy_up t 54 b 1) 56 S.length (b : Int) 54 j = t 54 j by simp [hy_up, hjb], h2 j hj, decide_eq_false (show ¬ b = j by omega), Bool.or_false]
  · cases i with
    | zero =>
      refine ⟨hb, ?_⟩
      show hy_up (hy_up t 54 b 1) 56 S.length (b : Int) 56 ((b :: S).length - 1 - 0) = _
      rw [show (b :: S).length - 1 - 0 = S.length by simp]
      simp [hy_up]
    | succ i =>
      have hi2 : i < S.length := by simp at hi; omega
      obtain ⟨a1, a2⟩ := h5 i hi2
      refine ⟨a1, ?_⟩
      show hy_up (hy_up t 54 b 1) 56 S.length (b : Int) 56 ((b :: S).length - 1 - (i + 1)) = _
      rw [show (b :: S).length - 1 - (i + 1) = S.length - 1 - i by simp; omega]
      rw [show hy_up (hy_up t 54 b 1) 56 S.length (b : Int) 56 (S.length - 1 - i) = t 56 (S.length - 1 - i) by
        simp only [hy_up]
        rw [if_neg (by omega), if_neg (by omega)]]
      exact a2
theorem fl_side {t : hy_T} {w : Int} {D : Nat} {S : List Nat} (h : fl_R t w D S) {f : Nat} (hf : f < 64) : ∀ n : Nat, fl_R (pa_side t f w n).1 (pa_side t f w n).2 (fl_sideN f D S n).1 (fl_sideN f D S n).2
  | 0 => h
  | n + 1 => by
    have ih := fl_side h hf n
    have hb := pa_beside_in (f := (f : Int)) (by omega) n
    have e : fl_sideN f D S (n + 1) = if 0 ≤ pa_beside f n ∧ (fl_sideN f D S n).1.testBit (pa_beside f n).toNat = false ∧ (fl_sideN f D S n).2.length < 64 then ((fl_sideN f D S n).1 ||| 2 ^ (pa_beside f n).toNat, (pa_beside f n).toNat :: (fl_sideN f D S n).2) else ((fl_sideN f D S n).1, (fl_sideN f D S n).2) := by
      conv => lhs; unfold fl_sideN
    rw [e]
    generalize fl_sideN f D S n = P at ih
    obtain ⟨D', S'⟩ := P
    dsimp only at ih ⊢
    simp only [pa_side]
    obtain ⟨i1, i2, i3, i4, i5⟩ := ih
    by_cases hp : 0 ≤ pa_beside f n
    · have v1 := i1 (pa_beside f n).toNat (by omega)
      have v2 := i2 (pa_beside f n).toNat (by omega)
      by_cases hd : D'.testBit (pa_beside f n).toNat = true
      · rw [if_pos hd] at v2
        rw [if_neg (fun q => by rw [v2] at q; exact absurd q.2.2 (by decide)), if_neg (fun q => by rw [hd] at q; exact absurd q.2.1 (by decide))]
        exact ⟨i1, i2, i3, i4, i5⟩
      · rw [if_neg hd] at v2
        rw [if_pos ⟨hp, by rw [v1]; decide, v2⟩]
        rw [Bool.not_eq_true] at hd
        by_cases hl : S'.length < 64
        · rw [if_pos ⟨hp, hd, hl⟩]
          have := fl_push ⟨i1, i2, i3, i4, i5⟩ (b := (pa_beside f n).toNat) (by omega) hl
          rw [show (((pa_beside f n).toNat : Nat) : Int) = pa_beside f n by omega] at this
          exact this
        · rw [if_neg (fun q => hl q.2.2)]
          have e2 : pa_push (pa_side t f w n).1 (pa_beside f n) (pa_side t f w n).2 = ((pa_side t f w n).1, (pa_side t f w n).2) := by
            unfold pa_push
            rw [if_neg (by omega)]
          rw [e2]
          exact ⟨i1, i2, i3, i4, i5⟩
    · rw [if_neg (fun q => hp q.1), if_neg (fun q => hp q.1)]
      exact ⟨i1, i2, i3, i4, i5⟩
theorem fl_fill : ∀ (n : Nat) {t : hy_T} {w : Int} {D : Nat} {S : List Nat} (z : Nat), fl_R t w D S → (pa_fillN n t w z).2 = ((fl_fillN n D S z).2 : Nat) ∧ ∀ j : Nat, j < 64 → (pa_fillN n t w z).1 54 j = if (fl_fillN n D S z).1.testBit j = true then 1 else 0
  | 0, t, w, D, S, z, h => ⟨rfl, h.2.1⟩
  | n + 1, t, w, D, [], z, h => by
    have h3 := h.2.2.1
    simp only [pa_fillN]
    rw [if_neg (by simp at h3; omega)]
    exact ⟨rfl, h.2.1⟩
  | n + 1, t, w, D, f :: S, z, h => by
    obtain ⟨h1, h2, h3, h4, h5⟩ := h
    simp only [List.length_cons] at h3 h4
    have hw : 0 < w := by omega
    obtain ⟨hf, hv⟩ := h5 0 (by simp)
    simp only [List.length_cons, List.getElem_cons_zero] at hf hv
    have hv2 : t 56 (w - 1).toNat = (f : Int) := by
      rw [show (w - 1).toNat = S.length + 1 - 1 - 0 by omega]
      exact hv
    have hr : fl_R t (w - 1) D S := by
      refine ⟨h1, h2, by omega, by omega, fun i hi => ?_⟩
      obtain ⟨a1, a2⟩ := h5 (i + 1) (by simp; omega)
      simp only [List.length_cons, List.getElem_cons_succ] at a1 a2
      exact ⟨a1, by rw [← a2]; congr 1; omega⟩
    have hs := fl_side hr hf 4
    have e : fl_fillN (n + 1) D (f :: S) z = fl_fillN n (fl_sideN f D S 4).1 (fl_sideN f D S 4).2 (z + 1) := by
      conv => lhs; unfold fl_fillN
    have e2 : pa_fillN (n + 1) t w z = pa_fillN n (pa_side t f (w - 1) 4).1 (pa_side t f (w - 1) 4).2 ((z + 1 : Nat) : Int) := by
      simp only [pa_fillN]
      rw [if_pos hw, hv2]
      rfl
    rw [e, e2]
    exact fl_fill n (z + 1) hs
theorem pa_forgetN_0 (t : hy_T) : ∀ (n j : Nat), j < n → pa_forgetN t n 54 j = 0
  | 0, j, h => by omega
  | n + 1, j, h => by
    simp only [pa_forgetN]
    by_cases e : j = n
    · subst e; simp [hy_up]
    · rw [show ∀ v, hy_up (hy_up (pa_forgetN t n) 54 n 0) 55 n v 54 j = pa_forgetN t n 54 j from fun v => by simp [hy_up, e]]
      exact pa_forgetN_0 t n j (by omega)
theorem fl_seas {t : hy_T} (h : ∀ j : Nat, j < 64 → t 53 j = 1) : ∀ n : Nat, n ≤ 64 → 0 < n → (∀ j : Nat, j < 64 → pa_seaN t n 54 j = 1 ∧ pa_seaN t n 53 j = 1) ∧ pa_seaN t n 52 4 = 1 ∧ pa_seaN t n 52 5 = 64
  | 0, _, h0 => by omega
  | 1, _, _ => by
    have z53 : ∀ j : Nat, j < 64 → pa_seaN t 0 53 j = 1 := fun j hj => by
      show hy_up (hy_up (pa_forgetN t 64) 52 4 0) 52 5 0 53 j = 1
      rw [show hy_up (hy_up (pa_forgetN t 64) 52 4 0) 52 5 0 53 j = pa_forgetN t 64 53 j from rfl, pa_forgetN_G t 64 53 j rfl, h j hj]
    have z54 : ∀ j : Nat, j < 64 → pa_seaN t 0 54 j = 0 := fun j hj => pa_forgetN_0 t 64 j hj
    have z4 : pa_seaN t 0 52 4 = 0 := rfl
    have z5 : pa_seaN t 0 52 5 = 0 := rfl
    have e : pa_seaN t 1 = hy_up (pa_fill (hy_up (pa_seaN t 0) 52 4 (pa_seaN t 0 52 4 + 1)) 0).1 52 5 (if pa_seaN t 0 52 5 < (pa_fill (hy_up (pa_seaN t 0) 52 4 (pa_seaN t 0 52 4 + 1)) 0).2 then (pa_fill (hy_up (pa_seaN t 0) 52 4 (pa_seaN t 0 52 4 + 1)) 0).2 else pa_seaN t 0 52 5) := by
      conv => lhs; unfold pa_seaN
      rw [if_pos ⟨by rw [z53 0 (by decide)]; decide, z54 0 (by decide)⟩]
      rfl
    rw [z4, z5] at e
    generalize hT : hy_up (pa_seaN t 0) 52 4 (0 + 1) = T at e
    have T53 : ∀ j : Nat, j < 64 → T 53 j = 1 := fun j hj => by rw [← hT, show ∀ (u : hy_T) (v : Int), hy_up u 52 4 v 53 j = u 53 j from fun _ _ => rfl]; exact z53 j hj
    have T54 : ∀ j : Nat, j < 64 → T 54 j = 0 := fun j hj => by rw [← hT, show ∀ (u : hy_T) (v : Int), hy_up u 52 4 v 54 j = u 54 j from fun _ _ => rfl]; exact z54 j hj
    have T4 : T 52 4 = 1 := by rw [← hT, show ∀ (u : hy_T) (v : Int), hy_up u 52 4 v 52 4 = v from fun _ _ => rfl]; rfl
    have r0 : fl_R T 0 0 [] := ⟨T53, fun j hj => by rw [T54 j hj]; simp, rfl, by simp, fun i hi => by simp at hi⟩
    have r1 := fl_push r0 (b := 0) (by decide) (by simp)
    have r2 := fl_fill 64 0 r1
    rw [show (0 : Nat) ||| 2 ^ 0 = 1 from rfl, fl_all] at r2
    obtain ⟨s1, s2⟩ := r2
    have f1 : (pa_fill T 0).2 = 64 := s1
    have f2 : ∀ j : Nat, j < 64 → (pa_fill T 0).1 54 j = 1 := fun j hj => by
      refine (s2 j hj).trans (if_pos ?_)
      show (2 ^ 64 - 1).testBit j = true
      rw [Nat.testBit_two_pow_sub_one]
      exact decide_eq_true hj
    have fF : hy_F pfX T (pa_fill T 0).1 := by
      unfold pa_fill
      have g1 : ∀ (n : Nat) (u : hy_T) (w z : Int), hy_F pfX u (pa_fillN n u w z).1 := by
        intro n
        induction n with
        | zero => intro u w z; exact hy_F.rf
        | succ n ih =>
          intro u w z
          have g2 : ∀ (f w : Int) (s : Nat), hy_F pfX u (pa_side u f w s).1 := by
            intro f w s
            induction s with
            | zero => exact hy_F.rf
            | succ s ihs =>
              simp only [pa_side]
              split
              · unfold pa_push
                split
                · exact (ihs.up rfl).up rfl
                · exact ihs
              · exact ihs
          simp only [pa_fillN]
          split
          · exact (g2 _ _ 4).tr' (ih _ _ _)
          · exact hy_F.rf
      refine hy_F.tr' ?_ (g1 64 _ _ _)
      unfold pa_push
      split
      · exact (hy_F.rf.up rfl).up rfl
      · exact hy_F.rf
    rw [f1] at e
    refine ⟨fun j hj => ⟨?_, ?_⟩, ?_, ?_⟩
    · rw [e]; exact f2 j hj
    · rw [e]; exact (fF 53 j rfl).trans (T53 j hj)
    · rw [e]; exact (fF 52 4 rfl).trans T4
    · rw [e]; rfl
  | n + 2, hn, _ => by
    obtain ⟨i1, i2, i3⟩ := fl_seas h (n + 1) (by omega) (by omega)
    have e : pa_seaN t (n + 2) = pa_seaN t (n + 1) := by
      conv => lhs; unfold pa_seaN
      rw [if_neg (fun q => by rw [(i1 (n + 1) (by omega)).1] at q; exact absurd q.2 (by decide))]
    rw [e]
    exact ⟨i1, i2, i3⟩
