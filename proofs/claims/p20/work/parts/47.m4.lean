/-! the model, where nothing is told yet: days, tried, painting, signals, battle -/
theorem mf_pack1_F (r : Nat) (t : hy_T) (k : Nat) : hy_F (fun r' _ => r' == r) t (mf_pack1 r t k) := by
  unfold mf_pack1
  exact (((((hy_F.rf.up (by simp)).up (by simp)).up (by simp)).up (by simp)).up (by simp)).up (by simp)
theorem mf_packN_F (r : Nat) (t : hy_T) : ∀ k, hy_F (fun r' _ => r' == r) t (mf_packN r t k)
  | 0 => hy_F.rf
  | k + 1 => (mf_packN_F r t k).tr' (mf_pack1_F r _ k)
theorem mf_begins_0 (t : hy_T) {j : Nat} (hj : j ≠ 51 ∧ j ≠ 52 ∧ j ≠ 53) : mf_begins t 59 j = t 59 j := by
  have h1 := mf_packN_F 92 (hy_cp t 62 91 48) 16 59 j rfl
  simp only [mf_begins, mf_set3, hy_up]
  rw [if_neg (by omega), if_neg (by omega), if_neg (by omega), h1]
  rfl
theorem mf_bitsN_0 : ∀ k, mf_bitsN 0 k = 0
  | 0 => rfl
  | k + 1 => by simp only [mf_bitsN, mf_bitsN_0 k, hz_b_0]; rfl
section MD
variable {sc : List Int32} {t : hy_T}
theorem c_M_daysGo0 {n : Int} (hn : n ≤ 99) (h34 : t 59 34 = 0) (hd : 0 ≤ t 59 2 ∧ t 59 2 ≤ 9999) : hy_Ct sc hm_M_daysGo 5 [.inr (some 59), .inl n] t (fun r t' => r = none ∧ t' 59 58 = 0 ∧ t' 59 59 = -2 ∧ t' 59 60 = -2) := by
  refine hy_mk_ct ok_M_daysGo ck_M_daysGo (Nat.le_of_ble_eq_true rfl) ?_
  have loop : ∀ (m : Nat), ∀ (k : Nat) (t1 : hy_T) (v3 : hy_V), m + k = n.toNat → t1 59 34 = 0 → (0 ≤ t1 59 2 ∧ t1 59 2 ≤ 9999) → t1 59 58 = 0 → t1 59 59 = -2 → t1 59 60 = -2 → hy_W sc hm_M_daysGo 5 11 [.inr (some 59), .inl n, .inl (k : Int), v3] [] t1 (fun r t' => r = none ∧ t' 59 58 = 0 ∧ t' 59 59 = -2 ∧ t' 59 60 = -2) := by
    intro m
    induction m with
    | zero =>
      intro k t1 v3 hm h34 hd a b c
      refine hy_iload (i := 11) rfl rfl ?_
      refine hy_iload (i := 12) rfl rfl ?_
      refine hy_ic_ge (i := 13) (tt := 59) rfl (fun zc1 => ?_) (fun zc1 => ?_)
      · refine hy_return (i := 59) rfl rfl ?_
        exact ⟨rfl, a, b, c⟩
      · omega
    | succ m ih =>
      intro k t1 v3 hm h34 hd a b c
      refine hy_iload (i := 11) rfl rfl ?_
      refine hy_iload (i := 12) rfl rfl ?_
      refine hy_ic_ge (i := 13) (tt := 59) rfl (fun zc1 => ?_) (fun zc1 => ?_)
      · refine hy_return (i := 59) rfl rfl ?_
        exact ⟨rfl, a, b, c⟩
      · refine hy_aload (i := 14) rfl rfl ?_
        refine hy_get (i := 15) (fk := 2) rfl rfl rfl ?_
        refine hy_const (i := 16) rfl (by decide) ?_
        refine hy_ic_ge (i := 17) (tt := 59) rfl (fun zc2 => ?_) (fun zc2 => ?_)
        · refine hy_return (i := 59) rfl rfl ?_
          exact ⟨rfl, a, b, c⟩
        · refine hy_const (i := 18) rfl (by decide) ?_
          refine hy_istore (i := 19) rfl ?_
          refine hy_iload (i := 20) rfl rfl ?_
          refine hy_aload (i := 21) rfl rfl ?_
          refine hy_get (i := 22) (fk := 34) rfl rfl rfl ?_
          refine hy_ic_ge (i := 23) (tt := 51) rfl (fun zc3 => ?_) (fun zc3 => ?_)
          · refine hy_aload (i := 51) rfl rfl ?_
            refine hy_aload (i := 52) rfl rfl ?_
            refine hy_get (i := 53) (fk := 2) rfl rfl rfl ?_
            refine hy_const (i := 54) rfl (by decide) ?_
            refine hy_iadd (i := 55) rfl (by omega) ?_
            refine hy_put (i := 56) (fk := 2) rfl rfl rfl rfl ?_
            refine hy_iinc (i := 57) rfl rfl (by omega) ?_
            refine hy_goto (i := 58) (tt := 11) rfl ?_
            exact ih (k + 1) _ _ (by omega) h34 (by show 0 ≤ t1 59 2 + 1 ∧ t1 59 2 + 1 ≤ 9999; omega) a b c
          · omega
  refine hy_aload (i := 0) rfl rfl ?_
  refine hy_const (i := 1) rfl (by decide) ?_
  refine hy_put (i := 2) (fk := 58) rfl rfl rfl rfl ?_
  refine hy_aload (i := 3) rfl rfl ?_
  refine hy_const (i := 4) rfl (by decide) ?_
  refine hy_put (i := 5) (fk := 59) rfl rfl rfl rfl ?_
  refine hy_aload (i := 6) rfl rfl ?_
  refine hy_const (i := 7) rfl (by decide) ?_
  refine hy_put (i := 8) (fk := 60) rfl rfl rfl rfl ?_
  refine hy_const (i := 9) rfl (by decide) ?_
  refine hy_istore (i := 10) rfl ?_
  exact loop n.toNat 0 _ _ rfl h34 hd rfl rfl rfl
theorem c_M_days0 {n : Int} (h34 : t 59 34 = 0) (hd : 0 ≤ t 59 2 ∧ t 59 2 ≤ 9999) : hy_Ct sc hm_M_days 6 [.inr (some 59), .inl n] t (hy_r (if 1 ≤ n ∧ n ≤ 99 then 0 else -1)) := by
  refine hy_mk_ct ok_M_days ck_M_days (Nat.le_of_ble_eq_true rfl) ?_
  by_cases hq : 1 ≤ n ∧ n ≤ 99
  · rw [if_pos hq]
    refine hy_iload (i := 0) rfl rfl ?_
    refine hy_const (i := 1) rfl (by decide) ?_
    refine hy_const (i := 2) rfl (by decide) ?_
    refine hy_cS3e (i := 3) rfl (by decide) mj_M_in (by decide) rfl (Nat.le_of_ble_eq_true rfl) (c_M_in) ?_
    refine hy_ib_ne (i := 4) (tt := 7) rfl (fun zc1 => ?_) (fun zc1 => ?_)
    · refine hy_aload (i := 7) rfl rfl ?_
      refine hy_iload (i := 8) rfl rfl ?_
      refine hy_cV1 (i := 9) rfl mj_M_daysGo (by decide) rfl (Nat.le_of_ble_eq_true rfl) rfl rfl rfl (c_M_daysGo0 (by omega) h34 hd) (fun r2_ t2_ h2 => ?_)
      obtain ⟨rfl, a, b, c⟩ := h2
      dsimp only [hy_st, List.nil_append]
      refine hy_aload (i := 10) rfl rfl ?_
      refine hy_get (i := 11) (fk := 58) rfl rfl rfl ?_
      refine hy_ireturn (i := 12) rfl rfl ?_
      exact congrArg some a
    · simp at zc1; omega
  · rw [if_neg hq]
    refine hy_iload (i := 0) rfl rfl ?_
    refine hy_const (i := 1) rfl (by decide) ?_
    refine hy_const (i := 2) rfl (by decide) ?_
    refine hy_cS3e (i := 3) rfl (by decide) mj_M_in (by decide) rfl (Nat.le_of_ble_eq_true rfl) (c_M_in) ?_
    refine hy_ib_ne (i := 4) (tt := 7) rfl (fun zc1 => ?_) (fun zc1 => ?_)
    · simp at zc1; omega
    · refine hy_const (i := 5) rfl (by decide) ?_
      refine hy_ireturn (i := 6) rfl rfl ?_
      exact rfl
theorem c_M_tried0 {n w : Int} (h0 : t 59 0 = 0) (h34 : t 59 34 = 0) (hd : 0 ≤ t 59 2 ∧ t 59 2 ≤ 9999) : hy_Ct sc hm_M_tried 6 [.inr (some 59), .inl n, .inl w] t (hy_r (if (1 ≤ n ∧ n ≤ 99) ∧ 0 ≤ w ∧ w < 3 then (if w = 0 then 0 else -2) else -1)) := by
  refine hy_mk_ct ok_M_tried ck_M_tried (Nat.le_of_ble_eq_true rfl) ?_
  by_cases hq : (1 ≤ n ∧ n ≤ 99) ∧ 0 ≤ w ∧ w < 3
  · rw [if_pos hq]
    refine hy_iload (i := 0) rfl rfl ?_
    refine hy_const (i := 1) rfl (by decide) ?_
    refine hy_const (i := 2) rfl (by decide) ?_
    refine hy_cS3e (i := 3) rfl (by decide) mj_M_in (by decide) rfl (Nat.le_of_ble_eq_true rfl) (c_M_in) ?_
    refine hy_ib_eq (i := 4) (tt := 16) rfl (fun zc1 => ?_) (fun zc1 => ?_)
    · simp at zc1; omega
    · refine hy_iload (i := 5) rfl rfl ?_
      refine hy_const (i := 6) rfl (by decide) ?_
      refine hy_const (i := 7) rfl (by decide) ?_
      refine hy_cS3e (i := 8) rfl (by decide) mj_M_in (by decide) rfl (Nat.le_of_ble_eq_true rfl) (c_M_in) ?_
      refine hy_ib_ne (i := 9) (tt := 18) rfl (fun zc2 => ?_) (fun zc2 => ?_)
      · refine hy_aload (i := 18) rfl rfl ?_
        refine hy_cV0v (i := 19) rfl mj_M_begins (by decide) rfl (Nat.le_of_ble_eq_true rfl) rfl rfl rfl (c_M_begins) ?_
        refine hy_aload (i := 20) rfl rfl ?_
        refine hy_iload (i := 21) rfl rfl ?_
        refine hy_cV1 (i := 22) rfl mj_M_daysGo (by decide) rfl (Nat.le_of_ble_eq_true rfl) rfl rfl rfl (c_M_daysGo0 (by omega) ((mf_begins_0 t (by decide)).trans h34) (by rw [mf_begins_0 t (by decide)]; exact hd)) (fun r4_ t4_ h4 => ?_)
        obtain ⟨rfl, a, b, c⟩ := h4
        dsimp only [hy_st, List.nil_append]
        refine hy_iload (i := 23) rfl rfl ?_
        refine hy_if_ne (i := 24) (tt := 28) rfl (fun zc3 => ?_) (fun zc3 => ?_)
        · refine hy_iload (i := 28) rfl rfl ?_
          refine hy_const (i := 29) rfl (by decide) ?_
          refine hy_ic_ne (i := 30) (tt := 34) rfl (fun zc4 => ?_) (fun zc4 => ?_)
          · refine hy_iload (i := 34) rfl rfl ?_
            refine hy_const (i := 35) rfl (by decide) ?_
            refine hy_ic_ne (i := 36) (tt := 40) rfl (fun zc5 => ?_) (fun zc5 => ?_)
            · omega
            · refine hy_aload (i := 37) rfl rfl ?_
              refine hy_get (i := 38) (fk := 60) rfl rfl rfl ?_
              refine hy_goto (i := 39) (tt := 45) rfl ?_
              refine hy_istore (i := 45) rfl ?_
              refine hy_aload (i := 46) rfl rfl ?_
              refine hy_cV0v (i := 47) rfl mj_M_again (by decide) rfl (Nat.le_of_ble_eq_true rfl) rfl rfl rfl (c_M_again) ?_
              refine hy_iload (i := 48) rfl rfl ?_
              refine hy_ireturn (i := 49) rfl rfl ?_
              exact congrArg some (by first | (rw [if_pos (by omega)]; exact a) | (rw [if_neg (by omega)]; first | exact b | exact c))
          · refine hy_aload (i := 31) rfl rfl ?_
            refine hy_get (i := 32) (fk := 59) rfl rfl rfl ?_
            refine hy_goto (i := 33) (tt := 45) rfl ?_
            refine hy_istore (i := 45) rfl ?_
            refine hy_aload (i := 46) rfl rfl ?_
            refine hy_cV0v (i := 47) rfl mj_M_again (by decide) rfl (Nat.le_of_ble_eq_true rfl) rfl rfl rfl (c_M_again) ?_
            refine hy_iload (i := 48) rfl rfl ?_
            refine hy_ireturn (i := 49) rfl rfl ?_
            exact congrArg some (by first | (rw [if_pos (by omega)]; exact a) | (rw [if_neg (by omega)]; first | exact b | exact c))
        · refine hy_aload (i := 25) rfl rfl ?_
          refine hy_get (i := 26) (fk := 58) rfl rfl rfl ?_
          refine hy_goto (i := 27) (tt := 45) rfl ?_
          refine hy_istore (i := 45) rfl ?_
          refine hy_aload (i := 46) rfl rfl ?_
          refine hy_cV0v (i := 47) rfl mj_M_again (by decide) rfl (Nat.le_of_ble_eq_true rfl) rfl rfl rfl (c_M_again) ?_
          refine hy_iload (i := 48) rfl rfl ?_
          refine hy_ireturn (i := 49) rfl rfl ?_
          exact congrArg some (by first | (rw [if_pos (by omega)]; exact a) | (rw [if_neg (by omega)]; first | exact b | exact c))
      · simp at zc2; omega
  · rw [if_neg hq]
    refine hy_iload (i := 0) rfl rfl ?_
    refine hy_const (i := 1) rfl (by decide) ?_
    refine hy_const (i := 2) rfl (by decide) ?_
    refine hy_cS3e (i := 3) rfl (by decide) mj_M_in (by decide) rfl (Nat.le_of_ble_eq_true rfl) (c_M_in) ?_
    refine hy_ib_eq (i := 4) (tt := 16) rfl (fun zc1 => ?_) (fun zc1 => ?_)
    · refine hy_const (i := 16) rfl (by decide) ?_
      refine hy_ireturn (i := 17) rfl rfl ?_
      exact rfl
    · refine hy_iload (i := 5) rfl rfl ?_
      refine hy_const (i := 6) rfl (by decide) ?_
      refine hy_const (i := 7) rfl (by decide) ?_
      refine hy_cS3e (i := 8) rfl (by decide) mj_M_in (by decide) rfl (Nat.le_of_ble_eq_true rfl) (c_M_in) ?_
      refine hy_ib_ne (i := 9) (tt := 18) rfl (fun zc2 => ?_) (fun zc2 => ?_)
      · simp at zc1 zc2; omega
      · refine hy_aload (i := 10) rfl rfl ?_
        refine hy_iload (i := 11) rfl rfl ?_
        refine hy_const (i := 12) rfl (by decide) ?_
        refine hy_isubw (i := 13) rfl ?_
        refine hy_cV1e (i := 14) rfl mj_M_isPlain (by decide) rfl (Nat.le_of_ble_eq_true rfl) rfl rfl rfl (c_M_isPlain) ?_
        refine hy_ib_ne (i := 15) (tt := 18) rfl (fun zc3 => ?_) (fun zc3 => ?_)
        · rw [h0, sp_told_0, Bool.false_and] at zc3; cases zc3
        · refine hy_const (i := 16) rfl (by decide) ?_
          refine hy_ireturn (i := 17) rfl rfl ?_
          exact rfl
theorem c_M_painting0 {cs w : Int} (h0 : t 59 0 = 0) : hy_Ct sc hm_M_painting 6 [.inr (some 59), .inl cs, .inl w] t (hy_r (if cs = 0 ∧ 0 ≤ w ∧ w < 3 then (if w = 0 then 24 else 0) else -1)) := by
  refine hy_mk_ct ok_M_painting ck_M_painting (Nat.le_of_ble_eq_true rfl) ?_
  by_cases hq : cs = 0 ∧ 0 ≤ w ∧ w < 3
  · rw [if_pos hq]
    obtain ⟨rfl, hw⟩ := hq
    have loop : ∀ (m : Nat), ∀ (k : Nat) (f : Int), m + k = 24 → (f = -1 ∧ k = 0 ∨ f = 0 ∧ 0 < k) → hy_W sc hm_M_painting 6 25 [.inr (some 59), .inl 0, .inl w, .inl (k : Int), .inl f, .inl (k : Int)] [] t (hy_r (if w = 0 then 24 else 0)) := by
      intro m
      induction m with
      | zero =>
        intro k f hm hf
        obtain rfl : k = 24 := by omega
        obtain rfl : f = 0 := by omega
        refine hy_iload (i := 25) rfl rfl ?_
        refine hy_const (i := 26) rfl (by decide) ?_
        refine hy_ic_ge (i := 27) (tt := 55) rfl (fun zc1 => ?_) (fun zc1 => ?_)
        · refine hy_iload (i := 55) rfl rfl ?_
          refine hy_if_ne (i := 56) (tt := 59) rfl (fun zc2 => ?_) (fun zc2 => ?_)
          · refine hy_iload (i := 59) rfl rfl ?_
            refine hy_const (i := 60) rfl (by decide) ?_
            refine hy_ic_ne (i := 61) (tt := 64) rfl (fun zc3 => ?_) (fun zc3 => ?_)
            · refine hy_iload (i := 64) rfl rfl ?_
              refine hy_const (i := 65) rfl (by decide) ?_
              refine hy_ic_ne (i := 66) (tt := 71) rfl (fun zc4 => ?_) (fun zc4 => ?_)
              · refine hy_iload (i := 71) rfl rfl ?_
                refine hy_const (i := 72) rfl (by decide) ?_
                refine hy_irem (i := 73) rfl (by omega) (by omega) ?_
                refine hy_ireturn (i := 74) rfl rfl ?_
                exact congrArg some (by first | (rw [if_pos (by omega)]; rfl) | (rw [if_neg (by omega)]; rfl))
              · refine hy_iload (i := 67) rfl rfl ?_
                refine hy_const (i := 68) rfl (by decide) ?_
                refine hy_idiv (i := 69) rfl (by omega) (by omega) ?_
                refine hy_goto (i := 70) (tt := 74) rfl ?_
                refine hy_ireturn (i := 74) rfl rfl ?_
                exact congrArg some (by first | (rw [if_pos (by omega)]; rfl) | (rw [if_neg (by omega)]; rfl))
            · omega
          · refine hy_iload (i := 57) rfl rfl ?_
            refine hy_goto (i := 58) (tt := 74) rfl ?_
            refine hy_ireturn (i := 74) rfl rfl ?_
            exact congrArg some (by first | (rw [if_pos (by omega)]; rfl) | (rw [if_neg (by omega)]; rfl))
        · omega
      | succ m ih =>
        intro k f hm hf
        refine hy_iload (i := 25) rfl rfl ?_
        refine hy_const (i := 26) rfl (by decide) ?_
        refine hy_ic_ge (i := 27) (tt := 55) rfl (fun zc1 => ?_) (fun zc1 => ?_)
        · omega
        · refine hy_iload (i := 28) rfl rfl ?_
          refine hy_aload (i := 29) rfl rfl ?_
          refine hy_iload (i := 30) rfl rfl ?_
          refine hy_const (i := 31) rfl (by decide) ?_
          refine hy_idiv (i := 32) rfl (by omega) (by omega) ?_
          refine hy_iload (i := 33) rfl rfl ?_
          refine hy_const (i := 34) rfl (by decide) ?_
          refine hy_irem (i := 35) rfl (by omega) (by omega) ?_
          refine hy_cV2e (i := 36) rfl mj_M_seenBy (by decide) rfl (Nat.le_of_ble_eq_true rfl) rfl rfl rfl (c_M_seenBy0 h0) ?_
          refine hy_const (i := 37) rfl (by decide) ?_
          refine hy_ixor (i := 38) rfl ?_
          refine hy_iand (i := 39) rfl ?_
          refine hy_if_eq (i := 40) (tt := 42) rfl (fun zc2 => ?_) (fun zc2 => ?_)
          · refine hy_iload (i := 42) rfl rfl ?_
            refine hy_const (i := 43) rfl (by decide) ?_
            refine hy_ic_ne (i := 44) (tt := 47) rfl (fun zc3 => ?_) (fun zc3 => ?_)
            · refine hy_iload (i := 47) rfl rfl ?_
              refine hy_istore (i := 48) rfl ?_
              refine hy_iload (i := 49) rfl rfl ?_
              refine hy_const (i := 50) rfl (by decide) ?_
              refine hy_iadd (i := 51) rfl (by omega) ?_
              refine hy_istore (i := 52) rfl ?_
              refine hy_iinc (i := 53) rfl rfl (by omega) ?_
              refine hy_goto (i := 54) (tt := 25) rfl ?_
              exact ih (k + 1) _ (by omega) (by omega)
            · refine hy_iload (i := 45) rfl rfl ?_
              refine hy_goto (i := 46) (tt := 48) rfl ?_
              refine hy_istore (i := 48) rfl ?_
              refine hy_iload (i := 49) rfl rfl ?_
              refine hy_const (i := 50) rfl (by decide) ?_
              refine hy_iadd (i := 51) rfl (by omega) ?_
              refine hy_istore (i := 52) rfl ?_
              refine hy_iinc (i := 53) rfl rfl (by omega) ?_
              refine hy_goto (i := 54) (tt := 25) rfl ?_
              exact ih (k + 1) _ (by omega) (by omega)
          · exact absurd (hz_iand_0 _) zc2
    refine hy_iload (i := 0) rfl rfl ?_
    refine hy_const (i := 1) rfl (by decide) ?_
    refine hy_const (i := 2) rfl (by decide) ?_
    refine hy_cS3e (i := 3) rfl (by decide) mj_M_in (by decide) rfl (Nat.le_of_ble_eq_true rfl) (c_M_in) ?_
    refine hy_ib_eq (i := 4) (tt := 17) rfl (fun zc1 => ?_) (fun zc1 => ?_)
    · simp at zc1
    · refine hy_iload (i := 5) rfl rfl ?_
      refine hy_aload (i := 6) rfl rfl ?_
      refine hy_get (i := 7) (fk := 0) rfl rfl rfl ?_
      refine hy_const (i := 8) rfl (by decide) ?_
      refine hy_ixor (i := 9) rfl ?_
      refine hy_iand (i := 10) rfl ?_
      refine hy_if_ne (i := 11) (tt := 17) rfl (fun zc2 => ?_) (fun zc2 => ?_)
      · exact absurd (hz_iand_0 _) zc2
      · refine hy_iload (i := 12) rfl rfl ?_
        refine hy_const (i := 13) rfl (by decide) ?_
        refine hy_const (i := 14) rfl (by decide) ?_
        refine hy_cS3e (i := 15) rfl (by decide) mj_M_in (by decide) rfl (Nat.le_of_ble_eq_true rfl) (c_M_in) ?_
        refine hy_ib_ne (i := 16) (tt := 19) rfl (fun zc3 => ?_) (fun zc3 => ?_)
        · refine hy_const (i := 19) rfl (by decide) ?_
          refine hy_istore (i := 20) rfl ?_
          refine hy_const (i := 21) rfl (by decide) ?_
          refine hy_istore (i := 22) rfl ?_
          refine hy_const (i := 23) rfl (by decide) ?_
          refine hy_istore (i := 24) rfl ?_
          exact loop 24 0 _ rfl (.inl ⟨rfl, rfl⟩)
        · simp at zc3; omega
  · rw [if_neg hq]
    refine hy_iload (i := 0) rfl rfl ?_
    refine hy_const (i := 1) rfl (by decide) ?_
    refine hy_const (i := 2) rfl (by decide) ?_
    refine hy_cS3e (i := 3) rfl (by decide) mj_M_in (by decide) rfl (Nat.le_of_ble_eq_true rfl) (c_M_in) ?_
    refine hy_ib_eq (i := 4) (tt := 17) rfl (fun zc1 => ?_) (fun zc1 => ?_)
    · refine hy_const (i := 17) rfl (by decide) ?_
      refine hy_ireturn (i := 18) rfl rfl ?_
      exact rfl
    · refine hy_iload (i := 5) rfl rfl ?_
      refine hy_aload (i := 6) rfl rfl ?_
      refine hy_get (i := 7) (fk := 0) rfl rfl rfl ?_
      refine hy_const (i := 8) rfl (by decide) ?_
      refine hy_ixor (i := 9) rfl ?_
      refine hy_iand (i := 10) rfl ?_
      refine hy_if_ne (i := 11) (tt := 17) rfl (fun zc2 => ?_) (fun zc2 => ?_)
      · refine hy_const (i := 17) rfl (by decide) ?_
        refine hy_ireturn (i := 18) rfl rfl ?_
        exact rfl
      · refine hy_iload (i := 12) rfl rfl ?_
        refine hy_const (i := 13) rfl (by decide) ?_
        refine hy_const (i := 14) rfl (by decide) ?_
        refine hy_cS3e (i := 15) rfl (by decide) mj_M_in (by decide) rfl (Nat.le_of_ble_eq_true rfl) (c_M_in) ?_
        refine hy_ib_ne (i := 16) (tt := 19) rfl (fun zc3 => ?_) (fun zc3 => ?_)
        · exfalso; simp only [decide_eq_true_eq, decide_eq_false_iff_not] at zc1 zc3; rw [h0, hz_iand_n0 (show hy_R cs from ⟨by omega, by omega⟩)] at zc2; omega
        · refine hy_const (i := 17) rfl (by decide) ?_
          refine hy_ireturn (i := 18) rfl rfl ?_
          exact rfl
theorem c_M_laysAll0 {q : Int} (h0 : t 59 0 = 0) : hy_Ct sc hm_M_laysAll 7 [.inr (some 59), .inl q] t (fun r t' => r = none ∧ hy_F (fun r _ => r == 79 || r == 98) t t') := by
  refine hy_mk_ct ok_M_laysAll ck_M_laysAll (Nat.le_of_ble_eq_true rfl) ?_
  have loop : ∀ (m : Nat), ∀ (k : Nat) (t1 : hy_T) (v3 : hy_V), m + k = 6 → hy_F (fun r _ => r == 79 || r == 98) t t1 → hy_W sc hm_M_laysAll 7 2 [.inr (some 59), .inl q, .inl (k : Int), v3] [] t1 (fun r t' => r = none ∧ hy_F (fun r _ => r == 79 || r == 98) t t') := by
    intro m
    induction m with
    | zero =>
      intro k t1 v3 hm hF
      refine hy_iload (i := 2) rfl rfl ?_
      refine hy_const (i := 3) rfl (by decide) ?_
      refine hy_ic_ge (i := 4) (tt := 30) rfl (fun zc1 => ?_) (fun zc1 => ?_)
      · refine hy_return (i := 30) rfl rfl ?_
        exact ⟨rfl, hF⟩
      · omega
    | succ m ih =>
      intro k t1 v3 hm hF
      have inner : ∀ (m2 : Nat), ∀ (c : Nat) (t2 : hy_T), m2 + c = 12 → hy_F (fun r _ => r == 79 || r == 98) t t2 → hy_W sc hm_M_laysAll 7 11 [.inr (some 59), .inl q, .inl (k : Int), .inl (c : Int)] [] t2 (fun r t' => r = none ∧ hy_F (fun r _ => r == 79 || r == 98) t t') := by
        intro m2
        induction m2 with
        | zero =>
          intro c t2 hm2 hF2
          refine hy_iload (i := 11) rfl rfl ?_
          refine hy_const (i := 12) rfl (by decide) ?_
          refine hy_ic_ge (i := 13) (tt := 28) rfl (fun zc1 => ?_) (fun zc1 => ?_)
          · refine hy_iinc (i := 28) rfl rfl (by omega) ?_
            refine hy_goto (i := 29) (tt := 2) rfl ?_
            exact ih (k + 1) _ _ (by omega) hF2
          · omega
        | succ m2 ih2 =>
          intro c t2 hm2 hF2
          refine hy_iload (i := 11) rfl rfl ?_
          refine hy_const (i := 12) rfl (by decide) ?_
          refine hy_ic_ge (i := 13) (tt := 28) rfl (fun zc1 => ?_) (fun zc1 => ?_)
          · omega
          · refine hy_aload (i := 14) rfl rfl ?_
            refine hy_getr (i := 15) rfl rfl ?_
            refine hy_const (i := 16) rfl (by decide) ?_
            refine hy_iload (i := 17) rfl rfl ?_
            refine hy_imul (i := 18) rfl (by omega) ?_
            refine hy_iload (i := 19) rfl rfl ?_
            refine hy_iadd (i := 20) rfl (by omega) ?_
            refine hy_aload (i := 21) rfl rfl ?_
            refine hy_getr (i := 22) rfl rfl ?_
            refine hy_iload (i := 23) rfl rfl ?_
            refine hy_iald (i := 24) rfl rfl (by omega) rfl ?_
            refine hy_iast (i := 25) rfl rfl (by omega) rfl ?_
            refine hy_iinc (i := 26) rfl rfl (by omega) ?_
            refine hy_goto (i := 27) (tt := 11) rfl ?_
            exact ih2 (c + 1) _ (by omega) (hF2.up rfl)
      refine hy_iload (i := 2) rfl rfl ?_
      refine hy_const (i := 3) rfl (by decide) ?_
      refine hy_ic_ge (i := 4) (tt := 30) rfl (fun zc1 => ?_) (fun zc1 => ?_)
      · omega
      · refine hy_aload (i := 5) rfl rfl ?_
        refine hy_iload (i := 6) rfl rfl ?_
        refine hy_iload (i := 7) rfl rfl ?_
        refine hy_cV2v (i := 8) rfl mj_M_laysAs (by decide) rfl (Nat.le_of_ble_eq_true rfl) rfl rfl rfl (c_M_laysAs0 ((hF 59 0 rfl).trans h0)) ?_
        refine hy_const (i := 9) rfl (by decide) ?_
        refine hy_istore (i := 10) rfl ?_
        exact inner 12 0 _ rfl (hF.tr' ((mf_as0N_F t1 12).w (fun r j q => by revert q; simp; omega)))
  refine hy_const (i := 0) rfl (by decide) ?_
  refine hy_istore (i := 1) rfl ?_
  exact loop 6 0 t _ rfl hy_F.rf
theorem c_M_signals0 {n fr fo q w : Int} (h0 : t 59 0 = 0) : hy_Ct sc hm_M_signals 8 [.inr (some 59), .inl n, .inl fr, .inl fo, .inl q, .inl w] t (hy_r (if wf_sigok n fr fo q w then (if w = 1 then -2 else 0) else -1)) := by
  refine hy_mk_ct ok_M_signals ck_M_signals (Nat.le_of_ble_eq_true rfl) ?_
  by_cases hq : wf_sigok n fr fo q w
  · rw [if_pos hq]
    have loop : ∀ (t1 : hy_T), t1 59 0 = 0 → ∀ (m : Nat), ∀ (k : Nat), m + k = 4096 → hy_W sc hm_M_signals 8 43 [.inr (some 59), .inl n, .inl fr, .inl fo, .inl q, .inl w, .inl 0, .inl (-2), .inl 0, .inl (k : Int)] [] t1 (hy_r (if w = 1 then -2 else 0)) := by
      intro t1 h1 m
      induction m with
      | zero =>
        intro k hm
        refine hy_iload (i := 43) rfl rfl ?_
        refine hy_const (i := 44) rfl (by decide) ?_
        refine hy_ic_ge (i := 45) (tt := 88) rfl (fun zc1 => ?_) (fun zc1 => ?_)
        · refine hy_iload (i := 88) rfl rfl ?_
          refine hy_if_ne (i := 89) (tt := 92) rfl (fun zc2 => ?_) (fun zc2 => ?_)
          · refine hy_iload (i := 92) rfl rfl ?_
            refine hy_const (i := 93) rfl (by decide) ?_
            refine hy_ic_ne (i := 94) (tt := 97) rfl (fun zc3 => ?_) (fun zc3 => ?_)
            · refine hy_iload (i := 97) rfl rfl ?_
              refine hy_ireturn (i := 98) rfl rfl ?_
              exact congrArg some (by first | rw [if_pos (by omega)] | rw [if_neg (by omega)])
            · refine hy_iload (i := 95) rfl rfl ?_
              refine hy_goto (i := 96) (tt := 98) rfl ?_
              refine hy_ireturn (i := 98) rfl rfl ?_
              exact congrArg some (by first | rw [if_pos (by omega)] | rw [if_neg (by omega)])
          · refine hy_iload (i := 90) rfl rfl ?_
            refine hy_goto (i := 91) (tt := 98) rfl ?_
            refine hy_ireturn (i := 98) rfl rfl ?_
            exact congrArg some (by first | rw [if_pos (by omega)] | rw [if_neg (by omega)])
        · omega
      | succ m ih =>
        intro k hm
        by_cases hk : k = 0
        · subst hk
          refine hy_iload (i := 43) rfl rfl ?_
          refine hy_const (i := 44) rfl (by decide) ?_
          refine hy_ic_ge (i := 45) (tt := 88) rfl (fun zc1 => ?_) (fun zc1 => ?_)
          · omega
          · refine hy_iload (i := 46) rfl rfl ?_
            refine hy_aload (i := 47) rfl rfl ?_
            refine hy_get (i := 48) (fk := 0) rfl rfl rfl ?_
            refine hy_const (i := 49) rfl (by decide) ?_
            refine hy_ixor (i := 50) rfl ?_
            refine hy_iand (i := 51) rfl ?_
            refine hy_if_ne (i := 52) (tt := 86) rfl (fun zc2 => ?_) (fun zc2 => ?_)
            · refine hy_iinc (i := 86) rfl rfl (by omega) ?_
              refine hy_goto (i := 87) (tt := 43) rfl ?_
              exact ih 1 (by omega)
            · refine hy_iload (i := 53) rfl rfl ?_
              refine hy_cS1e (i := 54) rfl (by decide) mj_M_bits (by decide) rfl (Nat.le_of_ble_eq_true rfl) (c_M_bits) ?_
              refine hy_const (i := 55) rfl (by decide) ?_
              refine hy_const (i := 56) rfl (by decide) ?_
              rw [show mf_bitsN ((0 : Nat) : Int) 12 = 0 from mf_bitsN_0 12]
              refine hy_cS3e (i := 57) rfl (by decide) mj_M_in (by decide) rfl (Nat.le_of_ble_eq_true rfl) (c_M_in) ?_
              refine hy_ib_eq (i := 58) (tt := 86) rfl (fun zc3 => ?_) (fun zc3 => ?_)
              · refine hy_iinc (i := 86) rfl rfl (by omega) ?_
                refine hy_goto (i := 87) (tt := 43) rfl ?_
                exact ih 1 (by omega)
              · simp at zc3
        · skip
          refine hy_iload (i := 43) rfl rfl ?_
          refine hy_const (i := 44) rfl (by decide) ?_
          refine hy_ic_ge (i := 45) (tt := 88) rfl (fun zc1 => ?_) (fun zc1 => ?_)
          · omega
          · refine hy_iload (i := 46) rfl rfl ?_
            refine hy_aload (i := 47) rfl rfl ?_
            refine hy_get (i := 48) (fk := 0) rfl rfl rfl ?_
            refine hy_const (i := 49) rfl (by decide) ?_
            refine hy_ixor (i := 50) rfl ?_
            refine hy_iand (i := 51) rfl ?_
            refine hy_if_ne (i := 52) (tt := 86) rfl (fun zc2 => ?_) (fun zc2 => ?_)
            · refine hy_iinc (i := 86) rfl rfl (by omega) ?_
              refine hy_goto (i := 87) (tt := 43) rfl ?_
              exact ih (k + 1) (by omega)
            · rw [h1, hz_iand_n0 (show hy_R k from ⟨by omega, by omega⟩)] at zc2; omega
    have fin : hy_W sc hm_M_signals 8 32 [.inr (some 59), .inl n, .inl fr, .inl fo, .inl q, .inl w, .inr none, .inr none, .inr none, .inr none] [] t (hy_r (if w = 1 then -2 else 0)) := by
      refine hy_aload (i := 32) rfl rfl ?_
      refine hy_iload (i := 33) rfl rfl ?_
      refine hy_cV1 (i := 34) rfl mj_M_laysAll (by decide) rfl (Nat.le_of_ble_eq_true rfl) rfl rfl rfl (c_M_laysAll0 h0) (fun r1_ t1_ h1 => ?_)
      obtain ⟨rfl, hF1⟩ := h1
      dsimp only [hy_st, List.nil_append]
      refine hy_const (i := 35) rfl (by decide) ?_
      refine hy_istore (i := 36) rfl ?_
      refine hy_const (i := 37) rfl (by decide) ?_
      refine hy_istore (i := 38) rfl ?_
      refine hy_const (i := 39) rfl (by decide) ?_
      refine hy_istore (i := 40) rfl ?_
      refine hy_const (i := 41) rfl (by decide) ?_
      refine hy_istore (i := 42) rfl ?_
      exact loop _ ((hF1 59 0 rfl).trans h0) 4096 0 rfl
    refine hy_iload (i := 0) rfl rfl ?_
    refine hy_const (i := 1) rfl (by decide) ?_
    refine hy_const (i := 2) rfl (by decide) ?_
    refine hy_cS3e (i := 3) rfl (by decide) mj_M_in (by decide) rfl (Nat.le_of_ble_eq_true rfl) (c_M_in) ?_
    refine hy_ib_eq (i := 4) (tt := 30) rfl (fun zc1 => ?_) (fun zc1 => ?_)
    · simp at zc1; omega
    · refine hy_iload (i := 5) rfl rfl ?_
      refine hy_const (i := 6) rfl (by decide) ?_
      refine hy_const (i := 7) rfl (by decide) ?_
      refine hy_cS3e (i := 8) rfl (by decide) mj_M_in (by decide) rfl (Nat.le_of_ble_eq_true rfl) (c_M_in) ?_
      refine hy_ib_eq (i := 9) (tt := 30) rfl (fun zc2 => ?_) (fun zc2 => ?_)
      · simp at zc2; omega
      · refine hy_iload (i := 10) rfl rfl ?_
        refine hy_iload (i := 11) rfl rfl ?_
        refine hy_iand (i := 12) rfl ?_
        refine hy_if_ne (i := 13) (tt := 30) rfl (fun zc3 => ?_) (fun zc3 => ?_)
        · exact absurd hq.2.1.1 (by assumption)
        · refine hy_iload (i := 14) rfl rfl ?_
          refine hy_cS1e (i := 15) rfl (by decide) mj_M_isQuarter (by decide) rfl (Nat.le_of_ble_eq_true rfl) (c_M_isQuarter) ?_
          refine hy_ib_eq (i := 16) (tt := 30) rfl (fun zc4 => ?_) (fun zc4 => ?_)
          · simp at zc4; omega
          · refine hy_iload (i := 17) rfl rfl ?_
            refine hy_const (i := 18) rfl (by decide) ?_
            refine hy_const (i := 19) rfl (by decide) ?_
            refine hy_cS3e (i := 20) rfl (by decide) mj_M_in (by decide) rfl (Nat.le_of_ble_eq_true rfl) (c_M_in) ?_
            refine hy_ib_eq (i := 21) (tt := 30) rfl (fun zc5 => ?_) (fun zc5 => ?_)
            · simp at zc5; omega
            · refine hy_iload (i := 22) rfl rfl ?_
              refine hy_const (i := 23) rfl (by decide) ?_
              refine hy_ic_ge (i := 24) (tt := 32) rfl (fun zc6 => ?_) (fun zc6 => ?_)
              · exact fin
              · refine hy_iload (i := 25) rfl rfl ?_
                refine hy_const (i := 26) rfl (by decide) ?_
                refine hy_const (i := 27) rfl (by decide) ?_
                refine hy_cS3e (i := 28) rfl (by decide) mj_M_in (by decide) rfl (Nat.le_of_ble_eq_true rfl) (c_M_in) ?_
                refine hy_ib_ne (i := 29) (tt := 32) rfl (fun zc7 => ?_) (fun zc7 => ?_)
                · exact fin
                · simp at zc7; omega
  · rw [if_neg hq]
    have no : ∀ (a : 1 ≤ fr ∧ fr ≤ 63) (b : 0 ≤ fo ∧ fo ≤ 63) (c : hz_iand fr fo = 0) (d : 0 ≤ q ∧ q < 4) (e : 0 ≤ w ∧ w ≤ 2) (f : w = 2 ∨ 2 ≤ n ∧ n ≤ 6), False := fun a b c d e f => hq ⟨⟨⟨by omega, by omega⟩, by omega, by omega⟩, ⟨c, d, by omega, by omega⟩, f⟩
    refine hy_iload (i := 0) rfl rfl ?_
    refine hy_const (i := 1) rfl (by decide) ?_
    refine hy_const (i := 2) rfl (by decide) ?_
    refine hy_cS3e (i := 3) rfl (by decide) mj_M_in (by decide) rfl (Nat.le_of_ble_eq_true rfl) (c_M_in) ?_
    refine hy_ib_eq (i := 4) (tt := 30) rfl (fun zc1 => ?_) (fun zc1 => ?_)
    · refine hy_const (i := 30) rfl (by decide) ?_
      refine hy_ireturn (i := 31) rfl rfl ?_
      exact rfl
    · refine hy_iload (i := 5) rfl rfl ?_
      refine hy_const (i := 6) rfl (by decide) ?_
      refine hy_const (i := 7) rfl (by decide) ?_
      refine hy_cS3e (i := 8) rfl (by decide) mj_M_in (by decide) rfl (Nat.le_of_ble_eq_true rfl) (c_M_in) ?_
      refine hy_ib_eq (i := 9) (tt := 30) rfl (fun zc2 => ?_) (fun zc2 => ?_)
      · refine hy_const (i := 30) rfl (by decide) ?_
        refine hy_ireturn (i := 31) rfl rfl ?_
        exact rfl
      · refine hy_iload (i := 10) rfl rfl ?_
        refine hy_iload (i := 11) rfl rfl ?_
        refine hy_iand (i := 12) rfl ?_
        refine hy_if_ne (i := 13) (tt := 30) rfl (fun zc3 => ?_) (fun zc3 => ?_)
        · refine hy_const (i := 30) rfl (by decide) ?_
          refine hy_ireturn (i := 31) rfl rfl ?_
          exact rfl
        · refine hy_iload (i := 14) rfl rfl ?_
          refine hy_cS1e (i := 15) rfl (by decide) mj_M_isQuarter (by decide) rfl (Nat.le_of_ble_eq_true rfl) (c_M_isQuarter) ?_
          refine hy_ib_eq (i := 16) (tt := 30) rfl (fun zc4 => ?_) (fun zc4 => ?_)
          · refine hy_const (i := 30) rfl (by decide) ?_
            refine hy_ireturn (i := 31) rfl rfl ?_
            exact rfl
          · refine hy_iload (i := 17) rfl rfl ?_
            refine hy_const (i := 18) rfl (by decide) ?_
            refine hy_const (i := 19) rfl (by decide) ?_
            refine hy_cS3e (i := 20) rfl (by decide) mj_M_in (by decide) rfl (Nat.le_of_ble_eq_true rfl) (c_M_in) ?_
            refine hy_ib_eq (i := 21) (tt := 30) rfl (fun zc5 => ?_) (fun zc5 => ?_)
            · refine hy_const (i := 30) rfl (by decide) ?_
              refine hy_ireturn (i := 31) rfl rfl ?_
              exact rfl
            · refine hy_iload (i := 22) rfl rfl ?_
              refine hy_const (i := 23) rfl (by decide) ?_
              refine hy_ic_ge (i := 24) (tt := 32) rfl (fun zc6 => ?_) (fun zc6 => ?_)
              · exfalso; simp only [decide_eq_true_eq] at zc1 zc2 zc4 zc5; exact no zc1 zc2 (by first | assumption | exact Classical.byContradiction (by assumption)) zc4 zc5 (.inl (by omega))
              · refine hy_iload (i := 25) rfl rfl ?_
                refine hy_const (i := 26) rfl (by decide) ?_
                refine hy_const (i := 27) rfl (by decide) ?_
                refine hy_cS3e (i := 28) rfl (by decide) mj_M_in (by decide) rfl (Nat.le_of_ble_eq_true rfl) (c_M_in) ?_
                refine hy_ib_ne (i := 29) (tt := 32) rfl (fun zc7 => ?_) (fun zc7 => ?_)
                · exfalso; simp only [decide_eq_true_eq] at zc1 zc2 zc4 zc5 zc7; exact no zc1 zc2 (by first | assumption | exact Classical.byContradiction (by assumption)) zc4 zc5 (.inr zc7)
                · refine hy_const (i := 30) rfl (by decide) ?_
                  refine hy_ireturn (i := 31) rfl rfl ?_
                  exact rfl
theorem c_M_canTake0 {e o c q : Int} (h0 : t 59 0 = 0) : hy_Ct sc hm_M_canTake 3 [.inr (some 59), .inl e, .inl o, .inl c, .inl q] t (hy_e (some 0) t) := by
  refine hy_mk_ct ok_M_canTake ck_M_canTake (Nat.le_of_ble_eq_true rfl) ?_
  refine hy_aload (i := 0) rfl rfl ?_
  refine hy_iload (i := 1) rfl rfl ?_
  refine hy_cV1e (i := 2) rfl mj_M_isPlain (by decide) rfl (Nat.le_of_ble_eq_true rfl) rfl rfl rfl (c_M_isPlain) ?_
  refine hy_ib_eq (i := 3) (tt := 28) rfl (fun zc1 => ?_) (fun zc1 => ?_)
  · refine hy_const (i := 28) rfl (by decide) ?_
    refine hy_zreturn (i := 29) rfl rfl (by first | decide | exact hy_b01 _) ?_
    exact ⟨rfl, rfl⟩
  · rw [h0, sp_told_0, Bool.false_and] at zc1; cases zc1
theorem c_M_laysFights0 {a b q : Int} (h0 : t 59 0 = 0) : hy_Ct sc hm_M_laysFights 7 [.inr (some 59), .inl a, .inl b, .inl q] t (fun r t' => r = none ∧ ∀ c : Nat, c < 144 → t' 101 c = 0) := by
  refine hy_mk_ct ok_M_laysFights ck_M_laysFights (Nat.le_of_ble_eq_true rfl) ?_
  have loop : ∀ (m : Nat), ∀ (k : Nat) (t1 : hy_T) (v5 v6 : hy_V), m + k = 144 → t1 59 0 = 0 → (∀ c : Nat, c < k → t1 101 c = 0) → hy_W sc hm_M_laysFights 7 4 [.inr (some 59), .inl a, .inl b, .inl q, .inl (k : Int), v5, v6] [] t1 (fun r t' => r = none ∧ ∀ c : Nat, c < 144 → t' 101 c = 0) := by
    intro m
    induction m with
    | zero =>
      intro k t1 v5 v6 hm h1 hp
      obtain rfl : k = 144 := by omega
      refine hy_iload (i := 4) rfl rfl ?_
      refine hy_const (i := 5) rfl (by decide) ?_
      refine hy_ic_ge (i := 6) (tt := 94) rfl (fun zc1 => ?_) (fun zc1 => ?_)
      · refine hy_return (i := 94) rfl rfl ?_
        exact ⟨rfl, hp⟩
      · omega
    | succ m ih =>
      intro k t1 v5 v6 hm h1 hp
      refine hy_iload (i := 4) rfl rfl ?_
      refine hy_const (i := 5) rfl (by decide) ?_
      refine hy_ic_ge (i := 6) (tt := 94) rfl (fun zc1 => ?_) (fun zc1 => ?_)
      · omega
      · refine hy_iload (i := 7) rfl rfl ?_
        refine hy_const (i := 8) rfl (by decide) ?_
        refine hy_idiv (i := 9) rfl (by omega) (by omega) ?_
        refine hy_istore (i := 10) rfl ?_
        refine hy_iload (i := 11) rfl rfl ?_
        refine hy_const (i := 12) rfl (by decide) ?_
        refine hy_irem (i := 13) rfl (by omega) (by omega) ?_
        refine hy_istore (i := 14) rfl ?_
        refine hy_aload (i := 15) rfl rfl ?_
        refine hy_getr (i := 16) rfl rfl ?_
        refine hy_iload (i := 17) rfl rfl ?_
        refine hy_aload (i := 18) rfl rfl ?_
        refine hy_iload (i := 19) rfl rfl ?_
        refine hy_iload (i := 20) rfl rfl ?_
        refine hy_iload (i := 21) rfl rfl ?_
        refine hy_iload (i := 22) rfl rfl ?_
        refine hy_cV4e (i := 23) rfl mj_M_canTake (by decide) rfl (Nat.le_of_ble_eq_true rfl) rfl rfl rfl (c_M_canTake0 h1) ?_
        refine hy_if_eq (i := 24) (tt := 34) rfl (fun zc2 => ?_) (fun zc2 => ?_)
        · refine hy_const (i := 34) rfl (by decide) ?_
          refine hy_zast (i := 35) rfl rfl (by omega) (k := k) (by omega) (.inl rfl) ?_
          refine hy_aload (i := 36) rfl rfl ?_
          refine hy_getr (i := 37) rfl rfl ?_
          refine hy_iload (i := 38) rfl rfl ?_
          refine hy_bald (i := 39) rfl rfl (by decide) (by omega) (k := k) (by omega) ?_
          rw [show hy_up t1 101 k 0 101 k = 0 by simp [hy_up]]
          refine hy_if_ne (i := 40) (tt := 42) rfl (fun zc3 => ?_) (fun zc3 => ?_)
          · exact absurd rfl zc3
          · refine hy_goto (i := 41) (tt := 92) rfl ?_
            refine hy_iinc (i := 92) rfl rfl (by omega) ?_
            refine hy_goto (i := 93) (tt := 4) rfl ?_
            refine ih (k + 1) _ _ _ (by omega) h1 (fun c hc => ?_)
            by_cases e : c = k
            · rw [e]; simp [hy_up]
            · rw [show hy_up t1 101 k 0 101 c = t1 101 c by simp [hy_up, e]]; exact hp c (by omega)
        · exact absurd rfl zc2
  refine hy_aload (i := 0) rfl rfl ?_
  refine hy_cV0v (i := 1) rfl mj_M_begins (by decide) rfl (Nat.le_of_ble_eq_true rfl) rfl rfl rfl (c_M_begins) ?_
  refine hy_const (i := 2) rfl (by decide) ?_
  refine hy_istore (i := 3) rfl ?_
  exact loop 144 0 _ _ _ rfl ((mf_begins_0 t (by decide)).trans h0) (fun c hc => by omega)
theorem c_M_battle0 {a b q w : Int} (h0 : t 59 0 = 0) : hy_Ct sc hm_M_battle 8 [.inr (some 59), .inl a, .inl b, .inl q, .inl w] t (hy_r (if (((0 ≤ a ∧ a < 6) ∧ 0 ≤ b ∧ b < 6) ∧ a ≠ b) ∧ (0 ≤ q ∧ q < 4) ∧ 0 ≤ w ∧ w < 3 then (if w = 0 then 0 else -2) else -1)) := by
  refine hy_mk_ct ok_M_battle ck_M_battle (Nat.le_of_ble_eq_true rfl) ?_
  by_cases hq : (((0 ≤ a ∧ a < 6) ∧ 0 ≤ b ∧ b < 6) ∧ a ≠ b) ∧ (0 ≤ q ∧ q < 4) ∧ 0 ≤ w ∧ w < 3
  · rw [if_pos hq]
    have loop : ∀ (t1 : hy_T), (∀ c : Nat, c < 144 → t1 101 c = 0) → ∀ (m : Nat), ∀ (k : Nat), m + k = 144 → hy_W sc hm_M_battle 8 30 [.inr (some 59), .inl a, .inl b, .inl q, .inl w, .inl 0, .inl (-1), .inl (k : Int)] [] t1 (hy_r (if w = 0 then 0 else -2)) := by
      intro t1 h1 m
      induction m with
      | zero =>
        intro k hm
        refine hy_iload (i := 30) rfl rfl ?_
        refine hy_const (i := 31) rfl (by decide) ?_
        refine hy_ic_ge (i := 32) (tt := 56) rfl (fun zc1 => ?_) (fun zc1 => ?_)
        · refine hy_iload (i := 56) rfl rfl ?_
          refine hy_if_ne (i := 57) (tt := 60) rfl (fun zc2 => ?_) (fun zc2 => ?_)
          · refine hy_iload (i := 60) rfl rfl ?_
            refine hy_const (i := 61) rfl (by decide) ?_
            refine hy_ic_ne (i := 62) (tt := 65) rfl (fun zc3 => ?_) (fun zc3 => ?_)
            · omega
            · refine hy_const (i := 63) rfl (by decide) ?_
              refine hy_goto (i := 64) (tt := 75) rfl ?_
              refine hy_ireturn (i := 75) rfl rfl ?_
              exact congrArg some (by first | rw [if_pos (by omega)] | rw [if_neg (by omega)])
          · refine hy_iload (i := 58) rfl rfl ?_
            refine hy_goto (i := 59) (tt := 75) rfl ?_
            refine hy_ireturn (i := 75) rfl rfl ?_
            exact congrArg some (by first | rw [if_pos (by omega)] | rw [if_neg (by omega)])
        · omega
      | succ m ih =>
        intro k hm
        refine hy_iload (i := 30) rfl rfl ?_
        refine hy_const (i := 31) rfl (by decide) ?_
        refine hy_ic_ge (i := 32) (tt := 56) rfl (fun zc1 => ?_) (fun zc1 => ?_)
        · omega
        · refine hy_aload (i := 33) rfl rfl ?_
          refine hy_getr (i := 34) rfl rfl ?_
          refine hy_iload (i := 35) rfl rfl ?_
          refine hy_bald (i := 36) rfl rfl (by decide) (by omega) (k := k) (by omega) ?_
          refine hy_if_eq (i := 37) (tt := 54) rfl (fun zc2 => ?_) (fun zc2 => ?_)
          · refine hy_iinc (i := 54) rfl rfl (by omega) ?_
            refine hy_goto (i := 55) (tt := 30) rfl ?_
            exact ih (k + 1) (by omega)
          · exact absurd (h1 k (by omega)) zc2
    refine hy_iload (i := 0) rfl rfl ?_
    refine hy_cS1e (i := 1) rfl (by decide) mj_M_isEmpire (by decide) rfl (Nat.le_of_ble_eq_true rfl) (c_M_isEmpire) ?_
    refine hy_ib_eq (i := 2) (tt := 17) rfl (fun zc1 => ?_) (fun zc1 => ?_)
    · simp at zc1; omega
    · refine hy_iload (i := 3) rfl rfl ?_
      refine hy_cS1e (i := 4) rfl (by decide) mj_M_isEmpire (by decide) rfl (Nat.le_of_ble_eq_true rfl) (c_M_isEmpire) ?_
      refine hy_ib_eq (i := 5) (tt := 17) rfl (fun zc2 => ?_) (fun zc2 => ?_)
      · simp at zc2; omega
      · refine hy_iload (i := 6) rfl rfl ?_
        refine hy_iload (i := 7) rfl rfl ?_
        refine hy_ic_eq (i := 8) (tt := 17) rfl (fun zc3 => ?_) (fun zc3 => ?_)
        · omega
        · refine hy_iload (i := 9) rfl rfl ?_
          refine hy_cS1e (i := 10) rfl (by decide) mj_M_isQuarter (by decide) rfl (Nat.le_of_ble_eq_true rfl) (c_M_isQuarter) ?_
          refine hy_ib_eq (i := 11) (tt := 17) rfl (fun zc4 => ?_) (fun zc4 => ?_)
          · simp at zc4; omega
          · refine hy_iload (i := 12) rfl rfl ?_
            refine hy_const (i := 13) rfl (by decide) ?_
            refine hy_const (i := 14) rfl (by decide) ?_
            refine hy_cS3e (i := 15) rfl (by decide) mj_M_in (by decide) rfl (Nat.le_of_ble_eq_true rfl) (c_M_in) ?_
            refine hy_ib_ne (i := 16) (tt := 19) rfl (fun zc5 => ?_) (fun zc5 => ?_)
            · refine hy_aload (i := 19) rfl rfl ?_
              refine hy_iload (i := 20) rfl rfl ?_
              refine hy_iload (i := 21) rfl rfl ?_
              refine hy_iload (i := 22) rfl rfl ?_
              refine hy_cV3 (i := 23) rfl mj_M_laysFights (by decide) rfl (Nat.le_of_ble_eq_true rfl) rfl rfl rfl (c_M_laysFights0 h0) (fun r5_ t5_ h5 => ?_)
              obtain ⟨rfl, hX5⟩ := h5
              dsimp only [hy_st, List.nil_append]
              refine hy_const (i := 24) rfl (by decide) ?_
              refine hy_istore (i := 25) rfl ?_
              refine hy_const (i := 26) rfl (by decide) ?_
              refine hy_istore (i := 27) rfl ?_
              refine hy_const (i := 28) rfl (by decide) ?_
              refine hy_istore (i := 29) rfl ?_
              exact loop _ (by assumption) 144 0 rfl
            · simp at zc5; omega
  · rw [if_neg hq]
    refine hy_iload (i := 0) rfl rfl ?_
    refine hy_cS1e (i := 1) rfl (by decide) mj_M_isEmpire (by decide) rfl (Nat.le_of_ble_eq_true rfl) (c_M_isEmpire) ?_
    refine hy_ib_eq (i := 2) (tt := 17) rfl (fun zc1 => ?_) (fun zc1 => ?_)
    · refine hy_const (i := 17) rfl (by decide) ?_
      refine hy_ireturn (i := 18) rfl rfl ?_
      exact rfl
    · refine hy_iload (i := 3) rfl rfl ?_
      refine hy_cS1e (i := 4) rfl (by decide) mj_M_isEmpire (by decide) rfl (Nat.le_of_ble_eq_true rfl) (c_M_isEmpire) ?_
      refine hy_ib_eq (i := 5) (tt := 17) rfl (fun zc2 => ?_) (fun zc2 => ?_)
      · refine hy_const (i := 17) rfl (by decide) ?_
        refine hy_ireturn (i := 18) rfl rfl ?_
        exact rfl
      · refine hy_iload (i := 6) rfl rfl ?_
        refine hy_iload (i := 7) rfl rfl ?_
        refine hy_ic_eq (i := 8) (tt := 17) rfl (fun zc3 => ?_) (fun zc3 => ?_)
        · refine hy_const (i := 17) rfl (by decide) ?_
          refine hy_ireturn (i := 18) rfl rfl ?_
          exact rfl
        · refine hy_iload (i := 9) rfl rfl ?_
          refine hy_cS1e (i := 10) rfl (by decide) mj_M_isQuarter (by decide) rfl (Nat.le_of_ble_eq_true rfl) (c_M_isQuarter) ?_
          refine hy_ib_eq (i := 11) (tt := 17) rfl (fun zc4 => ?_) (fun zc4 => ?_)
          · refine hy_const (i := 17) rfl (by decide) ?_
            refine hy_ireturn (i := 18) rfl rfl ?_
            exact rfl
          · refine hy_iload (i := 12) rfl rfl ?_
            refine hy_const (i := 13) rfl (by decide) ?_
            refine hy_const (i := 14) rfl (by decide) ?_
            refine hy_cS3e (i := 15) rfl (by decide) mj_M_in (by decide) rfl (Nat.le_of_ble_eq_true rfl) (c_M_in) ?_
            refine hy_ib_ne (i := 16) (tt := 19) rfl (fun zc5 => ?_) (fun zc5 => ?_)
            · exfalso; simp only [decide_eq_true_eq] at zc1 zc2 zc4 zc5; exact hq ⟨⟨⟨zc1, zc2⟩, zc3⟩, zc4, by omega, by omega⟩
            · refine hy_const (i := 17) rfl (by decide) ?_
              refine hy_ireturn (i := 18) rfl rfl ?_
              exact rfl
end MD
