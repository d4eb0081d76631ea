/-! the class's ground, as it is read -/
def gd_col (s : Int) : Int := if s = 46 then 12 else if 97 ≤ s ∧ s ≤ 108 then s - 97 else -1
theorem gd_col_in (s : Int) : -1 ≤ gd_col s ∧ gd_col s ≤ 12 := by
  unfold gd_col
  split
  · omega
  · split <;> omega
theorem gd_col_p {s : Int} (h : 0 ≤ gd_col s) : 0 ≤ s := by
  unfold gd_col at h
  split at h
  · omega
  · split at h <;> omega
def gd_fillN (t : hy_T) (y x c : Int) : Nat → hy_T
  | 0 => t
  | n + 1 => hy_up (gd_fillN t y x c n) 10 (8 * y + x + n).toNat c
abbrev gdX : Nat → Nat → Bool := fun r j => (r == 3 && (j == 2 || j == 3 || j == 4)) || r == 10
theorem gdX_tp {t t1 : hy_T} (h : hy_F tpX t t1) : hy_F gdX t t1 := h.w (fun r j q => by revert q; simp [tpX, gdX]; omega)
theorem gd_fillN_F (t : hy_T) (y x c : Int) : ∀ n, hy_F (fun r _ => r == 10) t (gd_fillN t y x c n)
  | 0 => hy_F.rf
  | n + 1 => (gd_fillN_F t y x c n).up rfl
def gd_tail (t : hy_T) (y x m : Int) : hy_T × Int :=
  if gd_col (tp_next t) < 0 then (tp_fail t 1 (t 3 3), 0)
  else if 8 < x + m then (tp_fail t 6 (t 3 3), 0)
  else if gd_col (tp_next t) ≠ 12 ∧ sp_told (t 5 2) (gd_col (tp_next t)) = false then (tp_fail t 7 (t 3 3), 0)
  else (gd_fillN (tp_step t) y x (gd_col (tp_next t)) m.toNat, m)
def gd_fields (t : hy_T) (y x : Int) : hy_T × Int :=
  if 48 ≤ tp_next t ∧ tp_next t ≤ 57 then
    (if 8 < x + (tp_next t - 48) then (tp_fail t 6 (t 3 3), 0) else gd_tail (tp_step t) y x (tp_next t - 48))
  else gd_tail t y x 1
theorem gd_tail_s {t : hy_T} (h : tp_ok t) {y x m : Int} (hx : 0 ≤ x ∧ x ≤ 8) (hm : 0 ≤ m) : tp_ok (gd_tail t y x m).1 ∧ hy_F gdX t (gd_tail t y x m).1 ∧ 0 ≤ (gd_tail t y x m).2 ∧ x + (gd_tail t y x m).2 ≤ 8 := by
  unfold gd_tail
  split
  · exact ⟨tp_fail_ok h _ _, gdX_tp (tp_fail_G _ _ _), by dsimp only; omega, by dsimp only; omega⟩
  · split
    · exact ⟨tp_fail_ok h _ _, gdX_tp (tp_fail_G _ _ _), by dsimp only; omega, by dsimp only; omega⟩
    · split
      · exact ⟨tp_fail_ok h _ _, gdX_tp (tp_fail_G _ _ _), by dsimp only; omega, by dsimp only; omega⟩
      · next hc _ _ =>
        have f := gd_fillN_F (tp_step t) y x (gd_col (tp_next t)) m.toNat
        exact ⟨tp_ok_F f (fun _ => rfl) (fun _ => rfl) (tp_step_ok h (gd_col_p (by omega))), (gdX_tp (tp_step_F t)).tr' (f.w (fun r j q => by revert q; simp +contextual [gdX])), hm, by dsimp only; omega⟩
theorem gd_fields_s {t : hy_T} (h : tp_ok t) {y x : Int} (hx : 0 ≤ x ∧ x ≤ 8) : tp_ok (gd_fields t y x).1 ∧ hy_F gdX t (gd_fields t y x).1 ∧ 0 ≤ (gd_fields t y x).2 ∧ x + (gd_fields t y x).2 ≤ 8 := by
  unfold gd_fields
  split
  · split
    · exact ⟨tp_fail_ok h _ _, gdX_tp (tp_fail_G _ _ _), by dsimp only; omega, by dsimp only; omega⟩
    · obtain ⟨a1, a2, a3⟩ := gd_tail_s (tp_step_ok h (by omega)) (y := y) hx (m := tp_next t - 48) (by omega)
      exact ⟨a1, (gdX_tp (tp_step_F t)).tr' a2, a3⟩
  · exact gd_tail_s h hx (by decide)
section GD
variable {sc : List Int32} {t : hy_T}
theorem c_G_colourOf {s : Int} : hy_Ct sc hm_G_colourOf 0 [.inl s] t (hy_e (some (gd_col s)) t) := by
  refine hy_mk_ct ok_G_colourOf ck_G_colourOf (Nat.le_of_ble_eq_true rfl) ?_
  refine hy_iload (i := 0) rfl rfl ?_
  refine hy_const (i := 1) rfl (by decide) ?_
  refine hy_ic_ne (i := 2) (tt := 5) rfl (fun zc1 => ?_) (fun zc1 => ?_)
  · refine hy_iload (i := 5) rfl rfl ?_
    refine hy_const (i := 6) rfl (by decide) ?_
    refine hy_ic_lt (i := 7) (tt := 15) rfl (fun zc2 => ?_) (fun zc2 => ?_)
    · refine hy_const (i := 15) rfl (by decide) ?_
      refine hy_ireturn (i := 16) rfl rfl ?_
      exact ⟨congrArg some (by unfold gd_col; first | (rw [if_pos (by omega)]; done) | (rw [if_neg (by omega)]; first | (rw [if_pos (by omega)]; done) | (rw [if_neg (by omega)]; done))), rfl⟩
    · refine hy_iload (i := 8) rfl rfl ?_
      refine hy_const (i := 9) rfl (by decide) ?_
      refine hy_ic_gt (i := 10) (tt := 15) rfl (fun zc3 => ?_) (fun zc3 => ?_)
      · refine hy_const (i := 15) rfl (by decide) ?_
        refine hy_ireturn (i := 16) rfl rfl ?_
        exact ⟨congrArg some (by unfold gd_col; first | (rw [if_pos (by omega)]; done) | (rw [if_neg (by omega)]; first | (rw [if_pos (by omega)]; done) | (rw [if_neg (by omega)]; done))), rfl⟩
      · refine hy_iload (i := 11) rfl rfl ?_
        refine hy_const (i := 12) rfl (by decide) ?_
        refine hy_isub (i := 13) rfl (by omega) ?_
        refine hy_goto (i := 14) (tt := 16) rfl ?_
        refine hy_ireturn (i := 16) rfl rfl ?_
        exact ⟨congrArg some (by unfold gd_col; first | (rw [if_pos (by omega)]; done) | (rw [if_neg (by omega)]; first | (rw [if_pos (by omega)]; done) | (rw [if_neg (by omega)]; done))), rfl⟩
  · refine hy_const (i := 3) rfl (by decide) ?_
    refine hy_ireturn (i := 4) rfl rfl ?_
    exact ⟨congrArg some (by unfold gd_col; first | (rw [if_pos (by omega)]; done) | (rw [if_neg (by omega)]; first | (rw [if_pos (by omega)]; done) | (rw [if_neg (by omega)]; done))), rfl⟩
theorem c_G_isFieldsStart {s : Int} : hy_Ct sc hm_G_isFieldsStart 1 [.inl s] t (hy_e (some (hy_b (decide ((49 ≤ s ∧ s ≤ 56) ∨ 0 ≤ gd_col s)))) t) := by
  refine hy_mk_ct ok_G_isFieldsStart ck_G_isFieldsStart (Nat.le_of_ble_eq_true rfl) ?_
  refine hy_iload (i := 0) rfl rfl ?_
  refine hy_const (i := 1) rfl (by decide) ?_
  refine hy_ic_lt (i := 2) (tt := 6) rfl (fun zc1 => ?_) (fun zc1 => ?_)
  · refine hy_iload (i := 6) rfl rfl ?_
    refine hy_cS1e (i := 7) rfl (by decide) mj_G_colourOf (by decide) rfl (Nat.le_of_ble_eq_true rfl) (c_G_colourOf) ?_
    refine hy_if_lt (i := 8) (tt := 11) rfl (fun zc2 => ?_) (fun zc2 => ?_)
    · refine hy_const (i := 11) rfl (by decide) ?_
      refine hy_zreturn (i := 12) rfl rfl (by first | decide | exact hy_b01 _) ?_
      exact ⟨congrArg some (by first | (rw [decide_eq_true (by omega)]; rfl) | (rw [decide_eq_false (by omega)]; rfl)), rfl⟩
    · refine hy_const (i := 9) rfl (by decide) ?_
      refine hy_goto (i := 10) (tt := 12) rfl ?_
      refine hy_zreturn (i := 12) rfl rfl (by first | decide | exact hy_b01 _) ?_
      exact ⟨congrArg some (by first | (rw [decide_eq_true (by omega)]; rfl) | (rw [decide_eq_false (by omega)]; rfl)), rfl⟩
  · refine hy_iload (i := 3) rfl rfl ?_
    refine hy_const (i := 4) rfl (by decide) ?_
    refine hy_ic_le (i := 5) (tt := 9) rfl (fun zc2 => ?_) (fun zc2 => ?_)
    · refine hy_const (i := 9) rfl (by decide) ?_
      refine hy_goto (i := 10) (tt := 12) rfl ?_
      refine hy_zreturn (i := 12) rfl rfl (by first | decide | exact hy_b01 _) ?_
      exact ⟨congrArg some (by first | (rw [decide_eq_true (by omega)]; rfl) | (rw [decide_eq_false (by omega)]; rfl)), rfl⟩
    · refine hy_iload (i := 6) rfl rfl ?_
      refine hy_cS1e (i := 7) rfl (by decide) mj_G_colourOf (by decide) rfl (Nat.le_of_ble_eq_true rfl) (c_G_colourOf) ?_
      refine hy_if_lt (i := 8) (tt := 11) rfl (fun zc3 => ?_) (fun zc3 => ?_)
      · refine hy_const (i := 11) rfl (by decide) ?_
        refine hy_zreturn (i := 12) rfl rfl (by first | decide | exact hy_b01 _) ?_
        exact ⟨congrArg some (by first | (rw [decide_eq_true (by omega)]; rfl) | (rw [decide_eq_false (by omega)]; rfl)), rfl⟩
      · refine hy_const (i := 9) rfl (by decide) ?_
        refine hy_goto (i := 10) (tt := 12) rfl ?_
        refine hy_zreturn (i := 12) rfl rfl (by first | decide | exact hy_b01 _) ?_
        exact ⟨congrArg some (by first | (rw [decide_eq_true (by omega)]; rfl) | (rw [decide_eq_false (by omega)]; rfl)), rfl⟩
theorem c_G_readFields {y x : Int} (h : tp_ok t) (hy : 0 ≤ y ∧ y < 8) (hx : 0 ≤ x ∧ x ≤ 8) : hy_Ct sc hm_G_readFields 2 [.inr (some 8), .inl y, .inl x] t (hy_e (some (gd_fields t y x).2) (gd_fields t y x).1) := by
  refine hy_mk_ct ok_G_readFields ck_G_readFields (Nat.le_of_ble_eq_true rfl) ?_
  have loop : ∀ (m : Int) (c : Int) (t0 : hy_T), x + m ≤ 8 → ∀ (n : Nat), ∀ (k : Nat) (t1 : hy_T), n + k = m.toNat → 0 ≤ m → t1 = gd_fillN t0 y x c k → hy_W sc hm_G_readFields 2 70 [.inr (some 8), .inl y, .inl x, .inl m, .inl c, .inl (k : Int)] [] t1 (hy_e (some m) (gd_fillN t0 y x c m.toNat)) := by
    intro m c t0 hm n
    induction n with
    | zero =>
      intro k t1 hn h0 ht
      obtain rfl : k = m.toNat := by omega
      refine hy_iload (i := 70) rfl rfl ?_
      refine hy_iload (i := 71) rfl rfl ?_
      refine hy_ic_ge (i := 72) (tt := 86) rfl (fun zc1 => ?_) (fun zc1 => ?_)
      · refine hy_iload (i := 86) rfl rfl ?_
        refine hy_ireturn (i := 87) rfl rfl ?_
        exact ⟨rfl, ht⟩
      · omega
    | succ n ih =>
      intro k t1 hn h0 ht
      refine hy_iload (i := 70) rfl rfl ?_
      refine hy_iload (i := 71) rfl rfl ?_
      refine hy_ic_ge (i := 72) (tt := 86) rfl (fun zc1 => ?_) (fun zc1 => ?_)
      · omega
      · refine hy_aload (i := 73) rfl rfl ?_
        refine hy_getr (i := 74) rfl rfl ?_
        refine hy_const (i := 75) rfl (by decide) ?_
        refine hy_iload (i := 76) rfl rfl ?_
        refine hy_imul (i := 77) rfl (by omega) ?_
        refine hy_iload (i := 78) rfl rfl ?_
        refine hy_iadd (i := 79) rfl (by omega) ?_
        refine hy_iload (i := 80) rfl rfl ?_
        refine hy_iadd (i := 81) rfl (by omega) ?_
        refine hy_iload (i := 82) rfl rfl ?_
        refine hy_iast (i := 83) rfl rfl (by omega) rfl ?_
        refine hy_iinc (i := 84) rfl rfl (by omega) ?_
        refine hy_goto (i := 85) (tt := 70) rfl ?_
        exact ih (k + 1) _ (by omega) h0 (by rw [ht]; rfl)
  have tail : ∀ (m : Int) (t1 : hy_T) (v4 v5 : hy_V), (0 ≤ m ∧ m ≤ 9) → tp_ok t1 → gd_tail t1 y x m = gd_fields t y x → hy_W sc hm_G_readFields 2 27 [.inr (some 8), .inl y, .inl x, .inl m, v4, v5] [] t1 (hy_e (some (gd_fields t y x).2) (gd_fields t y x).1) := by
    intro m t1 v4 v5 hm h1 he
    have hn := tp_next_in h1
    have hc := gd_col_in (tp_next t1)
    rw [← he]
    by_cases q1 : gd_col (tp_next t1) < 0
    · have e : gd_tail t1 y x m = (tp_fail t1 1 (t1 3 3), 0) := by unfold gd_tail; rw [if_pos q1]
      rw [e]
      refine hy_aload (i := 27) rfl rfl ?_
      refine hy_getr (i := 28) rfl rfl ?_
      refine hy_cV0e (i := 29) rfl mj_T_next (by decide) rfl (Nat.le_of_ble_eq_true rfl) rfl rfl rfl (c_T_next (tp_ok.e (by assumption))) ?_
      refine hy_cS1e (i := 30) rfl (by decide) mj_G_colourOf (by decide) rfl (Nat.le_of_ble_eq_true rfl) (c_G_colourOf) ?_
      refine hy_istore (i := 31) rfl ?_
      refine hy_iload (i := 32) rfl rfl ?_
      refine hy_if_ge (i := 33) (tt := 40) rfl (fun zc1 => ?_) (fun zc1 => ?_)
      · omega
      · refine hy_aload (i := 34) rfl rfl ?_
        refine hy_getr (i := 35) rfl rfl ?_
        refine hy_const (i := 36) rfl (by decide) ?_
        refine hy_cV1v (i := 37) rfl mj_T_fail (by decide) rfl (Nat.le_of_ble_eq_true rfl) rfl rfl rfl (c_T_fail (by decide) (by have := tp_ok.p (by assumption); omega)) ?_
        refine hy_const (i := 38) rfl (by decide) ?_
        refine hy_ireturn (i := 39) rfl rfl ?_
        exact ⟨rfl, rfl⟩
    · by_cases q2 : 8 < x + m
      · have e : gd_tail t1 y x m = (tp_fail t1 6 (t1 3 3), 0) := by unfold gd_tail; rw [if_neg q1, if_pos q2]
        rw [e]
        refine hy_aload (i := 27) rfl rfl ?_
        refine hy_getr (i := 28) rfl rfl ?_
        refine hy_cV0e (i := 29) rfl mj_T_next (by decide) rfl (Nat.le_of_ble_eq_true rfl) rfl rfl rfl (c_T_next (tp_ok.e (by assumption))) ?_
        refine hy_cS1e (i := 30) rfl (by decide) mj_G_colourOf (by decide) rfl (Nat.le_of_ble_eq_true rfl) (c_G_colourOf) ?_
        refine hy_istore (i := 31) rfl ?_
        refine hy_iload (i := 32) rfl rfl ?_
        refine hy_if_ge (i := 33) (tt := 40) rfl (fun zc1 => ?_) (fun zc1 => ?_)
        · refine hy_iload (i := 40) rfl rfl ?_
          refine hy_iload (i := 41) rfl rfl ?_
          refine hy_iadd (i := 42) rfl (by omega) ?_
          refine hy_const (i := 43) rfl (by decide) ?_
          refine hy_ic_le (i := 44) (tt := 51) rfl (fun zc2 => ?_) (fun zc2 => ?_)
          · omega
          · refine hy_aload (i := 45) rfl rfl ?_
            refine hy_getr (i := 46) rfl rfl ?_
            refine hy_const (i := 47) rfl (by decide) ?_
            refine hy_cV1v (i := 48) rfl mj_T_fail (by decide) rfl (Nat.le_of_ble_eq_true rfl) rfl rfl rfl (c_T_fail (by decide) (by have := tp_ok.p (by assumption); omega)) ?_
            refine hy_const (i := 49) rfl (by decide) ?_
            refine hy_ireturn (i := 50) rfl rfl ?_
            exact ⟨rfl, rfl⟩
        · omega
      · by_cases q3 : gd_col (tp_next t1) ≠ 12 ∧ sp_told (t1 5 2) (gd_col (tp_next t1)) = false
        · have e : gd_tail t1 y x m = (tp_fail t1 7 (t1 3 3), 0) := by unfold gd_tail; rw [if_neg q1, if_neg q2, if_pos q3]
          rw [e]
          refine hy_aload (i := 27) rfl rfl ?_
          refine hy_getr (i := 28) rfl rfl ?_
          refine hy_cV0e (i := 29) rfl mj_T_next (by decide) rfl (Nat.le_of_ble_eq_true rfl) rfl rfl rfl (c_T_next (tp_ok.e (by assumption))) ?_
          refine hy_cS1e (i := 30) rfl (by decide) mj_G_colourOf (by decide) rfl (Nat.le_of_ble_eq_true rfl) (c_G_colourOf) ?_
          refine hy_istore (i := 31) rfl ?_
          refine hy_iload (i := 32) rfl rfl ?_
          refine hy_if_ge (i := 33) (tt := 40) rfl (fun zc1 => ?_) (fun zc1 => ?_)
          · refine hy_iload (i := 40) rfl rfl ?_
            refine hy_iload (i := 41) rfl rfl ?_
            refine hy_iadd (i := 42) rfl (by omega) ?_
            refine hy_const (i := 43) rfl (by decide) ?_
            refine hy_ic_le (i := 44) (tt := 51) rfl (fun zc2 => ?_) (fun zc2 => ?_)
            · refine hy_iload (i := 51) rfl rfl ?_
              refine hy_const (i := 52) rfl (by decide) ?_
              refine hy_ic_eq (i := 53) (tt := 65) rfl (fun zc3 => ?_) (fun zc3 => ?_)
              · omega
              · refine hy_aload (i := 54) rfl rfl ?_
                refine hy_getr (i := 55) rfl rfl ?_
                refine hy_iload (i := 56) rfl rfl ?_
                refine hy_cV1e (i := 57) rfl mj_P_isTold (by decide) rfl (Nat.le_of_ble_eq_true rfl) rfl rfl rfl (c_P_isTold) ?_
                refine hy_ib_ne (i := 58) (tt := 65) rfl (fun zc4 => ?_) (fun zc4 => ?_)
                · simp_all
                · refine hy_aload (i := 59) rfl rfl ?_
                  refine hy_getr (i := 60) rfl rfl ?_
                  refine hy_const (i := 61) rfl (by decide) ?_
                  refine hy_cV1v (i := 62) rfl mj_T_fail (by decide) rfl (Nat.le_of_ble_eq_true rfl) rfl rfl rfl (c_T_fail (by decide) (by have := tp_ok.p (by assumption); omega)) ?_
                  refine hy_const (i := 63) rfl (by decide) ?_
                  refine hy_ireturn (i := 64) rfl rfl ?_
                  exact ⟨rfl, rfl⟩
            · omega
          · omega
        · have e : gd_tail t1 y x m = (gd_fillN (tp_step t1) y x (gd_col (tp_next t1)) m.toNat, m) := by unfold gd_tail; rw [if_neg q1, if_neg q2, if_neg q3]
          rw [e]
          refine hy_aload (i := 27) rfl rfl ?_
          refine hy_getr (i := 28) rfl rfl ?_
          refine hy_cV0e (i := 29) rfl mj_T_next (by decide) rfl (Nat.le_of_ble_eq_true rfl) rfl rfl rfl (c_T_next (tp_ok.e (by assumption))) ?_
          refine hy_cS1e (i := 30) rfl (by decide) mj_G_colourOf (by decide) rfl (Nat.le_of_ble_eq_true rfl) (c_G_colourOf) ?_
          refine hy_istore (i := 31) rfl ?_
          refine hy_iload (i := 32) rfl rfl ?_
          refine hy_if_ge (i := 33) (tt := 40) rfl (fun zc1 => ?_) (fun zc1 => ?_)
          · refine hy_iload (i := 40) rfl rfl ?_
            refine hy_iload (i := 41) rfl rfl ?_
            refine hy_iadd (i := 42) rfl (by omega) ?_
            refine hy_const (i := 43) rfl (by decide) ?_
            refine hy_ic_le (i := 44) (tt := 51) rfl (fun zc2 => ?_) (fun zc2 => ?_)
            · refine hy_iload (i := 51) rfl rfl ?_
              refine hy_const (i := 52) rfl (by decide) ?_
              refine hy_ic_eq (i := 53) (tt := 65) rfl (fun zc3 => ?_) (fun zc3 => ?_)
              · refine hy_aload (i := 65) rfl rfl ?_
                refine hy_getr (i := 66) rfl rfl ?_
                refine hy_cV0v (i := 67) rfl mj_T_step (by decide) rfl (Nat.le_of_ble_eq_true rfl) rfl rfl rfl (c_T_step (by have := tp_ok.p (by assumption); omega)) ?_
                refine hy_const (i := 68) rfl (by decide) ?_
                refine hy_istore (i := 69) rfl ?_
                exact loop m _ (tp_step t1) (by omega) m.toNat 0 _ (by omega) hm.1 rfl
              · refine hy_aload (i := 54) rfl rfl ?_
                refine hy_getr (i := 55) rfl rfl ?_
                refine hy_iload (i := 56) rfl rfl ?_
                refine hy_cV1e (i := 57) rfl mj_P_isTold (by decide) rfl (Nat.le_of_ble_eq_true rfl) rfl rfl rfl (c_P_isTold) ?_
                refine hy_ib_ne (i := 58) (tt := 65) rfl (fun zc4 => ?_) (fun zc4 => ?_)
                · refine hy_aload (i := 65) rfl rfl ?_
                  refine hy_getr (i := 66) rfl rfl ?_
                  refine hy_cV0v (i := 67) rfl mj_T_step (by decide) rfl (Nat.le_of_ble_eq_true rfl) rfl rfl rfl (c_T_step (by have := tp_ok.p (by assumption); omega)) ?_
                  refine hy_const (i := 68) rfl (by decide) ?_
                  refine hy_istore (i := 69) rfl ?_
                  exact loop m _ (tp_step t1) (by omega) m.toNat 0 _ (by omega) hm.1 rfl
                · simp_all
            · omega
          · omega
  have hn := tp_next_in h
  by_cases hd : 48 ≤ tp_next t ∧ tp_next t ≤ 57
  · by_cases q : 8 < x + (tp_next t - 48)
    · have e : gd_fields t y x = (tp_fail t 6 (t 3 3), 0) := by unfold gd_fields; rw [if_pos hd, if_pos q]
      rw [e]
      refine hy_const (i := 0) rfl (by decide) ?_
      refine hy_istore (i := 1) rfl ?_
      refine hy_aload (i := 2) rfl rfl ?_
      refine hy_getr (i := 3) rfl rfl ?_
      refine hy_cV0e (i := 4) rfl mj_T_next (by decide) rfl (Nat.le_of_ble_eq_true rfl) rfl rfl rfl (c_T_next (tp_ok.e (by assumption))) ?_
      refine hy_cS1e (i := 5) rfl (by decide) mj_W_isDigit (by decide) rfl (Nat.le_of_ble_eq_true rfl) (c_W_isDigit) ?_
      refine hy_ib_eq (i := 6) (tt := 27) rfl (fun zc1 => ?_) (fun zc1 => ?_)
      · simp at zc1; omega
      · refine hy_aload (i := 7) rfl rfl ?_
        refine hy_getr (i := 8) rfl rfl ?_
        refine hy_cV0e (i := 9) rfl mj_T_next (by decide) rfl (Nat.le_of_ble_eq_true rfl) rfl rfl rfl (c_T_next (tp_ok.e (by assumption))) ?_
        refine hy_const (i := 10) rfl (by decide) ?_
        refine hy_isub (i := 11) rfl (by omega) ?_
        refine hy_istore (i := 12) rfl ?_
        refine hy_iload (i := 13) rfl rfl ?_
        refine hy_iload (i := 14) rfl rfl ?_
        refine hy_iadd (i := 15) rfl (by omega) ?_
        refine hy_const (i := 16) rfl (by decide) ?_
        refine hy_ic_le (i := 17) (tt := 24) rfl (fun zc2 => ?_) (fun zc2 => ?_)
        · omega
        · refine hy_aload (i := 18) rfl rfl ?_
          refine hy_getr (i := 19) rfl rfl ?_
          refine hy_const (i := 20) rfl (by decide) ?_
          refine hy_cV1v (i := 21) rfl mj_T_fail (by decide) rfl (Nat.le_of_ble_eq_true rfl) rfl rfl rfl (c_T_fail (by decide) (by have := tp_ok.p (by assumption); omega)) ?_
          refine hy_const (i := 22) rfl (by decide) ?_
          refine hy_ireturn (i := 23) rfl rfl ?_
          exact ⟨rfl, rfl⟩
    · skip
      refine hy_const (i := 0) rfl (by decide) ?_
      refine hy_istore (i := 1) rfl ?_
      refine hy_aload (i := 2) rfl rfl ?_
      refine hy_getr (i := 3) rfl rfl ?_
      refine hy_cV0e (i := 4) rfl mj_T_next (by decide) rfl (Nat.le_of_ble_eq_true rfl) rfl rfl rfl (c_T_next (tp_ok.e (by assumption))) ?_
      refine hy_cS1e (i := 5) rfl (by decide) mj_W_isDigit (by decide) rfl (Nat.le_of_ble_eq_true rfl) (c_W_isDigit) ?_
      refine hy_ib_eq (i := 6) (tt := 27) rfl (fun zc1 => ?_) (fun zc1 => ?_)
      · simp at zc1; omega
      · refine hy_aload (i := 7) rfl rfl ?_
        refine hy_getr (i := 8) rfl rfl ?_
        refine hy_cV0e (i := 9) rfl mj_T_next (by decide) rfl (Nat.le_of_ble_eq_true rfl) rfl rfl rfl (c_T_next (tp_ok.e (by assumption))) ?_
        refine hy_const (i := 10) rfl (by decide) ?_
        refine hy_isub (i := 11) rfl (by omega) ?_
        refine hy_istore (i := 12) rfl ?_
        refine hy_iload (i := 13) rfl rfl ?_
        refine hy_iload (i := 14) rfl rfl ?_
        refine hy_iadd (i := 15) rfl (by omega) ?_
        refine hy_const (i := 16) rfl (by decide) ?_
        refine hy_ic_le (i := 17) (tt := 24) rfl (fun zc2 => ?_) (fun zc2 => ?_)
        · refine hy_aload (i := 24) rfl rfl ?_
          refine hy_getr (i := 25) rfl rfl ?_
          refine hy_cV0v (i := 26) rfl mj_T_step (by decide) rfl (Nat.le_of_ble_eq_true rfl) rfl rfl rfl (c_T_step (by have := tp_ok.p (by assumption); omega)) ?_
          exact tail _ _ _ _ (by omega) (tp_step_ok h (by omega)) (by unfold gd_fields; rw [if_pos hd, if_neg q]; rfl)
        · omega
  · skip
    refine hy_const (i := 0) rfl (by decide) ?_
    refine hy_istore (i := 1) rfl ?_
    refine hy_aload (i := 2) rfl rfl ?_
    refine hy_getr (i := 3) rfl rfl ?_
    refine hy_cV0e (i := 4) rfl mj_T_next (by decide) rfl (Nat.le_of_ble_eq_true rfl) rfl rfl rfl (c_T_next (tp_ok.e (by assumption))) ?_
    refine hy_cS1e (i := 5) rfl (by decide) mj_W_isDigit (by decide) rfl (Nat.le_of_ble_eq_true rfl) (c_W_isDigit) ?_
    refine hy_ib_eq (i := 6) (tt := 27) rfl (fun zc1 => ?_) (fun zc1 => ?_)
    · exact tail _ _ _ _ (by omega) h (by unfold gd_fields; rw [if_neg hd])
    · simp at zc1; omega
end GD
