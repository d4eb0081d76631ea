/-! the class's own methods: that they end, and what they leave (parted, spies, power) -/
abbrev wf_partok (t : hy_T) (m w : Int) : Prop := (2 ≤ m ∧ m ≤ 3) ∧ ((0 ≤ w ∧ w < 2) ∨ 0 ≤ wf_w10 w ∧ wf_w10 w < 4) ∧ 4 * m ≤ t 3 1
section WE
variable {sc : List Int32} {t : hy_T}
theorem hy_absw {u : hx_M} {d i : Nat} {loc st : List hy_V} {Q : Option Int → hy_T → Prop} {x : Int} (hop : (hx_ops u)[i]? = some (.invokestatic 9993)) (hl : st.length ≤ 8) (kk : ∀ y : Int, hy_R y → hy_W sc u d (i + 1) loc (.inl y :: st) t Q) : hy_W sc u d i loc (.inl x :: st) t Q := fun h1 h2 h3 => by
  have hv : (st.map hy_v).all hx_v = true := by
    rw [List.all_eq_true]
    intro v hv
    obtain ⟨w, -, rfl⟩ := List.mem_map.mp hv
    exact hy_vv w
  refine hx_abs hop hv (by simpa using hl) ?_
  have h := kk (if 0 ≤ Int32.ofInt x then Int32.ofInt x else 0 - Int32.ofInt x).toInt (hy_Ri _) h1 (hy_cons (hy_Ri _) (hy_one h2).2) h3
  simp only [List.map_cons, hy_v, hy_oi] at h
  exact h
theorem c_W_parted_2 {w : Int} (h : tp_ok t) : hy_Ct sc hm_W_parted 4 [.inr (some 2), .inl 2, .inl w] t (fun r t' => (∃ x : Int, r = some x) ∧ t' = if wf_partok t 2 w then hy_up t 3 1 0 else t) := by
  refine hy_mk_ct ok_W_parted ck_W_parted (Nat.le_of_ble_eq_true rfl) ?_
  by_cases hq : wf_partok t 2 w
  · simp only [if_pos hq]
    have h9 : (0 ≤ w ∧ w < 2) ∨ 0 ≤ (Int32.ofInt (w - 10)).toInt ∧ (Int32.ofInt (w - 10)).toInt < 4 := hq.2.1
    have fin : ∀ (v3 v4 v5 : hy_V) (x : Int), hy_W sc hm_W_parted 4 60 [.inr (some 2), .inl 2, .inl w, v3, .inl x, v5] [] t (fun r t' => (∃ x : Int, r = some x) ∧ t' = hy_up t 3 1 0) := by
      intro v3 v4 v5 x
      refine hy_aload (i := 60) rfl rfl ?_
      refine hy_getr (i := 61) rfl rfl ?_
      refine hy_cV0v (i := 62) rfl mj_T_clear (by decide) rfl (Nat.le_of_ble_eq_true rfl) rfl rfl rfl (c_T_clear) ?_
      refine hy_iload (i := 63) rfl rfl ?_
      refine hy_ireturn (i := 64) rfl rfl ?_
      exact ⟨⟨_, rfl⟩, rfl⟩
    refine hy_iload (i := 0) rfl rfl ?_
    refine hy_const (i := 1) rfl (by decide) ?_
    refine hy_isubw (i := 2) rfl ?_
    refine hy_cS1e (i := 3) rfl (by decide) mj_W_isQuarter (by decide) rfl (Nat.le_of_ble_eq_true rfl) (c_W_isQuarter) ?_
    refine hy_istore (i := 4) rfl ?_
    refine hy_iload (i := 5) rfl rfl ?_
    refine hy_const (i := 6) rfl (by decide) ?_
    refine hy_ic_lt (i := 7) (tt := 24) rfl (fun zc1 => ?_) (fun zc1 => ?_)
    · omega
    · refine hy_iload (i := 8) rfl rfl ?_
      refine hy_const (i := 9) rfl (by decide) ?_
      refine hy_ic_gt (i := 10) (tt := 24) rfl (fun zc2 => ?_) (fun zc2 => ?_)
      · omega
      · refine hy_iload (i := 11) rfl rfl ?_
        refine hy_const (i := 12) rfl (by decide) ?_
        refine hy_cS2e (i := 13) rfl (by decide) mj_W_isAmong (by decide) rfl (Nat.le_of_ble_eq_true rfl) (c_W_isAmong) ?_
        refine hy_ib_ne (i := 14) (tt := 17) rfl (fun zc3 => ?_) (fun zc3 => ?_)
        · refine hy_aload (i := 17) rfl rfl ?_
          refine hy_getr (i := 18) rfl rfl ?_
          refine hy_cV0e (i := 19) rfl mj_T_length (by decide) rfl (Nat.le_of_ble_eq_true rfl) rfl rfl rfl (c_T_length) ?_
          refine hy_const (i := 20) rfl (by decide) ?_
          refine hy_iload (i := 21) rfl rfl ?_
          refine hy_imul (i := 22) rfl (by omega) ?_
          refine hy_ic_ge (i := 23) (tt := 26) rfl (fun zc4 => ?_) (fun zc4 => ?_)
          · refine hy_const (i := 26) rfl (by decide) ?_
            refine hy_istore (i := 27) rfl ?_
            refine hy_aload (i := 28) rfl rfl ?_
            refine hy_const (i := 29) rfl (by decide) ?_
            refine hy_iload (i := 30) rfl rfl ?_
            refine hy_imul (i := 31) rfl (by omega) ?_
            refine hy_cV1 (i := 32) rfl mj_W_areThoughts (by decide) rfl (Nat.le_of_ble_eq_true rfl) rfl rfl rfl (c_W_areThoughts_2 h (by omega)) (fun r4_ t4_ h4 => ?_)
            obtain ⟨x4, rfl, hx4, rfl⟩ := h4
            dsimp only [hy_st, List.cons_append, List.nil_append]
            refine hy_if_eq (i := 33) (tt := 60) rfl (fun zc5 => ?_) (fun zc5 => ?_)
            · exact fin _ (.inl 0) _ _
            · refine hy_aload (i := 34) rfl rfl ?_
              refine hy_iload (i := 35) rfl rfl ?_
              refine hy_cV1 (i := 36) rfl mj_W_fairestRow (by decide) rfl (Nat.le_of_ble_eq_true rfl) rfl rfl rfl (c_W_fairestRow_2 h) (fun r5_ t5_ h5 => ?_)
              obtain ⟨x5, rfl, hx5, rfl⟩ := h5
              dsimp only [hy_st, List.cons_append, List.nil_append]
              refine hy_istore (i := 37) rfl ?_
              refine hy_iload (i := 38) rfl rfl ?_
              refine hy_ib_eq (i := 39) (tt := 48) rfl (fun zc6 => ?_) (fun zc6 => ?_)
              · refine hy_iload (i := 48) rfl rfl ?_
                refine hy_if_ne (i := 49) (tt := 55) rfl (fun zc7 => ?_) (fun zc7 => ?_)
                · refine hy_aload (i := 55) rfl rfl ?_
                  refine hy_iload (i := 56) rfl rfl ?_
                  refine hy_iload (i := 57) rfl rfl ?_
                  refine hy_cV2 (i := 58) rfl mj_W_envyOf (by decide) rfl (Nat.le_of_ble_eq_true rfl) rfl rfl rfl (c_W_envyOf_2 h (by omega)) (fun r6_ t6_ h6 => ?_)
                  obtain ⟨x6, rfl, hx6, rfl⟩ := h6
                  dsimp only [hy_st, List.cons_append, List.nil_append]
                  refine hy_istore (i := 59) rfl ?_
                  exact fin _ (.inl 0) _ _
                · refine hy_aload (i := 50) rfl rfl ?_
                  refine hy_iload (i := 51) rfl rfl ?_
                  refine hy_iload (i := 52) rfl rfl ?_
                  refine hy_cV2 (i := 53) rfl mj_W_leastOf (by decide) rfl (Nat.le_of_ble_eq_true rfl) rfl rfl rfl (c_W_leastOf_2 h (by omega)) (fun r6_ t6_ h6 => ?_)
                  obtain ⟨x6, rfl, hx6, rfl⟩ := h6
                  dsimp only [hy_st, List.cons_append, List.nil_append]
                  refine hy_goto (i := 54) (tt := 59) rfl ?_
                  refine hy_istore (i := 59) rfl ?_
                  exact fin _ (.inl 0) _ _
              · refine hy_iload (i := 40) rfl rfl ?_
                refine hy_iload (i := 41) rfl rfl ?_
                refine hy_iload (i := 42) rfl rfl ?_
                refine hy_const (i := 43) rfl (by decide) ?_
                refine hy_isubw (i := 44) rfl ?_
                refine hy_cS3 (i := 45) rfl (by decide) mj_W_placeIn (by decide) rfl (Nat.le_of_ble_eq_true rfl) (c_W_placeIn_2 (by omega) (by simp only [decide_eq_true_eq] at *; omega)) (fun r6_ t6_ h6 => ?_)
                obtain ⟨x6, rfl, hx6, rfl⟩ := h6
                dsimp only [hy_st, List.cons_append, List.nil_append]
                refine hy_istore (i := 46) rfl ?_
                refine hy_goto (i := 47) (tt := 60) rfl ?_
                exact fin _ (.inl 0) _ _
          · omega
        · refine hy_iload (i := 15) rfl rfl ?_
          refine hy_ib_eq (i := 16) (tt := 24) rfl (fun zc4 => ?_) (fun zc4 => ?_)
          · exfalso; simp only [decide_eq_false_iff_not] at *; omega
          · refine hy_aload (i := 17) rfl rfl ?_
            refine hy_getr (i := 18) rfl rfl ?_
            refine hy_cV0e (i := 19) rfl mj_T_length (by decide) rfl (Nat.le_of_ble_eq_true rfl) rfl rfl rfl (c_T_length) ?_
            refine hy_const (i := 20) rfl (by decide) ?_
            refine hy_iload (i := 21) rfl rfl ?_
            refine hy_imul (i := 22) rfl (by omega) ?_
            refine hy_ic_ge (i := 23) (tt := 26) rfl (fun zc5 => ?_) (fun zc5 => ?_)
            · refine hy_const (i := 26) rfl (by decide) ?_
              refine hy_istore (i := 27) rfl ?_
              refine hy_aload (i := 28) rfl rfl ?_
              refine hy_const (i := 29) rfl (by decide) ?_
              refine hy_iload (i := 30) rfl rfl ?_
              refine hy_imul (i := 31) rfl (by omega) ?_
              refine hy_cV1 (i := 32) rfl mj_W_areThoughts (by decide) rfl (Nat.le_of_ble_eq_true rfl) rfl rfl rfl (c_W_areThoughts_2 h (by omega)) (fun r4_ t4_ h4 => ?_)
              obtain ⟨x4, rfl, hx4, rfl⟩ := h4
              dsimp only [hy_st, List.cons_append, List.nil_append]
              refine hy_if_eq (i := 33) (tt := 60) rfl (fun zc6 => ?_) (fun zc6 => ?_)
              · exact fin _ (.inl 0) _ _
              · refine hy_aload (i := 34) rfl rfl ?_
                refine hy_iload (i := 35) rfl rfl ?_
                refine hy_cV1 (i := 36) rfl mj_W_fairestRow (by decide) rfl (Nat.le_of_ble_eq_true rfl) rfl rfl rfl (c_W_fairestRow_2 h) (fun r5_ t5_ h5 => ?_)
                obtain ⟨x5, rfl, hx5, rfl⟩ := h5
                dsimp only [hy_st, List.cons_append, List.nil_append]
                refine hy_istore (i := 37) rfl ?_
                refine hy_iload (i := 38) rfl rfl ?_
                refine hy_ib_eq (i := 39) (tt := 48) rfl (fun zc7 => ?_) (fun zc7 => ?_)
                · refine hy_iload (i := 48) rfl rfl ?_
                  refine hy_if_ne (i := 49) (tt := 55) rfl (fun zc8 => ?_) (fun zc8 => ?_)
                  · refine hy_aload (i := 55) rfl rfl ?_
                    refine hy_iload (i := 56) rfl rfl ?_
                    refine hy_iload (i := 57) rfl rfl ?_
                    refine hy_cV2 (i := 58) rfl mj_W_envyOf (by decide) rfl (Nat.le_of_ble_eq_true rfl) rfl rfl rfl (c_W_envyOf_2 h (by omega)) (fun r6_ t6_ h6 => ?_)
                    obtain ⟨x6, rfl, hx6, rfl⟩ := h6
                    dsimp only [hy_st, List.cons_append, List.nil_append]
                    refine hy_istore (i := 59) rfl ?_
                    exact fin _ (.inl 0) _ _
                  · refine hy_aload (i := 50) rfl rfl ?_
                    refine hy_iload (i := 51) rfl rfl ?_
                    refine hy_iload (i := 52) rfl rfl ?_
                    refine hy_cV2 (i := 53) rfl mj_W_leastOf (by decide) rfl (Nat.le_of_ble_eq_true rfl) rfl rfl rfl (c_W_leastOf_2 h (by omega)) (fun r6_ t6_ h6 => ?_)
                    obtain ⟨x6, rfl, hx6, rfl⟩ := h6
                    dsimp only [hy_st, List.cons_append, List.nil_append]
                    refine hy_goto (i := 54) (tt := 59) rfl ?_
                    refine hy_istore (i := 59) rfl ?_
                    exact fin _ (.inl 0) _ _
                · refine hy_iload (i := 40) rfl rfl ?_
                  refine hy_iload (i := 41) rfl rfl ?_
                  refine hy_iload (i := 42) rfl rfl ?_
                  refine hy_const (i := 43) rfl (by decide) ?_
                  refine hy_isubw (i := 44) rfl ?_
                  refine hy_cS3 (i := 45) rfl (by decide) mj_W_placeIn (by decide) rfl (Nat.le_of_ble_eq_true rfl) (c_W_placeIn_2 (by omega) (by simp only [decide_eq_true_eq] at *; omega)) (fun r6_ t6_ h6 => ?_)
                  obtain ⟨x6, rfl, hx6, rfl⟩ := h6
                  dsimp only [hy_st, List.cons_append, List.nil_append]
                  refine hy_istore (i := 46) rfl ?_
                  refine hy_goto (i := 47) (tt := 60) rfl ?_
                  exact fin _ (.inl 0) _ _
            · omega
  · simp only [if_neg hq]
    refine hy_iload (i := 0) rfl rfl ?_
    refine hy_const (i := 1) rfl (by decide) ?_
    refine hy_isubw (i := 2) rfl ?_
    refine hy_cS1e (i := 3) rfl (by decide) mj_W_isQuarter (by decide) rfl (Nat.le_of_ble_eq_true rfl) (c_W_isQuarter) ?_
    refine hy_istore (i := 4) rfl ?_
    refine hy_iload (i := 5) rfl rfl ?_
    refine hy_const (i := 6) rfl (by decide) ?_
    refine hy_ic_lt (i := 7) (tt := 24) rfl (fun zc1 => ?_) (fun zc1 => ?_)
    · refine hy_const (i := 24) rfl (by decide) ?_
      refine hy_ireturn (i := 25) rfl rfl ?_
      exact ⟨⟨_, rfl⟩, rfl⟩
    · refine hy_iload (i := 8) rfl rfl ?_
      refine hy_const (i := 9) rfl (by decide) ?_
      refine hy_ic_gt (i := 10) (tt := 24) rfl (fun zc2 => ?_) (fun zc2 => ?_)
      · refine hy_const (i := 24) rfl (by decide) ?_
        refine hy_ireturn (i := 25) rfl rfl ?_
        exact ⟨⟨_, rfl⟩, rfl⟩
      · refine hy_iload (i := 11) rfl rfl ?_
        refine hy_const (i := 12) rfl (by decide) ?_
        refine hy_cS2e (i := 13) rfl (by decide) mj_W_isAmong (by decide) rfl (Nat.le_of_ble_eq_true rfl) (c_W_isAmong) ?_
        refine hy_ib_ne (i := 14) (tt := 17) rfl (fun zc3 => ?_) (fun zc3 => ?_)
        · refine hy_aload (i := 17) rfl rfl ?_
          refine hy_getr (i := 18) rfl rfl ?_
          refine hy_cV0e (i := 19) rfl mj_T_length (by decide) rfl (Nat.le_of_ble_eq_true rfl) rfl rfl rfl (c_T_length) ?_
          refine hy_const (i := 20) rfl (by decide) ?_
          refine hy_iload (i := 21) rfl rfl ?_
          refine hy_imul (i := 22) rfl (by omega) ?_
          refine hy_ic_ge (i := 23) (tt := 26) rfl (fun zc4 => ?_) (fun zc4 => ?_)
          · exfalso; simp only [decide_eq_true_eq] at *; first | exact hq ⟨by omega, .inl (by omega), by omega⟩ | exact hq ⟨by omega, .inr (by assumption), by omega⟩
          · refine hy_const (i := 24) rfl (by decide) ?_
            refine hy_ireturn (i := 25) rfl rfl ?_
            exact ⟨⟨_, rfl⟩, rfl⟩
        · refine hy_iload (i := 15) rfl rfl ?_
          refine hy_ib_eq (i := 16) (tt := 24) rfl (fun zc4 => ?_) (fun zc4 => ?_)
          · refine hy_const (i := 24) rfl (by decide) ?_
            refine hy_ireturn (i := 25) rfl rfl ?_
            exact ⟨⟨_, rfl⟩, rfl⟩
          · refine hy_aload (i := 17) rfl rfl ?_
            refine hy_getr (i := 18) rfl rfl ?_
            refine hy_cV0e (i := 19) rfl mj_T_length (by decide) rfl (Nat.le_of_ble_eq_true rfl) rfl rfl rfl (c_T_length) ?_
            refine hy_const (i := 20) rfl (by decide) ?_
            refine hy_iload (i := 21) rfl rfl ?_
            refine hy_imul (i := 22) rfl (by omega) ?_
            refine hy_ic_ge (i := 23) (tt := 26) rfl (fun zc5 => ?_) (fun zc5 => ?_)
            · exfalso; simp only [decide_eq_true_eq] at *; first | exact hq ⟨by omega, .inl (by omega), by omega⟩ | exact hq ⟨by omega, .inr (by assumption), by omega⟩
            · refine hy_const (i := 24) rfl (by decide) ?_
              refine hy_ireturn (i := 25) rfl rfl ?_
              exact ⟨⟨_, rfl⟩, rfl⟩
theorem c_W_parted_3 {w : Int} (h : tp_ok t) : hy_Ct sc hm_W_parted 4 [.inr (some 2), .inl 3, .inl w] t (fun r t' => (∃ x : Int, r = some x) ∧ t' = if wf_partok t 3 w then hy_up t 3 1 0 else t) := by
  refine hy_mk_ct ok_W_parted ck_W_parted (Nat.le_of_ble_eq_true rfl) ?_
  by_cases hq : wf_partok t 3 w
  · simp only [if_pos hq]
    have h9 : (0 ≤ w ∧ w < 2) ∨ 0 ≤ (Int32.ofInt (w - 10)).toInt ∧ (Int32.ofInt (w - 10)).toInt < 4 := hq.2.1
    have fin : ∀ (v3 v4 v5 : hy_V) (x : Int), hy_W sc hm_W_parted 4 60 [.inr (some 2), .inl 3, .inl w, v3, .inl x, v5] [] t (fun r t' => (∃ x : Int, r = some x) ∧ t' = hy_up t 3 1 0) := by
      intro v3 v4 v5 x
      refine hy_aload (i := 60) rfl rfl ?_
      refine hy_getr (i := 61) rfl rfl ?_
      refine hy_cV0v (i := 62) rfl mj_T_clear (by decide) rfl (Nat.le_of_ble_eq_true rfl) rfl rfl rfl (c_T_clear) ?_
      refine hy_iload (i := 63) rfl rfl ?_
      refine hy_ireturn (i := 64) rfl rfl ?_
      exact ⟨⟨_, rfl⟩, rfl⟩
    refine hy_iload (i := 0) rfl rfl ?_
    refine hy_const (i := 1) rfl (by decide) ?_
    refine hy_isubw (i := 2) rfl ?_
    refine hy_cS1e (i := 3) rfl (by decide) mj_W_isQuarter (by decide) rfl (Nat.le_of_ble_eq_true rfl) (c_W_isQuarter) ?_
    refine hy_istore (i := 4) rfl ?_
    refine hy_iload (i := 5) rfl rfl ?_
    refine hy_const (i := 6) rfl (by decide) ?_
    refine hy_ic_lt (i := 7) (tt := 24) rfl (fun zc1 => ?_) (fun zc1 => ?_)
    · omega
    · refine hy_iload (i := 8) rfl rfl ?_
      refine hy_const (i := 9) rfl (by decide) ?_
      refine hy_ic_gt (i := 10) (tt := 24) rfl (fun zc2 => ?_) (fun zc2 => ?_)
      · omega
      · refine hy_iload (i := 11) rfl rfl ?_
        refine hy_const (i := 12) rfl (by decide) ?_
        refine hy_cS2e (i := 13) rfl (by decide) mj_W_isAmong (by decide) rfl (Nat.le_of_ble_eq_true rfl) (c_W_isAmong) ?_
        refine hy_ib_ne (i := 14) (tt := 17) rfl (fun zc3 => ?_) (fun zc3 => ?_)
        · refine hy_aload (i := 17) rfl rfl ?_
          refine hy_getr (i := 18) rfl rfl ?_
          refine hy_cV0e (i := 19) rfl mj_T_length (by decide) rfl (Nat.le_of_ble_eq_true rfl) rfl rfl rfl (c_T_length) ?_
          refine hy_const (i := 20) rfl (by decide) ?_
          refine hy_iload (i := 21) rfl rfl ?_
          refine hy_imul (i := 22) rfl (by omega) ?_
          refine hy_ic_ge (i := 23) (tt := 26) rfl (fun zc4 => ?_) (fun zc4 => ?_)
          · refine hy_const (i := 26) rfl (by decide) ?_
            refine hy_istore (i := 27) rfl ?_
            refine hy_aload (i := 28) rfl rfl ?_
            refine hy_const (i := 29) rfl (by decide) ?_
            refine hy_iload (i := 30) rfl rfl ?_
            refine hy_imul (i := 31) rfl (by omega) ?_
            refine hy_cV1 (i := 32) rfl mj_W_areThoughts (by decide) rfl (Nat.le_of_ble_eq_true rfl) rfl rfl rfl (c_W_areThoughts_3 h (by omega)) (fun r4_ t4_ h4 => ?_)
            obtain ⟨x4, rfl, hx4, rfl⟩ := h4
            dsimp only [hy_st, List.cons_append, List.nil_append]
            refine hy_if_eq (i := 33) (tt := 60) rfl (fun zc5 => ?_) (fun zc5 => ?_)
            · exact fin _ (.inl 0) _ _
            · refine hy_aload (i := 34) rfl rfl ?_
              refine hy_iload (i := 35) rfl rfl ?_
              refine hy_cV1 (i := 36) rfl mj_W_fairestRow (by decide) rfl (Nat.le_of_ble_eq_true rfl) rfl rfl rfl (c_W_fairestRow_3 h) (fun r5_ t5_ h5 => ?_)
              obtain ⟨x5, rfl, hx5, rfl⟩ := h5
              dsimp only [hy_st, List.cons_append, List.nil_append]
              refine hy_istore (i := 37) rfl ?_
              refine hy_iload (i := 38) rfl rfl ?_
              refine hy_ib_eq (i := 39) (tt := 48) rfl (fun zc6 => ?_) (fun zc6 => ?_)
              · refine hy_iload (i := 48) rfl rfl ?_
                refine hy_if_ne (i := 49) (tt := 55) rfl (fun zc7 => ?_) (fun zc7 => ?_)
                · refine hy_aload (i := 55) rfl rfl ?_
                  refine hy_iload (i := 56) rfl rfl ?_
                  refine hy_iload (i := 57) rfl rfl ?_
                  refine hy_cV2 (i := 58) rfl mj_W_envyOf (by decide) rfl (Nat.le_of_ble_eq_true rfl) rfl rfl rfl (c_W_envyOf_3 h (by omega)) (fun r6_ t6_ h6 => ?_)
                  obtain ⟨x6, rfl, hx6, rfl⟩ := h6
                  dsimp only [hy_st, List.cons_append, List.nil_append]
                  refine hy_istore (i := 59) rfl ?_
                  exact fin _ (.inl 0) _ _
                · refine hy_aload (i := 50) rfl rfl ?_
                  refine hy_iload (i := 51) rfl rfl ?_
                  refine hy_iload (i := 52) rfl rfl ?_
                  refine hy_cV2 (i := 53) rfl mj_W_leastOf (by decide) rfl (Nat.le_of_ble_eq_true rfl) rfl rfl rfl (c_W_leastOf_3 h (by omega)) (fun r6_ t6_ h6 => ?_)
                  obtain ⟨x6, rfl, hx6, rfl⟩ := h6
                  dsimp only [hy_st, List.cons_append, List.nil_append]
                  refine hy_goto (i := 54) (tt := 59) rfl ?_
                  refine hy_istore (i := 59) rfl ?_
                  exact fin _ (.inl 0) _ _
              · refine hy_iload (i := 40) rfl rfl ?_
                refine hy_iload (i := 41) rfl rfl ?_
                refine hy_iload (i := 42) rfl rfl ?_
                refine hy_const (i := 43) rfl (by decide) ?_
                refine hy_isubw (i := 44) rfl ?_
                refine hy_cS3 (i := 45) rfl (by decide) mj_W_placeIn (by decide) rfl (Nat.le_of_ble_eq_true rfl) (c_W_placeIn_3 (by omega) (by simp only [decide_eq_true_eq] at *; omega)) (fun r6_ t6_ h6 => ?_)
                obtain ⟨x6, rfl, hx6, rfl⟩ := h6
                dsimp only [hy_st, List.cons_append, List.nil_append]
                refine hy_istore (i := 46) rfl ?_
                refine hy_goto (i := 47) (tt := 60) rfl ?_
                exact fin _ (.inl 0) _ _
          · omega
        · refine hy_iload (i := 15) rfl rfl ?_
          refine hy_ib_eq (i := 16) (tt := 24) rfl (fun zc4 => ?_) (fun zc4 => ?_)
          · exfalso; simp only [decide_eq_false_iff_not] at *; omega
          · refine hy_aload (i := 17) rfl rfl ?_
            refine hy_getr (i := 18) rfl rfl ?_
            refine hy_cV0e (i := 19) rfl mj_T_length (by decide) rfl (Nat.le_of_ble_eq_true rfl) rfl rfl rfl (c_T_length) ?_
            refine hy_const (i := 20) rfl (by decide) ?_
            refine hy_iload (i := 21) rfl rfl ?_
            refine hy_imul (i := 22) rfl (by omega) ?_
            refine hy_ic_ge (i := 23) (tt := 26) rfl (fun zc5 => ?_) (fun zc5 => ?_)
            · refine hy_const (i := 26) rfl (by decide) ?_
              refine hy_istore (i := 27) rfl ?_
              refine hy_aload (i := 28) rfl rfl ?_
              refine hy_const (i := 29) rfl (by decide) ?_
              refine hy_iload (i := 30) rfl rfl ?_
              refine hy_imul (i := 31) rfl (by omega) ?_
              refine hy_cV1 (i := 32) rfl mj_W_areThoughts (by decide) rfl (Nat.le_of_ble_eq_true rfl) rfl rfl rfl (c_W_areThoughts_3 h (by omega)) (fun r4_ t4_ h4 => ?_)
              obtain ⟨x4, rfl, hx4, rfl⟩ := h4
              dsimp only [hy_st, List.cons_append, List.nil_append]
              refine hy_if_eq (i := 33) (tt := 60) rfl (fun zc6 => ?_) (fun zc6 => ?_)
              · exact fin _ (.inl 0) _ _
              · refine hy_aload (i := 34) rfl rfl ?_
                refine hy_iload (i := 35) rfl rfl ?_
                refine hy_cV1 (i := 36) rfl mj_W_fairestRow (by decide) rfl (Nat.le_of_ble_eq_true rfl) rfl rfl rfl (c_W_fairestRow_3 h) (fun r5_ t5_ h5 => ?_)
                obtain ⟨x5, rfl, hx5, rfl⟩ := h5
                dsimp only [hy_st, List.cons_append, List.nil_append]
                refine hy_istore (i := 37) rfl ?_
                refine hy_iload (i := 38) rfl rfl ?_
                refine hy_ib_eq (i := 39) (tt := 48) rfl (fun zc7 => ?_) (fun zc7 => ?_)
                · refine hy_iload (i := 48) rfl rfl ?_
                  refine hy_if_ne (i := 49) (tt := 55) rfl (fun zc8 => ?_) (fun zc8 => ?_)
                  · refine hy_aload (i := 55) rfl rfl ?_
                    refine hy_iload (i := 56) rfl rfl ?_
                    refine hy_iload (i := 57) rfl rfl ?_
                    refine hy_cV2 (i := 58) rfl mj_W_envyOf (by decide) rfl (Nat.le_of_ble_eq_true rfl) rfl rfl rfl (c_W_envyOf_3 h (by omega)) (fun r6_ t6_ h6 => ?_)
                    obtain ⟨x6, rfl, hx6, rfl⟩ := h6
                    dsimp only [hy_st, List.cons_append, List.nil_append]
                    refine hy_istore (i := 59) rfl ?_
                    exact fin _ (.inl 0) _ _
                  · refine hy_aload (i := 50) rfl rfl ?_
                    refine hy_iload (i := 51) rfl rfl ?_
                    refine hy_iload (i := 52) rfl rfl ?_
                    refine hy_cV2 (i := 53) rfl mj_W_leastOf (by decide) rfl (Nat.le_of_ble_eq_true rfl) rfl rfl rfl (c_W_leastOf_3 h (by omega)) (fun r6_ t6_ h6 => ?_)
                    obtain ⟨x6, rfl, hx6, rfl⟩ := h6
                    dsimp only [hy_st, List.cons_append, List.nil_append]
                    refine hy_goto (i := 54) (tt := 59) rfl ?_
                    refine hy_istore (i := 59) rfl ?_
                    exact fin _ (.inl 0) _ _
                · refine hy_iload (i := 40) rfl rfl ?_
                  refine hy_iload (i := 41) rfl rfl ?_
                  refine hy_iload (i := 42) rfl rfl ?_
                  refine hy_const (i := 43) rfl (by decide) ?_
                  refine hy_isubw (i := 44) rfl ?_
                  refine hy_cS3 (i := 45) rfl (by decide) mj_W_placeIn (by decide) rfl (Nat.le_of_ble_eq_true rfl) (c_W_placeIn_3 (by omega) (by simp only [decide_eq_true_eq] at *; omega)) (fun r6_ t6_ h6 => ?_)
                  obtain ⟨x6, rfl, hx6, rfl⟩ := h6
                  dsimp only [hy_st, List.cons_append, List.nil_append]
                  refine hy_istore (i := 46) rfl ?_
                  refine hy_goto (i := 47) (tt := 60) rfl ?_
                  exact fin _ (.inl 0) _ _
            · omega
  · simp only [if_neg hq]
    refine hy_iload (i := 0) rfl rfl ?_
    refine hy_const (i := 1) rfl (by decide) ?_
    refine hy_isubw (i := 2) rfl ?_
    refine hy_cS1e (i := 3) rfl (by decide) mj_W_isQuarter (by decide) rfl (Nat.le_of_ble_eq_true rfl) (c_W_isQuarter) ?_
    refine hy_istore (i := 4) rfl ?_
    refine hy_iload (i := 5) rfl rfl ?_
    refine hy_const (i := 6) rfl (by decide) ?_
    refine hy_ic_lt (i := 7) (tt := 24) rfl (fun zc1 => ?_) (fun zc1 => ?_)
    · refine hy_const (i := 24) rfl (by decide) ?_
      refine hy_ireturn (i := 25) rfl rfl ?_
      exact ⟨⟨_, rfl⟩, rfl⟩
    · refine hy_iload (i := 8) rfl rfl ?_
      refine hy_const (i := 9) rfl (by decide) ?_
      refine hy_ic_gt (i := 10) (tt := 24) rfl (fun zc2 => ?_) (fun zc2 => ?_)
      · refine hy_const (i := 24) rfl (by decide) ?_
        refine hy_ireturn (i := 25) rfl rfl ?_
        exact ⟨⟨_, rfl⟩, rfl⟩
      · refine hy_iload (i := 11) rfl rfl ?_
        refine hy_const (i := 12) rfl (by decide) ?_
        refine hy_cS2e (i := 13) rfl (by decide) mj_W_isAmong (by decide) rfl (Nat.le_of_ble_eq_true rfl) (c_W_isAmong) ?_
        refine hy_ib_ne (i := 14) (tt := 17) rfl (fun zc3 => ?_) (fun zc3 => ?_)
        · refine hy_aload (i := 17) rfl rfl ?_
          refine hy_getr (i := 18) rfl rfl ?_
          refine hy_cV0e (i := 19) rfl mj_T_length (by decide) rfl (Nat.le_of_ble_eq_true rfl) rfl rfl rfl (c_T_length) ?_
          refine hy_const (i := 20) rfl (by decide) ?_
          refine hy_iload (i := 21) rfl rfl ?_
          refine hy_imul (i := 22) rfl (by omega) ?_
          refine hy_ic_ge (i := 23) (tt := 26) rfl (fun zc4 => ?_) (fun zc4 => ?_)
          · exfalso; simp only [decide_eq_true_eq] at *; first | exact hq ⟨by omega, .inl (by omega), by omega⟩ | exact hq ⟨by omega, .inr (by assumption), by omega⟩
          · refine hy_const (i := 24) rfl (by decide) ?_
            refine hy_ireturn (i := 25) rfl rfl ?_
            exact ⟨⟨_, rfl⟩, rfl⟩
        · refine hy_iload (i := 15) rfl rfl ?_
          refine hy_ib_eq (i := 16) (tt := 24) rfl (fun zc4 => ?_) (fun zc4 => ?_)
          · refine hy_const (i := 24) rfl (by decide) ?_
            refine hy_ireturn (i := 25) rfl rfl ?_
            exact ⟨⟨_, rfl⟩, rfl⟩
          · refine hy_aload (i := 17) rfl rfl ?_
            refine hy_getr (i := 18) rfl rfl ?_
            refine hy_cV0e (i := 19) rfl mj_T_length (by decide) rfl (Nat.le_of_ble_eq_true rfl) rfl rfl rfl (c_T_length) ?_
            refine hy_const (i := 20) rfl (by decide) ?_
            refine hy_iload (i := 21) rfl rfl ?_
            refine hy_imul (i := 22) rfl (by omega) ?_
            refine hy_ic_ge (i := 23) (tt := 26) rfl (fun zc5 => ?_) (fun zc5 => ?_)
            · exfalso; simp only [decide_eq_true_eq] at *; first | exact hq ⟨by omega, .inl (by omega), by omega⟩ | exact hq ⟨by omega, .inr (by assumption), by omega⟩
            · refine hy_const (i := 24) rfl (by decide) ?_
              refine hy_ireturn (i := 25) rfl rfl ?_
              exact ⟨⟨_, rfl⟩, rfl⟩
theorem c_W_parted {m w : Int} (h : tp_ok t) : hy_Ct sc hm_W_parted 4 [.inr (some 2), .inl m, .inl w] t (fun r t' => (∃ x : Int, r = some x) ∧ t' = if wf_partok t m w then hy_up t 3 1 0 else t) := by
  by_cases h2 : m = 2
  · subst h2; exact c_W_parted_2 h
  · by_cases h3 : m = 3
    · subst h3; exact c_W_parted_3 h
    · refine hy_mk_ct ok_W_parted ck_W_parted (Nat.le_of_ble_eq_true rfl) ?_
      rw [if_neg (fun q => by have := q.1; omega)]
      refine hy_iload (i := 0) rfl rfl ?_
      refine hy_const (i := 1) rfl (by decide) ?_
      refine hy_isubw (i := 2) rfl ?_
      refine hy_cS1e (i := 3) rfl (by decide) mj_W_isQuarter (by decide) rfl (Nat.le_of_ble_eq_true rfl) (c_W_isQuarter) ?_
      refine hy_istore (i := 4) rfl ?_
      refine hy_iload (i := 5) rfl rfl ?_
      refine hy_const (i := 6) rfl (by decide) ?_
      refine hy_ic_lt (i := 7) (tt := 24) rfl (fun zc1 => ?_) (fun zc1 => ?_)
      · refine hy_const (i := 24) rfl (by decide) ?_
        refine hy_ireturn (i := 25) rfl rfl ?_
        exact ⟨⟨_, rfl⟩, rfl⟩
      · refine hy_iload (i := 8) rfl rfl ?_
        refine hy_const (i := 9) rfl (by decide) ?_
        refine hy_ic_gt (i := 10) (tt := 24) rfl (fun zc2 => ?_) (fun zc2 => ?_)
        · refine hy_const (i := 24) rfl (by decide) ?_
          refine hy_ireturn (i := 25) rfl rfl ?_
          exact ⟨⟨_, rfl⟩, rfl⟩
        · omega
theorem c_W_areShown {n : Int} (h : tp_ok t) (hn : n ≤ 10) : hy_Ct sc hm_W_areShown 2 [.inr (some 2), .inl n] t (hy_p (fun _ => True) t) := by
  refine hy_mk_ct ok_W_areShown ck_W_areShown (Nat.le_of_ble_eq_true rfl) ?_
  have hl := h.l
  have loop : ∀ (m : Nat), ∀ (k : Nat), m + k = n.toNat → hy_W sc hm_W_areShown 2 2 [.inr (some 2), .inl n, .inl (k : Int)] [] t (hy_p (fun _ => True) t) := by
    intro m
    induction m with
    | zero =>
      intro k hm
      refine hy_iload (i := 2) rfl rfl ?_
      refine hy_iload (i := 3) rfl rfl ?_
      refine hy_ic_ge (i := 4) (tt := 40) rfl (fun zc1 => ?_) (fun zc1 => ?_)
      · refine hy_const (i := 40) rfl (by decide) ?_
        refine hy_zreturn (i := 41) rfl rfl (by first | decide | exact hy_b01 _) ?_
        exact ⟨_, rfl, trivial, rfl⟩
      · omega
    | succ m ih =>
      intro k hm
      refine hy_iload (i := 2) rfl rfl ?_
      refine hy_iload (i := 3) rfl rfl ?_
      refine hy_ic_ge (i := 4) (tt := 40) rfl (fun zc1 => ?_) (fun zc1 => ?_)
      · omega
      · refine hy_aload (i := 5) rfl rfl ?_
        refine hy_getr (i := 6) rfl rfl ?_
        refine hy_aload (i := 7) rfl rfl ?_
        refine hy_getr (i := 8) rfl rfl ?_
        refine hy_const (i := 9) rfl (by decide) ?_
        refine hy_iload (i := 10) rfl rfl ?_
        refine hy_imul (i := 11) rfl (by omega) ?_
        refine hy_cV1e (i := 12) rfl mj_T_at (by decide) rfl (Nat.le_of_ble_eq_true rfl) rfl rfl rfl (c_T_at hl.2) ?_
        refine hy_cV1e (i := 13) rfl mj_P_isTold (by decide) rfl (Nat.le_of_ble_eq_true rfl) rfl rfl rfl (c_P_isTold) ?_
        refine hy_ib_eq (i := 14) (tt := 36) rfl (fun zc2 => ?_) (fun zc2 => ?_)
        · refine hy_const (i := 36) rfl (by decide) ?_
          refine hy_zreturn (i := 37) rfl rfl (by first | decide | exact hy_b01 _) ?_
          exact ⟨_, rfl, trivial, rfl⟩
        · refine hy_aload (i := 15) rfl rfl ?_
          refine hy_getr (i := 16) rfl rfl ?_
          refine hy_const (i := 17) rfl (by decide) ?_
          refine hy_iload (i := 18) rfl rfl ?_
          refine hy_imul (i := 19) rfl (by omega) ?_
          refine hy_const (i := 20) rfl (by decide) ?_
          refine hy_iadd (i := 21) rfl (by omega) ?_
          refine hy_cV1e (i := 22) rfl mj_T_at (by decide) rfl (Nat.le_of_ble_eq_true rfl) rfl rfl rfl (c_T_at hl.2) ?_
          refine hy_cS1e (i := 23) rfl (by decide) mj_W_isQuarter (by decide) rfl (Nat.le_of_ble_eq_true rfl) (c_W_isQuarter) ?_
          refine hy_ib_eq (i := 24) (tt := 36) rfl (fun zc3 => ?_) (fun zc3 => ?_)
          · refine hy_const (i := 36) rfl (by decide) ?_
            refine hy_zreturn (i := 37) rfl rfl (by first | decide | exact hy_b01 _) ?_
            exact ⟨_, rfl, trivial, rfl⟩
          · refine hy_aload (i := 25) rfl rfl ?_
            refine hy_getr (i := 26) rfl rfl ?_
            refine hy_const (i := 27) rfl (by decide) ?_
            refine hy_iload (i := 28) rfl rfl ?_
            refine hy_imul (i := 29) rfl (by omega) ?_
            refine hy_const (i := 30) rfl (by decide) ?_
            refine hy_iadd (i := 31) rfl (by omega) ?_
            refine hy_cV1e (i := 32) rfl mj_T_at (by decide) rfl (Nat.le_of_ble_eq_true rfl) rfl rfl rfl (c_T_at hl.2) ?_
            refine hy_const (i := 33) rfl (by decide) ?_
            refine hy_cS2e (i := 34) rfl (by decide) mj_W_isAmong (by decide) rfl (Nat.le_of_ble_eq_true rfl) (c_W_isAmong) ?_
            refine hy_ib_ne (i := 35) (tt := 38) rfl (fun zc4 => ?_) (fun zc4 => ?_)
            · refine hy_iinc (i := 38) rfl rfl (by omega) ?_
              refine hy_goto (i := 39) (tt := 2) rfl ?_
              exact ih (k + 1) (by omega)
            · refine hy_const (i := 36) rfl (by decide) ?_
              refine hy_zreturn (i := 37) rfl rfl (by first | decide | exact hy_b01 _) ?_
              exact ⟨_, rfl, trivial, rfl⟩
  refine hy_const (i := 0) rfl (by decide) ?_
  refine hy_istore (i := 1) rfl ?_
  exact loop n.toNat 0 rfl
abbrev brX : Nat → Nat → Bool := fun r _ => r == 17 || r == 18 || r == 46 || r == 57
theorem lc_ok_br {t1 : hy_T} (h : hy_F brX t t1) (hk : lc_ok t) : lc_ok t1 := lc_ok_same (lc_same_of h (fun r j q => by revert q; simp [lawX, brX]; omega)) hk
theorem c_W_findBright (hk : lc_ok t) : hy_Ct sc hm_W_findBright 5 [.inr (some 2)] t (fun r t' => r = none ∧ hy_F brX t t') := by
  refine hy_mk_ct ok_W_findBright ck_W_findBright (Nat.le_of_ble_eq_true rfl) ?_
  have loop : ∀ (m : Nat), ∀ (k : Nat) (t1 : hy_T), m + k = 24 → hy_F brX t t1 → hy_W sc hm_W_findBright 5 2 [.inr (some 2), .inl (k : Int)] [] t1 (fun r t' => r = none ∧ hy_F brX t t') := by
    intro m
    induction m with
    | zero =>
      intro k t1 hm hF
      refine hy_iload (i := 2) rfl rfl ?_
      refine hy_const (i := 3) rfl (by decide) ?_
      refine hy_ic_ge (i := 4) (tt := 30) rfl (fun zc1 => ?_) (fun zc1 => ?_)
      · refine hy_return (i := 30) rfl rfl ?_
        exact ⟨rfl, hF⟩
      · omega
    | succ m ih =>
      intro k t1 hm hF
      refine hy_iload (i := 2) rfl rfl ?_
      refine hy_const (i := 3) rfl (by decide) ?_
      refine hy_ic_ge (i := 4) (tt := 30) rfl (fun zc1 => ?_) (fun zc1 => ?_)
      · omega
      · refine hy_aload (i := 5) rfl rfl ?_
        refine hy_getr (i := 6) rfl rfl ?_
        refine hy_iload (i := 7) rfl rfl ?_
        refine hy_const (i := 8) rfl (by decide) ?_
        refine hy_idiv (i := 9) rfl (by omega) (by omega) ?_
        refine hy_iload (i := 10) rfl rfl ?_
        refine hy_const (i := 11) rfl (by decide) ?_
        refine hy_irem (i := 12) rfl (by omega) (by omega) ?_
        refine hy_cV2 (i := 13) rfl mj_E_look (by decide) rfl (Nat.le_of_ble_eq_true rfl) rfl rfl rfl (c_E_look (lc_ok_br hF hk)) (fun r1_ t1_ h1 => ?_)
        obtain ⟨rfl, hL1, hF1⟩ := h1
        dsimp only [hy_st, List.nil_append]
        refine hy_aload (i := 14) rfl rfl ?_
        refine hy_getr (i := 15) rfl rfl ?_
        refine hy_iload (i := 16) rfl rfl ?_
        refine hy_aload (i := 17) rfl rfl ?_
        refine hy_getr (i := 18) rfl rfl ?_
        refine hy_cV0e (i := 19) rfl mj_P_told (by decide) rfl (Nat.le_of_ble_eq_true rfl) rfl rfl rfl (c_P_told) ?_
        refine hy_aload (i := 20) rfl rfl ?_
        refine hy_getr (i := 21) rfl rfl ?_
        refine hy_const (i := 22) rfl (by decide) ?_
        refine hy_cV1e (i := 23) rfl mj_E_alike (by decide) rfl (Nat.le_of_ble_eq_true rfl) rfl rfl rfl (c_E_alike) ?_
        refine hy_const (i := 24) rfl (by decide) ?_
        refine hy_ixor (i := 25) rfl ?_
        refine hy_iand (i := 26) rfl ?_
        refine hy_iast (i := 27) rfl rfl (by omega) rfl ?_
        refine hy_iinc (i := 28) rfl rfl (by omega) ?_
        refine hy_goto (i := 29) (tt := 2) rfl ?_
        exact ih (k + 1) _ (by omega) ((hF.tr' (hF1.w (fun r j q => by revert q; simp [lX, brX]; omega))).up rfl)
  refine hy_const (i := 0) rfl (by decide) ?_
  refine hy_istore (i := 1) rfl ?_
  exact loop 24 0 t rfl hy_F.rf
theorem c_W_fits {e n : Int} (h : tp_ok t) (hn : n ≤ 10) (he : 0 ≤ e ∧ e < 6) : hy_Ct sc hm_W_fits 1 [.inr (some 2), .inl e, .inl n] t (hy_p (fun _ => True) t) := by
  refine hy_mk_ct ok_W_fits ck_W_fits (Nat.le_of_ble_eq_true rfl) ?_
  have hl := h.l
  have loop : ∀ (m : Nat), ∀ (k : Nat) (v4 : hy_V), m + k = n.toNat → hy_W sc hm_W_fits 1 2 [.inr (some 2), .inl e, .inl n, .inl (k : Int), v4] [] t (hy_p (fun _ => True) t) := by
    intro m
    induction m with
    | zero =>
      intro k v4 hm
      refine hy_iload (i := 2) rfl rfl ?_
      refine hy_iload (i := 3) rfl rfl ?_
      refine hy_ic_ge (i := 4) (tt := 48) rfl (fun zc1 => ?_) (fun zc1 => ?_)
      · refine hy_const (i := 48) rfl (by decide) ?_
        refine hy_zreturn (i := 49) rfl rfl (by first | decide | exact hy_b01 _) ?_
        exact ⟨_, rfl, trivial, rfl⟩
      · omega
    | succ m ih =>
      intro k v4 hm
      have h1 := tp_at_in h (3 * k + 1)
      refine hy_iload (i := 2) rfl rfl ?_
      refine hy_iload (i := 3) rfl rfl ?_
      refine hy_ic_ge (i := 4) (tt := 48) rfl (fun zc1 => ?_) (fun zc1 => ?_)
      · omega
      · refine hy_const (i := 5) rfl (by decide) ?_
        refine hy_iload (i := 6) rfl rfl ?_
        refine hy_imul (i := 7) rfl (by omega) ?_
        refine hy_aload (i := 8) rfl rfl ?_
        refine hy_getr (i := 9) rfl rfl ?_
        refine hy_const (i := 10) rfl (by decide) ?_
        refine hy_iload (i := 11) rfl rfl ?_
        refine hy_imul (i := 12) rfl (by omega) ?_
        refine hy_const (i := 13) rfl (by decide) ?_
        refine hy_iadd (i := 14) rfl (by omega) ?_
        refine hy_cV1e (i := 15) rfl mj_T_at (by decide) rfl (Nat.le_of_ble_eq_true rfl) rfl rfl rfl (c_T_at hl.2) ?_
        refine hy_iadd (i := 16) rfl (by omega) ?_
        refine hy_istore (i := 17) rfl ?_
        refine hy_iload (i := 18) rfl rfl ?_
        refine hy_aload (i := 19) rfl rfl ?_
        refine hy_getr (i := 20) rfl rfl ?_
        refine hy_alen (i := 21) rfl rfl (by decide) (by decide) ?_
        refine hy_cS2e (i := 22) rfl (by decide) mj_W_isAmong (by decide) rfl (Nat.le_of_ble_eq_true rfl) (c_W_isAmong) ?_
        refine hy_ib_eq (i := 23) (tt := 44) rfl (fun zc2 => ?_) (fun zc2 => ?_)
        · refine hy_const (i := 44) rfl (by decide) ?_
          refine hy_zreturn (i := 45) rfl rfl (by first | decide | exact hy_b01 _) ?_
          exact ⟨_, rfl, trivial, rfl⟩
        · refine hy_aload (i := 24) rfl rfl ?_
          refine hy_getr (i := 25) rfl rfl ?_
          refine hy_iload (i := 26) rfl rfl ?_
          refine hy_iald (i := 27) rfl rfl (by simp only [decide_eq_true_eq] at *; omega) rfl ?_
          refine hy_aload (i := 28) rfl rfl ?_
          refine hy_getr (i := 29) rfl rfl ?_
          refine hy_const (i := 30) rfl (by decide) ?_
          refine hy_iload (i := 31) rfl rfl ?_
          refine hy_imul (i := 32) rfl (by omega) ?_
          refine hy_cV1e (i := 33) rfl mj_T_at (by decide) rfl (Nat.le_of_ble_eq_true rfl) rfl rfl rfl (c_T_at hl.2) ?_
          refine hy_cS2e (i := 34) rfl (by decide) mj_W_bit (by decide) rfl (Nat.le_of_ble_eq_true rfl) (c_W_bit) ?_
          refine hy_aload (i := 35) rfl rfl ?_
          refine hy_getr (i := 36) rfl rfl ?_
          refine hy_const (i := 37) rfl (by decide) ?_
          refine hy_iload (i := 38) rfl rfl ?_
          refine hy_imul (i := 39) rfl (by omega) ?_
          refine hy_const (i := 40) rfl (by decide) ?_
          refine hy_iadd (i := 41) rfl (by omega) ?_
          refine hy_cV1e (i := 42) rfl mj_T_at (by decide) rfl (Nat.le_of_ble_eq_true rfl) rfl rfl rfl (c_T_at hl.2) ?_
          refine hy_ic_eq (i := 43) (tt := 46) rfl (fun zc3 => ?_) (fun zc3 => ?_)
          · refine hy_iinc (i := 46) rfl rfl (by omega) ?_
            refine hy_goto (i := 47) (tt := 2) rfl ?_
            exact ih (k + 1) _ (by omega)
          · refine hy_const (i := 44) rfl (by decide) ?_
            refine hy_zreturn (i := 45) rfl rfl (by first | decide | exact hy_b01 _) ?_
            exact ⟨_, rfl, trivial, rfl⟩
  refine hy_const (i := 0) rfl (by decide) ?_
  refine hy_istore (i := 1) rfl ?_
  exact loop n.toNat 0 _ rfl
theorem c_W_fitting {n : Int} (h : tp_ok t) (hn : n ≤ 10) : hy_Ct sc hm_W_fitting 2 [.inr (some 2), .inl n] t (hy_p (fun _ => True) t) := by
  refine hy_mk_ct ok_W_fitting ck_W_fitting (Nat.le_of_ble_eq_true rfl) ?_
  have loop : ∀ (m : Nat), ∀ (k : Nat) (s : Int), m + k = 6 → hy_W sc hm_W_fitting 2 4 [.inr (some 2), .inl n, .inl s, .inl (k : Int)] [] t (hy_p (fun _ => True) t) := by
    intro m
    induction m with
    | zero =>
      intro k s hm
      refine hy_iload (i := 4) rfl rfl ?_
      refine hy_const (i := 5) rfl (by decide) ?_
      refine hy_ic_ge (i := 6) (tt := 20) rfl (fun zc1 => ?_) (fun zc1 => ?_)
      · refine hy_iload (i := 20) rfl rfl ?_
        refine hy_ireturn (i := 21) rfl rfl ?_
        exact ⟨_, rfl, trivial, rfl⟩
      · omega
    | succ m ih =>
      intro k s hm
      refine hy_iload (i := 4) rfl rfl ?_
      refine hy_const (i := 5) rfl (by decide) ?_
      refine hy_ic_ge (i := 6) (tt := 20) rfl (fun zc1 => ?_) (fun zc1 => ?_)
      · omega
      · refine hy_aload (i := 7) rfl rfl ?_
        refine hy_iload (i := 8) rfl rfl ?_
        refine hy_iload (i := 9) rfl rfl ?_
        refine hy_cV2 (i := 10) rfl mj_W_fits (by decide) rfl (Nat.le_of_ble_eq_true rfl) rfl rfl rfl (c_W_fits h hn (by omega)) (fun r1_ t1_ h1 => ?_)
        obtain ⟨x1, rfl, hx1, rfl⟩ := h1
        dsimp only [hy_st, List.cons_append, List.nil_append]
        refine hy_if_eq (i := 11) (tt := 18) rfl (fun zc2 => ?_) (fun zc2 => ?_)
        · refine hy_iinc (i := 18) rfl rfl (by omega) ?_
          refine hy_goto (i := 19) (tt := 4) rfl ?_
          exact ih (k + 1) _ (by omega)
        · refine hy_iload (i := 12) rfl rfl ?_
          refine hy_const (i := 13) rfl (by decide) ?_
          refine hy_iload (i := 14) rfl rfl ?_
          refine hy_ishl (i := 15) rfl ?_
          refine hy_ior (i := 16) rfl ?_
          refine hy_istore (i := 17) rfl ?_
          refine hy_iinc (i := 18) rfl rfl (by omega) ?_
          refine hy_goto (i := 19) (tt := 4) rfl ?_
          exact ih (k + 1) _ (by omega)
  refine hy_const (i := 0) rfl (by decide) ?_
  refine hy_istore (i := 1) rfl ?_
  refine hy_const (i := 2) rfl (by decide) ?_
  refine hy_istore (i := 3) rfl ?_
  exact loop 6 0 _ rfl
theorem c_W_greaterPart {s c q : Int} (hq : 0 ≤ q ∧ q < 4) : hy_Ct sc hm_W_greaterPart 1 [.inr (some 2), .inl s, .inl c, .inl q] t (hy_p (fun _ => True) t) := by
  refine hy_mk_ct ok_W_greaterPart ck_W_greaterPart (Nat.le_of_ble_eq_true rfl) ?_
  have loop : ∀ (m : Nat), ∀ (k : Nat) (n : Int), m + k = 6 → hy_W sc hm_W_greaterPart 1 4 [.inr (some 2), .inl s, .inl c, .inl q, .inl n, .inl (k : Int)] [] t (hy_p (fun _ => True) t) := by
    intro m
    induction m with
    | zero =>
      intro k n hm
      refine hy_iload (i := 4) rfl rfl ?_
      refine hy_const (i := 5) rfl (by decide) ?_
      refine hy_ic_ge (i := 6) (tt := 26) rfl (fun zc1 => ?_) (fun zc1 => ?_)
      · refine hy_iload (i := 26) rfl rfl ?_
        refine hy_iload (i := 27) rfl rfl ?_
        refine hy_cS1e (i := 28) rfl (by decide) mj_J_bitCount (by decide) rfl (Nat.le_of_ble_eq_true rfl) (c_J_bitCount) ?_
        refine hy_iload (i := 29) rfl rfl ?_
        refine hy_isubw (i := 30) rfl ?_
        refine hy_max (i := 31) rfl (Nat.le_of_ble_eq_true rfl) ?_
        refine hy_ireturn (i := 32) rfl rfl ?_
        exact ⟨_, rfl, trivial, rfl⟩
      · omega
    | succ m ih =>
      intro k n hm
      refine hy_iload (i := 4) rfl rfl ?_
      refine hy_const (i := 5) rfl (by decide) ?_
      refine hy_ic_ge (i := 6) (tt := 26) rfl (fun zc1 => ?_) (fun zc1 => ?_)
      · omega
      · refine hy_iload (i := 7) rfl rfl ?_
        refine hy_iload (i := 8) rfl rfl ?_
        refine hy_iload (i := 9) rfl rfl ?_
        refine hy_cS2e (i := 10) rfl (by decide) mj_W_bit (by decide) rfl (Nat.le_of_ble_eq_true rfl) (c_W_bit) ?_
        refine hy_aload (i := 11) rfl rfl ?_
        refine hy_getr (i := 12) rfl rfl ?_
        refine hy_const (i := 13) rfl (by decide) ?_
        refine hy_iload (i := 14) rfl rfl ?_
        refine hy_imul (i := 15) rfl (by omega) ?_
        refine hy_iload (i := 16) rfl rfl ?_
        refine hy_iadd (i := 17) rfl (by omega) ?_
        refine hy_iald (i := 18) rfl rfl (by omega) rfl ?_
        refine hy_iload (i := 19) rfl rfl ?_
        refine hy_cS2e (i := 20) rfl (by decide) mj_W_bit (by decide) rfl (Nat.le_of_ble_eq_true rfl) (c_W_bit) ?_
        refine hy_iand (i := 21) rfl ?_
        refine hy_iaddw (i := 22) rfl ?_
        refine hy_istore (i := 23) rfl ?_
        refine hy_iinc (i := 24) rfl rfl (by omega) ?_
        refine hy_goto (i := 25) (tt := 4) rfl ?_
        exact ih (k + 1) _ (by omega)
  refine hy_const (i := 0) rfl (by decide) ?_
  refine hy_istore (i := 1) rfl ?_
  refine hy_const (i := 2) rfl (by decide) ?_
  refine hy_istore (i := 3) rfl ?_
  exact loop 6 0 _ rfl
theorem c_W_bestShown {s : Int} : hy_Ct sc hm_W_bestShown 2 [.inr (some 2), .inl s] t (hy_p (fun x => 0 ≤ x ∧ x < 48) t) := by
  refine hy_mk_ct ok_W_bestShown ck_W_bestShown (Nat.le_of_ble_eq_true rfl) ?_
  have loop : ∀ (m : Nat), ∀ (k : Nat) (b l : Int) (v5 v6 : hy_V), m + k = 48 → (0 ≤ b ∧ b < 48) → hy_W sc hm_W_bestShown 2 6 [.inr (some 2), .inl s, .inl b, .inl l, .inl (k : Int), v5, v6] [] t (hy_p (fun x => 0 ≤ x ∧ x < 48) t) := by
    intro m
    induction m with
    | zero =>
      intro k b l v5 v6 hm hb
      refine hy_iload (i := 6) rfl rfl ?_
      refine hy_const (i := 7) rfl (by decide) ?_
      refine hy_ic_ge (i := 8) (tt := 35) rfl (fun zc1 => ?_) (fun zc1 => ?_)
      · refine hy_iload (i := 35) rfl rfl ?_
        refine hy_ireturn (i := 36) rfl rfl ?_
        exact ⟨_, rfl, hb, rfl⟩
      · omega
    | succ m ih =>
      intro k b l v5 v6 hm hb
      refine hy_iload (i := 6) rfl rfl ?_
      refine hy_const (i := 7) rfl (by decide) ?_
      refine hy_ic_ge (i := 8) (tt := 35) rfl (fun zc1 => ?_) (fun zc1 => ?_)
      · omega
      · refine hy_iload (i := 9) rfl rfl ?_
        refine hy_const (i := 10) rfl (by decide) ?_
        refine hy_idiv (i := 11) rfl (by omega) (by omega) ?_
        refine hy_istore (i := 12) rfl ?_
        refine hy_aload (i := 13) rfl rfl ?_
        refine hy_getr (i := 14) rfl rfl ?_
        refine hy_iload (i := 15) rfl rfl ?_
        refine hy_cV1e (i := 16) rfl mj_P_isTold (by decide) rfl (Nat.le_of_ble_eq_true rfl) rfl rfl rfl (c_P_isTold) ?_
        refine hy_ib_eq (i := 17) (tt := 33) rfl (fun zc2 => ?_) (fun zc2 => ?_)
        · refine hy_iinc (i := 33) rfl rfl (by omega) ?_
          refine hy_goto (i := 34) (tt := 6) rfl ?_
          exact ih (k + 1) _ _ _ _ (by omega) (by omega)
        · refine hy_aload (i := 18) rfl rfl ?_
          refine hy_iload (i := 19) rfl rfl ?_
          refine hy_iload (i := 20) rfl rfl ?_
          refine hy_iload (i := 21) rfl rfl ?_
          refine hy_const (i := 22) rfl (by decide) ?_
          refine hy_irem (i := 23) rfl (by omega) (by omega) ?_
          refine hy_cV3 (i := 24) rfl mj_W_greaterPart (by decide) rfl (Nat.le_of_ble_eq_true rfl) rfl rfl rfl (c_W_greaterPart (by omega)) (fun r2_ t2_ h2 => ?_)
          obtain ⟨x2, rfl, hx2, rfl⟩ := h2
          dsimp only [hy_st, List.cons_append, List.nil_append]
          refine hy_istore (i := 25) rfl ?_
          refine hy_iload (i := 26) rfl rfl ?_
          refine hy_iload (i := 27) rfl rfl ?_
          refine hy_ic_ge (i := 28) (tt := 33) rfl (fun zc3 => ?_) (fun zc3 => ?_)
          · refine hy_iinc (i := 33) rfl rfl (by omega) ?_
            refine hy_goto (i := 34) (tt := 6) rfl ?_
            exact ih (k + 1) _ _ _ _ (by omega) (by omega)
          · refine hy_iload (i := 29) rfl rfl ?_
            refine hy_istore (i := 30) rfl ?_
            refine hy_iload (i := 31) rfl rfl ?_
            refine hy_istore (i := 32) rfl ?_
            refine hy_iinc (i := 33) rfl rfl (by omega) ?_
            refine hy_goto (i := 34) (tt := 6) rfl ?_
            exact ih (k + 1) _ _ _ _ (by omega) (by omega)
  refine hy_const (i := 0) rfl (by decide) ?_
  refine hy_istore (i := 1) rfl ?_
  refine hy_const (i := 2) rfl (by decide) ?_
  refine hy_istore (i := 3) rfl ?_
  refine hy_const (i := 4) rfl (by decide) ?_
  refine hy_istore (i := 5) rfl ?_
  exact loop 48 0 _ _ _ _ rfl (by decide)
abbrev wf_spyok (t : hy_T) (n w : Int) : Prop := (1 ≤ n ∧ n ≤ 10) ∧ (0 ≤ w ∧ w < 3) ∧ 3 * n ≤ t 3 1
theorem c_W_spies {n w : Int} (h : tp_ok t) (hk : lc_ok t) : hy_Ct sc hm_W_spies 6 [.inr (some 2), .inl n, .inl w] t (fun r t' => (∃ x : Int, r = some x) ∧ hy_F brX (if wf_spyok t n w then hy_up t 3 1 0 else t) t') := by
  refine hy_mk_ct ok_W_spies ck_W_spies (Nat.le_of_ble_eq_true rfl) ?_
  by_cases hq : wf_spyok t n w
  · simp only [if_pos hq]
    refine hy_iload (i := 0) rfl rfl ?_
    refine hy_const (i := 1) rfl (by decide) ?_
    refine hy_ic_lt (i := 2) (tt := 17) rfl (fun zc1 => ?_) (fun zc1 => ?_)
    · omega
    · refine hy_iload (i := 3) rfl rfl ?_
      refine hy_const (i := 4) rfl (by decide) ?_
      refine hy_ic_gt (i := 5) (tt := 17) rfl (fun zc2 => ?_) (fun zc2 => ?_)
      · omega
      · refine hy_iload (i := 6) rfl rfl ?_
        refine hy_const (i := 7) rfl (by decide) ?_
        refine hy_cS2e (i := 8) rfl (by decide) mj_W_isAmong (by decide) rfl (Nat.le_of_ble_eq_true rfl) (c_W_isAmong) ?_
        refine hy_ib_eq (i := 9) (tt := 17) rfl (fun zc3 => ?_) (fun zc3 => ?_)
        · simp only [decide_eq_false_iff_not] at *; omega
        · refine hy_aload (i := 10) rfl rfl ?_
          refine hy_getr (i := 11) rfl rfl ?_
          refine hy_cV0e (i := 12) rfl mj_T_length (by decide) rfl (Nat.le_of_ble_eq_true rfl) rfl rfl rfl (c_T_length) ?_
          refine hy_const (i := 13) rfl (by decide) ?_
          refine hy_iload (i := 14) rfl rfl ?_
          refine hy_imul (i := 15) rfl (by omega) ?_
          refine hy_ic_ge (i := 16) (tt := 19) rfl (fun zc4 => ?_) (fun zc4 => ?_)
          · refine hy_aload (i := 19) rfl rfl ?_
            refine hy_iload (i := 20) rfl rfl ?_
            refine hy_cV1 (i := 21) rfl mj_W_areShown (by decide) rfl (Nat.le_of_ble_eq_true rfl) rfl rfl rfl (c_W_areShown h (by omega)) (fun r3_ t3_ h3 => ?_)
            obtain ⟨x3, rfl, hx3, rfl⟩ := h3
            dsimp only [hy_st, List.cons_append, List.nil_append]
            refine hy_if_ne (i := 22) (tt := 28) rfl (fun zc5 => ?_) (fun zc5 => ?_)
            · refine hy_aload (i := 28) rfl rfl ?_
              refine hy_cV0 (i := 29) rfl mj_W_findBright (by decide) rfl (Nat.le_of_ble_eq_true rfl) rfl rfl rfl (c_W_findBright hk) (fun r4_ t4_ h4 => ?_)
              obtain ⟨rfl, hF4⟩ := h4
              dsimp only [hy_st, List.nil_append]
              have hb := tp_ok_F hF4 (fun _ => rfl) (fun _ => rfl) h
              refine hy_aload (i := 30) rfl rfl ?_
              refine hy_iload (i := 31) rfl rfl ?_
              refine hy_cV1 (i := 32) rfl mj_W_fitting (by decide) rfl (Nat.le_of_ble_eq_true rfl) rfl rfl rfl (c_W_fitting hb (by omega)) (fun r5_ t5_ h5 => ?_)
              obtain ⟨x5, rfl, hx5, rfl⟩ := h5
              dsimp only [hy_st, List.cons_append, List.nil_append]
              refine hy_istore (i := 33) rfl ?_
              refine hy_aload (i := 34) rfl rfl ?_
              refine hy_getr (i := 35) rfl rfl ?_
              refine hy_cV0v (i := 36) rfl mj_T_clear (by decide) rfl (Nat.le_of_ble_eq_true rfl) rfl rfl rfl (c_T_clear) ?_
              refine hy_iload (i := 37) rfl rfl ?_
              refine hy_if_ne (i := 38) (tt := 41) rfl (fun zc6 => ?_) (fun zc6 => ?_)
              · refine hy_aload (i := 41) rfl rfl ?_
                refine hy_iload (i := 42) rfl rfl ?_
                refine hy_cV1 (i := 43) rfl mj_W_bestShown (by decide) rfl (Nat.le_of_ble_eq_true rfl) rfl rfl rfl (c_W_bestShown) (fun r7_ t7_ h7 => ?_)
                obtain ⟨x7, rfl, hx7, rfl⟩ := h7
                dsimp only [hy_st, List.cons_append, List.nil_append]
                refine hy_istore (i := 44) rfl ?_
                refine hy_iload (i := 45) rfl rfl ?_
                refine hy_const (i := 46) rfl (by decide) ?_
                refine hy_ic_ne (i := 47) (tt := 52) rfl (fun zc7 => ?_) (fun zc7 => ?_)
                · refine hy_iload (i := 52) rfl rfl ?_
                  refine hy_const (i := 53) rfl (by decide) ?_
                  refine hy_irem (i := 54) rfl (by omega) (by omega) ?_
                  refine hy_ireturn (i := 55) rfl rfl ?_
                  first | exact ⟨⟨_, rfl⟩, hy_F.rf⟩ | exact ⟨⟨_, rfl⟩, hE_up (by assumption) _ _ _⟩
                · refine hy_iload (i := 48) rfl rfl ?_
                  refine hy_const (i := 49) rfl (by decide) ?_
                  refine hy_idiv (i := 50) rfl (by omega) (by omega) ?_
                  refine hy_goto (i := 51) (tt := 55) rfl ?_
                  refine hy_ireturn (i := 55) rfl rfl ?_
                  first | exact ⟨⟨_, rfl⟩, hy_F.rf⟩ | exact ⟨⟨_, rfl⟩, hE_up (by assumption) _ _ _⟩
              · refine hy_iload (i := 39) rfl rfl ?_
                refine hy_ireturn (i := 40) rfl rfl ?_
                first | exact ⟨⟨_, rfl⟩, hy_F.rf⟩ | exact ⟨⟨_, rfl⟩, hE_up (by assumption) _ _ _⟩
            · refine hy_aload (i := 23) rfl rfl ?_
              refine hy_getr (i := 24) rfl rfl ?_
              refine hy_cV0v (i := 25) rfl mj_T_clear (by decide) rfl (Nat.le_of_ble_eq_true rfl) rfl rfl rfl (c_T_clear) ?_
              refine hy_const (i := 26) rfl (by decide) ?_
              refine hy_ireturn (i := 27) rfl rfl ?_
              first | exact ⟨⟨_, rfl⟩, hy_F.rf⟩ | exact ⟨⟨_, rfl⟩, hE_up (by assumption) _ _ _⟩
          · omega
  · simp only [if_neg hq]
    refine hy_iload (i := 0) rfl rfl ?_
    refine hy_const (i := 1) rfl (by decide) ?_
    refine hy_ic_lt (i := 2) (tt := 17) rfl (fun zc1 => ?_) (fun zc1 => ?_)
    · refine hy_const (i := 17) rfl (by decide) ?_
      refine hy_ireturn (i := 18) rfl rfl ?_
      exact ⟨⟨_, rfl⟩, hy_F.rf⟩
    · refine hy_iload (i := 3) rfl rfl ?_
      refine hy_const (i := 4) rfl (by decide) ?_
      refine hy_ic_gt (i := 5) (tt := 17) rfl (fun zc2 => ?_) (fun zc2 => ?_)
      · refine hy_const (i := 17) rfl (by decide) ?_
        refine hy_ireturn (i := 18) rfl rfl ?_
        exact ⟨⟨_, rfl⟩, hy_F.rf⟩
      · refine hy_iload (i := 6) rfl rfl ?_
        refine hy_const (i := 7) rfl (by decide) ?_
        refine hy_cS2e (i := 8) rfl (by decide) mj_W_isAmong (by decide) rfl (Nat.le_of_ble_eq_true rfl) (c_W_isAmong) ?_
        refine hy_ib_eq (i := 9) (tt := 17) rfl (fun zc3 => ?_) (fun zc3 => ?_)
        · refine hy_const (i := 17) rfl (by decide) ?_
          refine hy_ireturn (i := 18) rfl rfl ?_
          exact ⟨⟨_, rfl⟩, hy_F.rf⟩
        · refine hy_aload (i := 10) rfl rfl ?_
          refine hy_getr (i := 11) rfl rfl ?_
          refine hy_cV0e (i := 12) rfl mj_T_length (by decide) rfl (Nat.le_of_ble_eq_true rfl) rfl rfl rfl (c_T_length) ?_
          refine hy_const (i := 13) rfl (by decide) ?_
          refine hy_iload (i := 14) rfl rfl ?_
          refine hy_imul (i := 15) rfl (by omega) ?_
          refine hy_ic_ge (i := 16) (tt := 19) rfl (fun zc4 => ?_) (fun zc4 => ?_)
          · exfalso; simp only [decide_eq_true_eq] at *; exact hq ⟨⟨by omega, by omega⟩, by assumption, by omega⟩
          · refine hy_const (i := 17) rfl (by decide) ?_
            refine hy_ireturn (i := 18) rfl rfl ?_
            exact ⟨⟨_, rfl⟩, hy_F.rf⟩
theorem c_W_commonDivisor {a b : Int} : hy_Ct sc hm_W_commonDivisor 0 [.inl a, .inl b] t (hy_p (fun _ => True) t) := by
  refine hy_mk_ct ok_W_commonDivisor ck_W_commonDivisor (Nat.le_of_ble_eq_true rfl) ?_
  have loop : ∀ (m : Nat), ∀ (k : Nat) (x y : Int) (v5 : hy_V), m + k = 64 → hy_W sc hm_W_commonDivisor 0 6 [.inl a, .inl b, .inl x, .inl y, .inl (k : Int), v5] [] t (hy_p (fun _ => True) t) := by
    intro m
    induction m with
    | zero =>
      intro k x y v5 hm
      refine hy_iload (i := 6) rfl rfl ?_
      refine hy_const (i := 7) rfl (by decide) ?_
      refine hy_ic_ge (i := 8) (tt := 21) rfl (fun zc1 => ?_) (fun zc1 => ?_)
      · refine hy_iload (i := 21) rfl rfl ?_
        refine hy_ireturn (i := 22) rfl rfl ?_
        exact ⟨_, rfl, trivial, rfl⟩
      · omega
    | succ m ih =>
      intro k x y v5 hm
      refine hy_iload (i := 6) rfl rfl ?_
      refine hy_const (i := 7) rfl (by decide) ?_
      refine hy_ic_ge (i := 8) (tt := 21) rfl (fun zc1 => ?_) (fun zc1 => ?_)
      · omega
      · refine hy_iload (i := 9) rfl rfl ?_
        refine hy_if_eq (i := 10) (tt := 21) rfl (fun zc2 => ?_) (fun zc2 => ?_)
        · refine hy_iload (i := 21) rfl rfl ?_
          refine hy_ireturn (i := 22) rfl rfl ?_
          exact ⟨_, rfl, trivial, rfl⟩
        · refine hy_iload (i := 11) rfl rfl ?_
          refine hy_iload (i := 12) rfl rfl ?_
          refine hy_iremw (i := 13) rfl (by assumption) ?_
          refine hy_istore (i := 14) rfl ?_
          refine hy_iload (i := 15) rfl rfl ?_
          refine hy_istore (i := 16) rfl ?_
          refine hy_iload (i := 17) rfl rfl ?_
          refine hy_istore (i := 18) rfl ?_
          refine hy_iinc (i := 19) rfl rfl (by omega) ?_
          refine hy_goto (i := 20) (tt := 6) rfl ?_
          exact ih (k + 1) _ _ _ (by omega)
  refine hy_iload (i := 0) rfl rfl ?_
  refine hy_istore (i := 1) rfl ?_
  refine hy_iload (i := 2) rfl rfl ?_
  refine hy_istore (i := 3) rfl ?_
  refine hy_const (i := 4) rfl (by decide) ?_
  refine hy_istore (i := 5) rfl ?_
  exact loop 64 0 _ _ _ rfl
theorem c_W_power {cs c e q w : Int} (hk : lc_ok t) : hy_Ct sc hm_W_power 6 [.inr (some 2), .inl cs, .inl c, .inl e, .inl q, .inl w] t (fun r t' => (∃ x : Int, r = some x) ∧ hy_F pX t t') := by
  refine hy_mk_ct ok_W_power ck_W_power (Nat.le_of_ble_eq_true rfl) ?_
  have rest : ∀ (n : Int) (t1 : hy_T) (v7 : Int) (v8 : Int) (y : Int), hy_F pX t t1 → hy_W sc hm_W_power 6 51 [.inr (some 2), .inl cs, .inl c, .inl e, .inl q, .inl w, .inl n, .inl v7, .inl v8, .inr none] [.inl y] t1 (fun r t' => (∃ x : Int, r = some x) ∧ hy_F pX t t') := by
    intro n t1 v7 v8 y hF
    refine hy_iload (i := 51) rfl rfl ?_
    refine hy_cS2 (i := 52) rfl (by decide) mj_W_commonDivisor (by decide) rfl (Nat.le_of_ble_eq_true rfl) (c_W_commonDivisor) (fun r1_ t1_ h1 => ?_)
    obtain ⟨x1, rfl, hx1, rfl⟩ := h1
    dsimp only [hy_st, List.cons_append, List.nil_append]
    refine hy_istore (i := 53) rfl ?_
    refine hy_iload (i := 54) rfl rfl ?_
    refine hy_const (i := 55) rfl (by decide) ?_
    refine hy_ic_ge (i := 56) (tt := 59) rfl (fun zc1 => ?_) (fun zc1 => ?_)
    · refine hy_iload (i := 59) rfl rfl ?_
      refine hy_if_ne (i := 60) (tt := 65) rfl (fun zc2 => ?_) (fun zc2 => ?_)
      · refine hy_iload (i := 65) rfl rfl ?_
        refine hy_iload (i := 66) rfl rfl ?_
        refine hy_idivw (i := 67) rfl (by omega) ?_
        refine hy_ireturn (i := 68) rfl rfl ?_
        exact ⟨⟨_, rfl⟩, hF⟩
      · refine hy_iload (i := 61) rfl rfl ?_
        refine hy_iload (i := 62) rfl rfl ?_
        refine hy_idivw (i := 63) rfl (by omega) ?_
        refine hy_goto (i := 64) (tt := 68) rfl ?_
        refine hy_ireturn (i := 68) rfl rfl ?_
        exact ⟨⟨_, rfl⟩, hF⟩
    · refine hy_const (i := 57) rfl (by decide) ?_
      refine hy_ireturn (i := 58) rfl rfl ?_
      exact ⟨⟨_, rfl⟩, hF⟩
  refine hy_iload (i := 0) rfl rfl ?_
  refine hy_cS1e (i := 1) rfl (by decide) mj_J_bitCount (by decide) rfl (Nat.le_of_ble_eq_true rfl) (c_J_bitCount) ?_
  refine hy_istore (i := 2) rfl ?_
  refine hy_aload (i := 3) rfl rfl ?_
  refine hy_getr (i := 4) rfl rfl ?_
  refine hy_iload (i := 5) rfl rfl ?_
  refine hy_cV1e (i := 6) rfl mj_P_arePlain (by decide) rfl (Nat.le_of_ble_eq_true rfl) rfl rfl rfl (c_P_arePlain) ?_
  refine hy_ib_eq (i := 7) (tt := 14) rfl (fun zc1 => ?_) (fun zc1 => ?_)
  · refine hy_const (i := 14) rfl (by decide) ?_
    refine hy_ireturn (i := 15) rfl rfl ?_
    exact ⟨⟨_, rfl⟩, hy_F.rf⟩
  · refine hy_iload (i := 8) rfl rfl ?_
    refine hy_const (i := 9) rfl (by decide) ?_
    refine hy_ic_lt (i := 10) (tt := 14) rfl (fun zc2 => ?_) (fun zc2 => ?_)
    · refine hy_const (i := 14) rfl (by decide) ?_
      refine hy_ireturn (i := 15) rfl rfl ?_
      exact ⟨⟨_, rfl⟩, hy_F.rf⟩
    · refine hy_iload (i := 11) rfl rfl ?_
      refine hy_const (i := 12) rfl (by decide) ?_
      refine hy_ic_le (i := 13) (tt := 16) rfl (fun zc3 => ?_) (fun zc3 => ?_)
      · refine hy_iload (i := 16) rfl rfl ?_
        refine hy_const (i := 17) rfl (by decide) ?_
        refine hy_cS2e (i := 18) rfl (by decide) mj_W_isAmong (by decide) rfl (Nat.le_of_ble_eq_true rfl) (c_W_isAmong) ?_
        refine hy_ib_eq (i := 19) (tt := 24) rfl (fun zc4 => ?_) (fun zc4 => ?_)
        · refine hy_const (i := 24) rfl (by decide) ?_
          refine hy_ireturn (i := 25) rfl rfl ?_
          exact ⟨⟨_, rfl⟩, hy_F.rf⟩
        · refine hy_iload (i := 20) rfl rfl ?_
          refine hy_iload (i := 21) rfl rfl ?_
          refine hy_cS2e (i := 22) rfl (by decide) mj_W_bit (by decide) rfl (Nat.le_of_ble_eq_true rfl) (c_W_bit) ?_
          refine hy_ib_ne (i := 23) (tt := 26) rfl (fun zc5 => ?_) (fun zc5 => ?_)
          · refine hy_iload (i := 26) rfl rfl ?_
            refine hy_cS1e (i := 27) rfl (by decide) mj_W_isEmpire (by decide) rfl (Nat.le_of_ble_eq_true rfl) (c_W_isEmpire) ?_
            refine hy_ib_eq (i := 28) (tt := 36) rfl (fun zc6 => ?_) (fun zc6 => ?_)
            · refine hy_const (i := 36) rfl (by decide) ?_
              refine hy_ireturn (i := 37) rfl rfl ?_
              exact ⟨⟨_, rfl⟩, hy_F.rf⟩
            · refine hy_iload (i := 29) rfl rfl ?_
              refine hy_cS1e (i := 30) rfl (by decide) mj_W_isQuarter (by decide) rfl (Nat.le_of_ble_eq_true rfl) (c_W_isQuarter) ?_
              refine hy_ib_eq (i := 31) (tt := 36) rfl (fun zc7 => ?_) (fun zc7 => ?_)
              · refine hy_const (i := 36) rfl (by decide) ?_
                refine hy_ireturn (i := 37) rfl rfl ?_
                exact ⟨⟨_, rfl⟩, hy_F.rf⟩
              · refine hy_iload (i := 32) rfl rfl ?_
                refine hy_const (i := 33) rfl (by decide) ?_
                refine hy_cS2e (i := 34) rfl (by decide) mj_W_isAmong (by decide) rfl (Nat.le_of_ble_eq_true rfl) (c_W_isAmong) ?_
                refine hy_ib_ne (i := 35) (tt := 38) rfl (fun zc8 => ?_) (fun zc8 => ?_)
                · refine hy_aload (i := 38) rfl rfl ?_
                  refine hy_getr (i := 39) rfl rfl ?_
                  refine hy_iload (i := 40) rfl rfl ?_
                  refine hy_iload (i := 41) rfl rfl ?_
                  refine hy_iload (i := 42) rfl rfl ?_
                  refine hy_iload (i := 43) rfl rfl ?_
                  refine hy_cV4 (i := 44) rfl mj_U_addedBy (by decide) rfl (Nat.le_of_ble_eq_true rfl) rfl rfl rfl (c_U_addedBy (by assumption)) (fun r8_ t8_ h8 => ?_)
                  obtain ⟨rfl, hF8⟩ := h8
                  dsimp only [hy_st, List.cons_append, List.nil_append]
                  refine hy_istore (i := 45) rfl ?_
                  refine hy_iload (i := 46) rfl rfl ?_
                  refine hy_cS1e (i := 47) rfl (by decide) mj_U_orders (by decide) rfl (Nat.le_of_ble_eq_true rfl) (c_U_orders) ?_
                  refine hy_istore (i := 48) rfl ?_
                  refine hy_iload (i := 49) rfl rfl ?_
                  exact hy_absw (i := 50) rfl (Nat.le_of_ble_eq_true rfl) (fun y _ => rest _ _ _ _ _ (by assumption))
                · refine hy_const (i := 36) rfl (by decide) ?_
                  refine hy_ireturn (i := 37) rfl rfl ?_
                  exact ⟨⟨_, rfl⟩, hy_F.rf⟩
          · refine hy_const (i := 24) rfl (by decide) ?_
            refine hy_ireturn (i := 25) rfl rfl ?_
            exact ⟨⟨_, rfl⟩, hy_F.rf⟩
      · refine hy_const (i := 14) rfl (by decide) ?_
        refine hy_ireturn (i := 15) rfl rfl ?_
        exact ⟨⟨_, rfl⟩, hy_F.rf⟩
end WE
