/-! the class's own methods: what is seen and worth, tried, checked -/
section WB
variable {sc : List Int32} {t : hy_T}
def wf_sees (t : hy_T) (e c q : Int) : Int := if (0 ≤ e ∧ e < 6) ∧ sp_told (t 5 2) c = true ∧ 0 ≤ q ∧ q < 4 then hy_b (hz_b (sp_seen t e q) c) else -1
theorem c_W_sees {e c q : Int} (hk : lc_ok t) : hy_Ct sc hm_W_sees 5 [.inr (some 2), .inl e, .inl c, .inl q] t (fun r t' => r = some (wf_sees t e c q) ∧ hy_F eX t t') := by
  refine hy_mk_ct ok_W_sees ck_W_sees (Nat.le_of_ble_eq_true rfl) ?_
  by_cases hq : (0 ≤ e ∧ e < 6) ∧ sp_told (t 5 2) c = true ∧ 0 ≤ q ∧ q < 4
  · have ea : wf_sees t e c q = hy_b (hz_b (sp_seen t e q) c) := if_pos hq
    rw [ea]
    refine hy_iload (i := 0) rfl rfl ?_
    refine hy_cS1e (i := 1) rfl (by decide) mj_W_isEmpire (by decide) rfl (Nat.le_of_ble_eq_true rfl) (c_W_isEmpire) ?_
    refine hy_ib_eq (i := 2) (tt := 11) rfl (fun zc1 => ?_) (fun zc1 => ?_)
    · simp at zc1; omega
    · refine hy_aload (i := 3) rfl rfl ?_
      refine hy_getr (i := 4) rfl rfl ?_
      refine hy_iload (i := 5) rfl rfl ?_
      refine hy_cV1e (i := 6) rfl mj_P_isTold (by decide) rfl (Nat.le_of_ble_eq_true rfl) rfl rfl rfl (c_P_isTold) ?_
      refine hy_ib_eq (i := 7) (tt := 11) rfl (fun zc2 => ?_) (fun zc2 => ?_)
      · rw [hq.2.1] at zc2; cases zc2
      · refine hy_iload (i := 8) rfl rfl ?_
        refine hy_cS1e (i := 9) rfl (by decide) mj_W_isQuarter (by decide) rfl (Nat.le_of_ble_eq_true rfl) (c_W_isQuarter) ?_
        refine hy_ib_ne (i := 10) (tt := 13) rfl (fun zc3 => ?_) (fun zc3 => ?_)
        · refine hy_aload (i := 13) rfl rfl ?_
          refine hy_getr (i := 14) rfl rfl ?_
          refine hy_iload (i := 15) rfl rfl ?_
          refine hy_iload (i := 16) rfl rfl ?_
          refine hy_cV2 (i := 17) rfl mj_E_seen (by decide) rfl (Nat.le_of_ble_eq_true rfl) rfl rfl rfl (c_E_seen (by assumption)) (fun r4_ t4_ h4 => ?_)
          obtain ⟨rfl, hF4⟩ := h4
          dsimp only [hy_st, List.cons_append, List.nil_append]
          refine hy_iload (i := 18) rfl rfl ?_
          refine hy_cS2e (i := 19) rfl (by decide) mj_W_bit (by decide) rfl (Nat.le_of_ble_eq_true rfl) (c_W_bit) ?_
          refine hy_ireturn (i := 20) rfl rfl ?_
          exact ⟨rfl, hF4⟩
        · simp at zc3; omega
  · have ea : wf_sees t e c q = -1 := if_neg hq
    rw [ea]
    refine hy_iload (i := 0) rfl rfl ?_
    refine hy_cS1e (i := 1) rfl (by decide) mj_W_isEmpire (by decide) rfl (Nat.le_of_ble_eq_true rfl) (c_W_isEmpire) ?_
    refine hy_ib_eq (i := 2) (tt := 11) rfl (fun zc1 => ?_) (fun zc1 => ?_)
    · refine hy_const (i := 11) rfl (by decide) ?_
      refine hy_ireturn (i := 12) rfl rfl ?_
      exact ⟨rfl, hy_F.rf⟩
    · refine hy_aload (i := 3) rfl rfl ?_
      refine hy_getr (i := 4) rfl rfl ?_
      refine hy_iload (i := 5) rfl rfl ?_
      refine hy_cV1e (i := 6) rfl mj_P_isTold (by decide) rfl (Nat.le_of_ble_eq_true rfl) rfl rfl rfl (c_P_isTold) ?_
      refine hy_ib_eq (i := 7) (tt := 11) rfl (fun zc2 => ?_) (fun zc2 => ?_)
      · refine hy_const (i := 11) rfl (by decide) ?_
        refine hy_ireturn (i := 12) rfl rfl ?_
        exact ⟨rfl, hy_F.rf⟩
      · refine hy_iload (i := 8) rfl rfl ?_
        refine hy_cS1e (i := 9) rfl (by decide) mj_W_isQuarter (by decide) rfl (Nat.le_of_ble_eq_true rfl) (c_W_isQuarter) ?_
        refine hy_ib_ne (i := 10) (tt := 13) rfl (fun zc3 => ?_) (fun zc3 => ?_)
        · exfalso; simp at zc1 zc3; exact hq ⟨zc1, zc2, zc3⟩
        · refine hy_const (i := 11) rfl (by decide) ?_
          refine hy_ireturn (i := 12) rfl rfl ?_
          exact ⟨rfl, hy_F.rf⟩
def wf_as (t : hy_T) (e q : Int) : Nat → Int := sp_asN t (sp_seen t e q) (t 46) 12
def wf_appears (t : hy_T) (e c q : Int) : Int := if (0 ≤ e ∧ e < 6) ∧ (sp_told (t 5 2) c = true ∨ c = 12) ∧ 0 ≤ q ∧ q < 4 then lk (wf_as t e q) c else -1
theorem c_W_appears {e c q : Int} (hk : lc_ok t) : hy_Ct sc hm_W_appears 5 [.inr (some 2), .inl e, .inl c, .inl q] t (fun r t' => r = some (wf_appears t e c q) ∧ hy_F lX t t') := by
  refine hy_mk_ct ok_W_appears ck_W_appears (Nat.le_of_ble_eq_true rfl) ?_
  by_cases hq : (0 ≤ e ∧ e < 6) ∧ (sp_told (t 5 2) c = true ∨ c = 12) ∧ 0 ≤ q ∧ q < 4
  · have ea : wf_appears t e c q = lk (wf_as t e q) c := if_pos hq
    rw [ea]
    refine hy_iload (i := 0) rfl rfl ?_
    refine hy_cS1e (i := 1) rfl (by decide) mj_W_isEmpire (by decide) rfl (Nat.le_of_ble_eq_true rfl) (c_W_isEmpire) ?_
    refine hy_ib_eq (i := 2) (tt := 14) rfl (fun zc1 => ?_) (fun zc1 => ?_)
    · simp at zc1; omega
    · refine hy_aload (i := 3) rfl rfl ?_
      refine hy_getr (i := 4) rfl rfl ?_
      refine hy_iload (i := 5) rfl rfl ?_
      refine hy_cV1e (i := 6) rfl mj_P_isTold (by decide) rfl (Nat.le_of_ble_eq_true rfl) rfl rfl rfl (c_P_isTold) ?_
      refine hy_ib_ne (i := 7) (tt := 11) rfl (fun zc2 => ?_) (fun zc2 => ?_)
      · refine hy_iload (i := 11) rfl rfl ?_
        refine hy_cS1e (i := 12) rfl (by decide) mj_W_isQuarter (by decide) rfl (Nat.le_of_ble_eq_true rfl) (c_W_isQuarter) ?_
        refine hy_ib_ne (i := 13) (tt := 16) rfl (fun zc3 => ?_) (fun zc3 => ?_)
        · refine hy_aload (i := 16) rfl rfl ?_
          refine hy_getr (i := 17) rfl rfl ?_
          refine hy_iload (i := 18) rfl rfl ?_
          refine hy_iload (i := 19) rfl rfl ?_
          refine hy_cV2 (i := 20) rfl mj_E_look (by decide) rfl (Nat.le_of_ble_eq_true rfl) rfl rfl rfl (c_E_look (by assumption)) (fun r4_ t4_ h4 => ?_)
          obtain ⟨rfl, hL4, hF4⟩ := h4
          dsimp only [hy_st, List.nil_append]
          refine hy_aload (i := 21) rfl rfl ?_
          refine hy_getr (i := 22) rfl rfl ?_
          refine hy_iload (i := 23) rfl rfl ?_
          refine hy_cV1e (i := 24) rfl mj_E_looks (by decide) rfl (Nat.le_of_ble_eq_true rfl) rfl rfl rfl (c_E_looks) ?_
          refine hy_ireturn (i := 25) rfl rfl ?_
          exact ⟨by rw [hL4]; rfl, hF4⟩
        · simp only [decide_eq_false_iff_not] at *; omega
      · refine hy_iload (i := 8) rfl rfl ?_
        refine hy_const (i := 9) rfl (by decide) ?_
        refine hy_ic_ne (i := 10) (tt := 14) rfl (fun zc3 => ?_) (fun zc3 => ?_)
        · rcases hq.2.1 with h | h
          · rw [h] at zc2; cases zc2
          · omega
        · refine hy_iload (i := 11) rfl rfl ?_
          refine hy_cS1e (i := 12) rfl (by decide) mj_W_isQuarter (by decide) rfl (Nat.le_of_ble_eq_true rfl) (c_W_isQuarter) ?_
          refine hy_ib_ne (i := 13) (tt := 16) rfl (fun zc4 => ?_) (fun zc4 => ?_)
          · refine hy_aload (i := 16) rfl rfl ?_
            refine hy_getr (i := 17) rfl rfl ?_
            refine hy_iload (i := 18) rfl rfl ?_
            refine hy_iload (i := 19) rfl rfl ?_
            refine hy_cV2 (i := 20) rfl mj_E_look (by decide) rfl (Nat.le_of_ble_eq_true rfl) rfl rfl rfl (c_E_look (by assumption)) (fun r4_ t4_ h4 => ?_)
            obtain ⟨rfl, hL4, hF4⟩ := h4
            dsimp only [hy_st, List.nil_append]
            refine hy_aload (i := 21) rfl rfl ?_
            refine hy_getr (i := 22) rfl rfl ?_
            refine hy_iload (i := 23) rfl rfl ?_
            refine hy_cV1e (i := 24) rfl mj_E_looks (by decide) rfl (Nat.le_of_ble_eq_true rfl) rfl rfl rfl (c_E_looks) ?_
            refine hy_ireturn (i := 25) rfl rfl ?_
            exact ⟨by rw [hL4]; rfl, hF4⟩
          · simp only [decide_eq_false_iff_not] at *; omega
  · have ea : wf_appears t e c q = -1 := if_neg hq
    rw [ea]
    refine hy_iload (i := 0) rfl rfl ?_
    refine hy_cS1e (i := 1) rfl (by decide) mj_W_isEmpire (by decide) rfl (Nat.le_of_ble_eq_true rfl) (c_W_isEmpire) ?_
    refine hy_ib_eq (i := 2) (tt := 14) rfl (fun zc1 => ?_) (fun zc1 => ?_)
    · refine hy_const (i := 14) rfl (by decide) ?_
      refine hy_ireturn (i := 15) rfl rfl ?_
      exact ⟨rfl, hy_F.rf⟩
    · refine hy_aload (i := 3) rfl rfl ?_
      refine hy_getr (i := 4) rfl rfl ?_
      refine hy_iload (i := 5) rfl rfl ?_
      refine hy_cV1e (i := 6) rfl mj_P_isTold (by decide) rfl (Nat.le_of_ble_eq_true rfl) rfl rfl rfl (c_P_isTold) ?_
      refine hy_ib_ne (i := 7) (tt := 11) rfl (fun zc2 => ?_) (fun zc2 => ?_)
      · refine hy_iload (i := 11) rfl rfl ?_
        refine hy_cS1e (i := 12) rfl (by decide) mj_W_isQuarter (by decide) rfl (Nat.le_of_ble_eq_true rfl) (c_W_isQuarter) ?_
        refine hy_ib_ne (i := 13) (tt := 16) rfl (fun zc3 => ?_) (fun zc3 => ?_)
        · exfalso; simp only [decide_eq_true_eq] at *; first | exact hq ⟨zc1, .inl zc2, zc3⟩ | exact hq ⟨zc1, .inr zc3, zc4⟩
        · refine hy_const (i := 14) rfl (by decide) ?_
          refine hy_ireturn (i := 15) rfl rfl ?_
          exact ⟨rfl, hy_F.rf⟩
      · refine hy_iload (i := 8) rfl rfl ?_
        refine hy_const (i := 9) rfl (by decide) ?_
        refine hy_ic_ne (i := 10) (tt := 14) rfl (fun zc3 => ?_) (fun zc3 => ?_)
        · refine hy_const (i := 14) rfl (by decide) ?_
          refine hy_ireturn (i := 15) rfl rfl ?_
          exact ⟨rfl, hy_F.rf⟩
        · refine hy_iload (i := 11) rfl rfl ?_
          refine hy_cS1e (i := 12) rfl (by decide) mj_W_isQuarter (by decide) rfl (Nat.le_of_ble_eq_true rfl) (c_W_isQuarter) ?_
          refine hy_ib_ne (i := 13) (tt := 16) rfl (fun zc4 => ?_) (fun zc4 => ?_)
          · exfalso; simp only [decide_eq_true_eq] at *; first | exact hq ⟨zc1, .inl zc2, zc3⟩ | exact hq ⟨zc1, .inr zc3, zc4⟩
          · refine hy_const (i := 14) rfl (by decide) ?_
            refine hy_ireturn (i := 15) rfl rfl ?_
            exact ⟨rfl, hy_F.rf⟩
def wf_child (t : hy_T) (a b c q : Int) : Int := if ((0 ≤ a ∧ a < 6) ∧ 0 ≤ b ∧ b < 6) ∧ sp_told (t 5 2) c = true ∧ 0 ≤ q ∧ q < 4 then hy_b (sp_child t a b c q) else -1
theorem c_W_child {a b c q : Int} (hk : lc_ok t) : hy_Ct sc hm_W_child 6 [.inr (some 2), .inl a, .inl b, .inl c, .inl q] t (fun r t' => r = some (wf_child t a b c q) ∧ hy_F eX t t') := by
  refine hy_mk_ct ok_W_child ck_W_child (Nat.le_of_ble_eq_true rfl) ?_
  by_cases hq : ((0 ≤ a ∧ a < 6) ∧ 0 ≤ b ∧ b < 6) ∧ sp_told (t 5 2) c = true ∧ 0 ≤ q ∧ q < 4
  · have ea : wf_child t a b c q = hy_b (sp_child t a b c q) := if_pos hq
    rw [ea]
    refine hy_iload (i := 0) rfl rfl ?_
    refine hy_cS1e (i := 1) rfl (by decide) mj_W_isEmpire (by decide) rfl (Nat.le_of_ble_eq_true rfl) (c_W_isEmpire) ?_
    refine hy_ib_eq (i := 2) (tt := 14) rfl (fun zc1 => ?_) (fun zc1 => ?_)
    · simp at zc1; omega
    · refine hy_iload (i := 3) rfl rfl ?_
      refine hy_cS1e (i := 4) rfl (by decide) mj_W_isEmpire (by decide) rfl (Nat.le_of_ble_eq_true rfl) (c_W_isEmpire) ?_
      refine hy_ib_eq (i := 5) (tt := 14) rfl (fun zc2 => ?_) (fun zc2 => ?_)
      · simp at zc2; omega
      · refine hy_aload (i := 6) rfl rfl ?_
        refine hy_getr (i := 7) rfl rfl ?_
        refine hy_iload (i := 8) rfl rfl ?_
        refine hy_cV1e (i := 9) rfl mj_P_isTold (by decide) rfl (Nat.le_of_ble_eq_true rfl) rfl rfl rfl (c_P_isTold) ?_
        refine hy_ib_eq (i := 10) (tt := 14) rfl (fun zc3 => ?_) (fun zc3 => ?_)
        · rw [hq.2.1] at zc3; cases zc3
        · refine hy_iload (i := 11) rfl rfl ?_
          refine hy_cS1e (i := 12) rfl (by decide) mj_W_isQuarter (by decide) rfl (Nat.le_of_ble_eq_true rfl) (c_W_isQuarter) ?_
          refine hy_ib_ne (i := 13) (tt := 16) rfl (fun zc4 => ?_) (fun zc4 => ?_)
          · refine hy_aload (i := 16) rfl rfl ?_
            refine hy_getr (i := 17) rfl rfl ?_
            refine hy_iload (i := 18) rfl rfl ?_
            refine hy_iload (i := 19) rfl rfl ?_
            refine hy_iload (i := 20) rfl rfl ?_
            refine hy_iload (i := 21) rfl rfl ?_
            refine hy_cV4 (i := 22) rfl mj_E_childSees (by decide) rfl (Nat.le_of_ble_eq_true rfl) rfl rfl rfl (c_E_childSees (by assumption)) (fun r5_ t5_ h5 => ?_)
            obtain ⟨rfl, hF5⟩ := h5
            dsimp only [hy_st, List.cons_append, List.nil_append]
            refine hy_if_eq (i := 23) (tt := 26) rfl (fun zc5 => ?_) (fun zc5 => ?_)
            · refine hy_const (i := 26) rfl (by decide) ?_
              refine hy_ireturn (i := 27) rfl rfl ?_
              exact ⟨by cases hv : sp_child t a b c q <;> simp_all [hy_b], hF5⟩
            · refine hy_const (i := 24) rfl (by decide) ?_
              refine hy_goto (i := 25) (tt := 27) rfl ?_
              refine hy_ireturn (i := 27) rfl rfl ?_
              exact ⟨by cases hv : sp_child t a b c q <;> simp_all [hy_b], hF5⟩
          · simp at zc4; omega
  · have ea : wf_child t a b c q = -1 := if_neg hq
    rw [ea]
    refine hy_iload (i := 0) rfl rfl ?_
    refine hy_cS1e (i := 1) rfl (by decide) mj_W_isEmpire (by decide) rfl (Nat.le_of_ble_eq_true rfl) (c_W_isEmpire) ?_
    refine hy_ib_eq (i := 2) (tt := 14) rfl (fun zc1 => ?_) (fun zc1 => ?_)
    · refine hy_const (i := 14) rfl (by decide) ?_
      refine hy_ireturn (i := 15) rfl rfl ?_
      exact ⟨rfl, hy_F.rf⟩
    · refine hy_iload (i := 3) rfl rfl ?_
      refine hy_cS1e (i := 4) rfl (by decide) mj_W_isEmpire (by decide) rfl (Nat.le_of_ble_eq_true rfl) (c_W_isEmpire) ?_
      refine hy_ib_eq (i := 5) (tt := 14) rfl (fun zc2 => ?_) (fun zc2 => ?_)
      · refine hy_const (i := 14) rfl (by decide) ?_
        refine hy_ireturn (i := 15) rfl rfl ?_
        exact ⟨rfl, hy_F.rf⟩
      · refine hy_aload (i := 6) rfl rfl ?_
        refine hy_getr (i := 7) rfl rfl ?_
        refine hy_iload (i := 8) rfl rfl ?_
        refine hy_cV1e (i := 9) rfl mj_P_isTold (by decide) rfl (Nat.le_of_ble_eq_true rfl) rfl rfl rfl (c_P_isTold) ?_
        refine hy_ib_eq (i := 10) (tt := 14) rfl (fun zc3 => ?_) (fun zc3 => ?_)
        · refine hy_const (i := 14) rfl (by decide) ?_
          refine hy_ireturn (i := 15) rfl rfl ?_
          exact ⟨rfl, hy_F.rf⟩
        · refine hy_iload (i := 11) rfl rfl ?_
          refine hy_cS1e (i := 12) rfl (by decide) mj_W_isQuarter (by decide) rfl (Nat.le_of_ble_eq_true rfl) (c_W_isQuarter) ?_
          refine hy_ib_ne (i := 13) (tt := 16) rfl (fun zc4 => ?_) (fun zc4 => ?_)
          · exfalso; simp at zc1 zc2 zc4; exact hq ⟨⟨zc1, zc2⟩, zc3, zc4⟩
          · refine hy_const (i := 14) rfl (by decide) ?_
            refine hy_ireturn (i := 15) rfl rfl ?_
            exact ⟨rfl, hy_F.rf⟩
def wf_worth (t : hy_T) (e q : Int) : Int := if (0 ≤ e ∧ e < 6) ∧ 0 ≤ q ∧ q < 4 then sp_worth t e q else -1
theorem c_W_worth {e q : Int} (hk : lc_ok t) : hy_Ct sc hm_W_worth 6 [.inr (some 2), .inl e, .inl q] t (fun r t' => r = some (wf_worth t e q) ∧ hy_F pX t t') := by
  refine hy_mk_ct ok_W_worth ck_W_worth (Nat.le_of_ble_eq_true rfl) ?_
  by_cases hq : (0 ≤ e ∧ e < 6) ∧ 0 ≤ q ∧ q < 4
  · have ea : wf_worth t e q = sp_worth t e q := if_pos hq
    rw [ea]
    refine hy_iload (i := 0) rfl rfl ?_
    refine hy_cS1e (i := 1) rfl (by decide) mj_W_isEmpire (by decide) rfl (Nat.le_of_ble_eq_true rfl) (c_W_isEmpire) ?_
    refine hy_ib_eq (i := 2) (tt := 6) rfl (fun zc1 => ?_) (fun zc1 => ?_)
    · simp at zc1; omega
    · refine hy_iload (i := 3) rfl rfl ?_
      refine hy_cS1e (i := 4) rfl (by decide) mj_W_isQuarter (by decide) rfl (Nat.le_of_ble_eq_true rfl) (c_W_isQuarter) ?_
      refine hy_ib_ne (i := 5) (tt := 8) rfl (fun zc2 => ?_) (fun zc2 => ?_)
      · refine hy_aload (i := 8) rfl rfl ?_
        refine hy_getr (i := 9) rfl rfl ?_
        refine hy_iload (i := 10) rfl rfl ?_
        refine hy_iload (i := 11) rfl rfl ?_
        refine hy_cV2 (i := 12) rfl mj_U_worthTo (by decide) rfl (Nat.le_of_ble_eq_true rfl) rfl rfl rfl (c_U_worthTo (by assumption)) (fun r3_ t3_ h3 => ?_)
        obtain ⟨rfl, hF3⟩ := h3
        dsimp only [hy_st, List.cons_append, List.nil_append]
        refine hy_ireturn (i := 13) rfl rfl ?_
        exact ⟨rfl, hF3⟩
      · simp at zc2; omega
  · have ea : wf_worth t e q = -1 := if_neg hq
    rw [ea]
    refine hy_iload (i := 0) rfl rfl ?_
    refine hy_cS1e (i := 1) rfl (by decide) mj_W_isEmpire (by decide) rfl (Nat.le_of_ble_eq_true rfl) (c_W_isEmpire) ?_
    refine hy_ib_eq (i := 2) (tt := 6) rfl (fun zc1 => ?_) (fun zc1 => ?_)
    · refine hy_const (i := 6) rfl (by decide) ?_
      refine hy_ireturn (i := 7) rfl rfl ?_
      exact ⟨rfl, hy_F.rf⟩
    · refine hy_iload (i := 3) rfl rfl ?_
      refine hy_cS1e (i := 4) rfl (by decide) mj_W_isQuarter (by decide) rfl (Nat.le_of_ble_eq_true rfl) (c_W_isQuarter) ?_
      refine hy_ib_ne (i := 5) (tt := 8) rfl (fun zc2 => ?_) (fun zc2 => ?_)
      · exfalso; simp at zc1 zc2; exact hq ⟨zc1, zc2⟩
      · refine hy_const (i := 6) rfl (by decide) ?_
        refine hy_ireturn (i := 7) rfl rfl ?_
        exact ⟨rfl, hy_F.rf⟩
def wf_hid (t : hy_T) (L : Nat → Int) (f u : Int) : Bool := decide (lk L (if 0 ≤ f ∧ f < 64 then t 9 f.toNat else 12) = lk L u)
theorem c_W_isHidden {f u : Int} : hy_Ct sc hm_W_isHidden 2 [.inr (some 2), .inl f, .inl u] t (hy_e (some (hy_b (wf_hid t (t 46) f u))) t) := by
  refine hy_mk_ct ok_W_isHidden ck_W_isHidden (Nat.le_of_ble_eq_true rfl) ?_
  refine hy_aload (i := 0) rfl rfl ?_
  refine hy_getr (i := 1) rfl rfl ?_
  refine hy_aload (i := 2) rfl rfl ?_
  refine hy_getr (i := 3) rfl rfl ?_
  refine hy_iload (i := 4) rfl rfl ?_
  refine hy_cV1e (i := 5) rfl mj_G_at (by decide) rfl (Nat.le_of_ble_eq_true rfl) rfl rfl rfl (c_G_at) ?_
  refine hy_cV1e (i := 6) rfl mj_E_looks (by decide) rfl (Nat.le_of_ble_eq_true rfl) rfl rfl rfl (c_E_looks) ?_
  refine hy_aload (i := 7) rfl rfl ?_
  refine hy_getr (i := 8) rfl rfl ?_
  refine hy_iload (i := 9) rfl rfl ?_
  refine hy_cV1e (i := 10) rfl mj_E_looks (by decide) rfl (Nat.le_of_ble_eq_true rfl) rfl rfl rfl (c_E_looks) ?_
  refine hy_ic_ne (i := 11) (tt := 14) rfl (fun zc1 => ?_) (fun zc1 => ?_)
  · refine hy_const (i := 14) rfl (by decide) ?_
    refine hy_zreturn (i := 15) rfl rfl (by first | decide | exact hy_b01 _) ?_
    exact ⟨congrArg some (by unfold wf_hid; first | (rw [decide_eq_true (by assumption)]; rfl) | (rw [decide_eq_false (by assumption)]; rfl)), rfl⟩
  · refine hy_const (i := 12) rfl (by decide) ?_
    refine hy_goto (i := 13) (tt := 15) rfl ?_
    refine hy_zreturn (i := 15) rfl rfl (by first | decide | exact hy_b01 _) ?_
    exact ⟨congrArg some (by unfold wf_hid; first | (rw [decide_eq_true (by assumption)]; rfl) | (rw [decide_eq_false (by assumption)]; rfl)), rfl⟩
def wf_unseen (t : hy_T) (x y u e q : Int) : Int := if ((0 ≤ x ∧ x < 8) ∧ 0 ≤ y ∧ y < 8) ∧ sp_told (t 5 2) u = true ∧ (0 ≤ e ∧ e < 6) ∧ 0 ≤ q ∧ q < 4 then hy_b (wf_hid t (wf_as t e q) (8 * y + x) u) else -1
theorem c_W_unseen {x y u e q : Int} (hk : lc_ok t) : hy_Ct sc hm_W_unseen 5 [.inr (some 2), .inl x, .inl y, .inl u, .inl e, .inl q] t (fun r t' => r = some (wf_unseen t x y u e q) ∧ hy_F lX t t') := by
  refine hy_mk_ct ok_W_unseen ck_W_unseen (Nat.le_of_ble_eq_true rfl) ?_
  by_cases hq : ((0 ≤ x ∧ x < 8) ∧ 0 ≤ y ∧ y < 8) ∧ sp_told (t 5 2) u = true ∧ (0 ≤ e ∧ e < 6) ∧ 0 ≤ q ∧ q < 4
  · have ea : wf_unseen t x y u e q = hy_b (wf_hid t (wf_as t e q) (8 * y + x) u) := if_pos hq
    rw [ea]
    refine hy_iload (i := 0) rfl rfl ?_
    refine hy_iload (i := 1) rfl rfl ?_
    refine hy_cS2e (i := 2) rfl (by decide) mj_W_isPlace (by decide) rfl (Nat.le_of_ble_eq_true rfl) (c_W_isPlace) ?_
    refine hy_ib_eq (i := 3) (tt := 15) rfl (fun zc1 => ?_) (fun zc1 => ?_)
    · simp at zc1; omega
    · refine hy_aload (i := 4) rfl rfl ?_
      refine hy_getr (i := 5) rfl rfl ?_
      refine hy_iload (i := 6) rfl rfl ?_
      refine hy_cV1e (i := 7) rfl mj_P_isTold (by decide) rfl (Nat.le_of_ble_eq_true rfl) rfl rfl rfl (c_P_isTold) ?_
      refine hy_ib_eq (i := 8) (tt := 15) rfl (fun zc2 => ?_) (fun zc2 => ?_)
      · rw [hq.2.1] at zc2; cases zc2
      · refine hy_iload (i := 9) rfl rfl ?_
        refine hy_cS1e (i := 10) rfl (by decide) mj_W_isEmpire (by decide) rfl (Nat.le_of_ble_eq_true rfl) (c_W_isEmpire) ?_
        refine hy_ib_eq (i := 11) (tt := 15) rfl (fun zc3 => ?_) (fun zc3 => ?_)
        · simp at zc3; omega
        · refine hy_iload (i := 12) rfl rfl ?_
          refine hy_cS1e (i := 13) rfl (by decide) mj_W_isQuarter (by decide) rfl (Nat.le_of_ble_eq_true rfl) (c_W_isQuarter) ?_
          refine hy_ib_ne (i := 14) (tt := 17) rfl (fun zc4 => ?_) (fun zc4 => ?_)
          · refine hy_aload (i := 17) rfl rfl ?_
            refine hy_getr (i := 18) rfl rfl ?_
            refine hy_iload (i := 19) rfl rfl ?_
            refine hy_iload (i := 20) rfl rfl ?_
            refine hy_cV2 (i := 21) rfl mj_E_look (by decide) rfl (Nat.le_of_ble_eq_true rfl) rfl rfl rfl (c_E_look (by assumption)) (fun r5_ t5_ h5 => ?_)
            obtain ⟨rfl, hL5, hF5⟩ := h5
            dsimp only [hy_st, List.nil_append]
            refine hy_aload (i := 22) rfl rfl ?_
            refine hy_const (i := 23) rfl (by decide) ?_
            refine hy_iload (i := 24) rfl rfl ?_
            refine hy_imul (i := 25) rfl (by omega) ?_
            refine hy_iload (i := 26) rfl rfl ?_
            refine hy_iadd (i := 27) rfl (by omega) ?_
            refine hy_iload (i := 28) rfl rfl ?_
            refine hy_cV2e (i := 29) rfl mj_W_isHidden (by decide) rfl (Nat.le_of_ble_eq_true rfl) rfl rfl rfl (c_W_isHidden) ?_
            rw [show wf_hid t5_ (t5_ 46) (8 * y + x) u = wf_hid t (wf_as t e q) (8 * y + x) u by unfold wf_hid; rw [hL5, show t5_ 9 = t 9 from funext fun j => hF5 9 j rfl]; rfl]
            refine hy_if_eq (i := 30) (tt := 33) rfl (fun zc5 => ?_) (fun zc5 => ?_)
            · refine hy_const (i := 33) rfl (by decide) ?_
              refine hy_ireturn (i := 34) rfl rfl ?_
              exact ⟨by cases hv : wf_hid t (wf_as t e q) (8 * y + x) u <;> simp_all [hy_b], hF5⟩
            · refine hy_const (i := 31) rfl (by decide) ?_
              refine hy_goto (i := 32) (tt := 34) rfl ?_
              refine hy_ireturn (i := 34) rfl rfl ?_
              exact ⟨by cases hv : wf_hid t (wf_as t e q) (8 * y + x) u <;> simp_all [hy_b], hF5⟩
          · simp at zc4; omega
  · have ea : wf_unseen t x y u e q = -1 := if_neg hq
    rw [ea]
    refine hy_iload (i := 0) rfl rfl ?_
    refine hy_iload (i := 1) rfl rfl ?_
    refine hy_cS2e (i := 2) rfl (by decide) mj_W_isPlace (by decide) rfl (Nat.le_of_ble_eq_true rfl) (c_W_isPlace) ?_
    refine hy_ib_eq (i := 3) (tt := 15) rfl (fun zc1 => ?_) (fun zc1 => ?_)
    · refine hy_const (i := 15) rfl (by decide) ?_
      refine hy_ireturn (i := 16) rfl rfl ?_
      exact ⟨rfl, hy_F.rf⟩
    · refine hy_aload (i := 4) rfl rfl ?_
      refine hy_getr (i := 5) rfl rfl ?_
      refine hy_iload (i := 6) rfl rfl ?_
      refine hy_cV1e (i := 7) rfl mj_P_isTold (by decide) rfl (Nat.le_of_ble_eq_true rfl) rfl rfl rfl (c_P_isTold) ?_
      refine hy_ib_eq (i := 8) (tt := 15) rfl (fun zc2 => ?_) (fun zc2 => ?_)
      · refine hy_const (i := 15) rfl (by decide) ?_
        refine hy_ireturn (i := 16) rfl rfl ?_
        exact ⟨rfl, hy_F.rf⟩
      · refine hy_iload (i := 9) rfl rfl ?_
        refine hy_cS1e (i := 10) rfl (by decide) mj_W_isEmpire (by decide) rfl (Nat.le_of_ble_eq_true rfl) (c_W_isEmpire) ?_
        refine hy_ib_eq (i := 11) (tt := 15) rfl (fun zc3 => ?_) (fun zc3 => ?_)
        · refine hy_const (i := 15) rfl (by decide) ?_
          refine hy_ireturn (i := 16) rfl rfl ?_
          exact ⟨rfl, hy_F.rf⟩
        · refine hy_iload (i := 12) rfl rfl ?_
          refine hy_cS1e (i := 13) rfl (by decide) mj_W_isQuarter (by decide) rfl (Nat.le_of_ble_eq_true rfl) (c_W_isQuarter) ?_
          refine hy_ib_ne (i := 14) (tt := 17) rfl (fun zc4 => ?_) (fun zc4 => ?_)
          · exfalso; simp only [decide_eq_true_eq] at zc1 zc3 zc4; exact hq ⟨zc1, zc2, zc3, zc4⟩
          · refine hy_const (i := 15) rfl (by decide) ?_
            refine hy_ireturn (i := 16) rfl rfl ?_
            exact ⟨rfl, hy_F.rf⟩
/-- how many numbers of the tape are owners -/
def wf_rightN (t : hy_T) : Nat → Int → Int
  | 0, k => k
  | n + 1, k => if tp_number t (4 * k) = (if 0 ≤ k ∧ k < 64 then t 35 k.toNat else 6) then wf_rightN t n (k + 1) else k
theorem wf_rightN_in (t : hy_T) : ∀ (n : Nat) (k : Int), k ≤ wf_rightN t n k ∧ wf_rightN t n k ≤ k + n
  | 0, k => by simp [wf_rightN]
  | n + 1, k => by
    simp only [wf_rightN]
    by_cases hx : tp_number t (4 * k) = (if 0 ≤ k ∧ k < 64 then t 35 k.toNat else 6)
    · rw [if_pos hx]; have := wf_rightN_in t n (k + 1); omega
    · rw [if_neg hx]; omega
def wf_check (t : hy_T) (n : Int) : Int := if wf_rightN t n.toNat 0 = n then -1 else wf_rightN t n.toNat 0
theorem c_W_check {n : Int} (hl : 0 ≤ t 3 1 ∧ t 3 1 ≤ 260) : hy_Ct sc hm_W_check 2 [.inr (some 2), .inl n] t (hy_e (some (if (0 ≤ n ∧ n ≤ 8) ∧ 4 * n ≤ t 3 1 then wf_check t n else -2)) (if (0 ≤ n ∧ n ≤ 8) ∧ 4 * n ≤ t 3 1 then hy_up t 3 1 0 else t)) := by
  refine hy_mk_ct ok_W_check ck_W_check (Nat.le_of_ble_eq_true rfl) ?_
  by_cases hq : (0 ≤ n ∧ n ≤ 8) ∧ 4 * n ≤ t 3 1
  · rw [if_pos hq, if_pos hq]
    have fin : ∀ k : Int, k = wf_rightN t n.toNat 0 → hy_W sc hm_W_check 2 32 [.inr (some 2), .inl n, .inl k] [] t (hy_e (some (wf_check t n)) (hy_up t 3 1 0)) := by
      intro k hk
      have ek : wf_check t n = if k = n then -1 else k := by unfold wf_check; rw [hk]
      rw [ek]
      refine hy_aload (i := 32) rfl rfl ?_
      refine hy_getr (i := 33) rfl rfl ?_
      refine hy_cV0v (i := 34) rfl mj_T_clear (by decide) rfl (Nat.le_of_ble_eq_true rfl) rfl rfl rfl (c_T_clear) ?_
      refine hy_iload (i := 35) rfl rfl ?_
      refine hy_iload (i := 36) rfl rfl ?_
      refine hy_ic_ne (i := 37) (tt := 40) rfl (fun zc1 => ?_) (fun zc1 => ?_)
      · refine hy_iload (i := 40) rfl rfl ?_
        refine hy_ireturn (i := 41) rfl rfl ?_
        exact ⟨congrArg some (by first | (rw [if_pos (by omega)]; done) | (rw [if_neg (by omega)]; done)), rfl⟩
      · refine hy_const (i := 38) rfl (by decide) ?_
        refine hy_goto (i := 39) (tt := 41) rfl ?_
        refine hy_ireturn (i := 41) rfl rfl ?_
        exact ⟨congrArg some (by first | (rw [if_pos (by omega)]; done) | (rw [if_neg (by omega)]; done)), rfl⟩
    have loop : ∀ (m : Nat), ∀ (k : Nat), m + k = n.toNat → wf_rightN t m k = wf_rightN t n.toNat 0 → hy_W sc hm_W_check 2 16 [.inr (some 2), .inl n, .inl (k : Int)] [] t (hy_e (some (wf_check t n)) (hy_up t 3 1 0)) := by
      intro m
      induction m with
      | zero =>
        intro k hm he
        refine hy_iload (i := 16) rfl rfl ?_
        refine hy_iload (i := 17) rfl rfl ?_
        refine hy_ic_ge (i := 18) (tt := 32) rfl (fun zc1 => ?_) (fun zc1 => ?_)
        · exact fin _ he
        · omega
      | succ m ih =>
        intro k hm he
        by_cases hx : tp_number t (4 * k) = (if 0 ≤ (k : Int) ∧ (k : Int) < 64 then t 35 (k : Int).toNat else 6)
        · have e : wf_rightN t (m + 1) k = wf_rightN t m (k + 1) := by simp only [wf_rightN]; rw [if_pos hx]
          rw [e] at he
          refine hy_iload (i := 16) rfl rfl ?_
          refine hy_iload (i := 17) rfl rfl ?_
          refine hy_ic_ge (i := 18) (tt := 32) rfl (fun zc1 => ?_) (fun zc1 => ?_)
          · omega
          · refine hy_aload (i := 19) rfl rfl ?_
            refine hy_getr (i := 20) rfl rfl ?_
            refine hy_const (i := 21) rfl (by decide) ?_
            refine hy_iload (i := 22) rfl rfl ?_
            refine hy_imul (i := 23) rfl (by omega) ?_
            refine hy_cV1e (i := 24) rfl mj_T_number (by decide) rfl (Nat.le_of_ble_eq_true rfl) rfl rfl rfl (c_T_number hl.2 (by omega)) ?_
            refine hy_aload (i := 25) rfl rfl ?_
            refine hy_getr (i := 26) rfl rfl ?_
            refine hy_iload (i := 27) rfl rfl ?_
            refine hy_cV1e (i := 28) rfl mj_S_ownerOf (by decide) rfl (Nat.le_of_ble_eq_true rfl) rfl rfl rfl (c_S_ownerOf_33) ?_
            refine hy_ic_ne (i := 29) (tt := 32) rfl (fun zc2 => ?_) (fun zc2 => ?_)
            · exact absurd hx (by assumption)
            · refine hy_iinc (i := 30) rfl rfl (by omega) ?_
              refine hy_goto (i := 31) (tt := 16) rfl ?_
              exact ih (k + 1) (by omega) he
        · have e : wf_rightN t (m + 1) k = k := by simp only [wf_rightN]; rw [if_neg hx]
          rw [e] at he
          refine hy_iload (i := 16) rfl rfl ?_
          refine hy_iload (i := 17) rfl rfl ?_
          refine hy_ic_ge (i := 18) (tt := 32) rfl (fun zc1 => ?_) (fun zc1 => ?_)
          · omega
          · refine hy_aload (i := 19) rfl rfl ?_
            refine hy_getr (i := 20) rfl rfl ?_
            refine hy_const (i := 21) rfl (by decide) ?_
            refine hy_iload (i := 22) rfl rfl ?_
            refine hy_imul (i := 23) rfl (by omega) ?_
            refine hy_cV1e (i := 24) rfl mj_T_number (by decide) rfl (Nat.le_of_ble_eq_true rfl) rfl rfl rfl (c_T_number hl.2 (by omega)) ?_
            refine hy_aload (i := 25) rfl rfl ?_
            refine hy_getr (i := 26) rfl rfl ?_
            refine hy_iload (i := 27) rfl rfl ?_
            refine hy_cV1e (i := 28) rfl mj_S_ownerOf (by decide) rfl (Nat.le_of_ble_eq_true rfl) rfl rfl rfl (c_S_ownerOf_33) ?_
            refine hy_ic_ne (i := 29) (tt := 32) rfl (fun zc2 => ?_) (fun zc2 => ?_)
            · exact fin _ he
            · exact absurd (by first | assumption | omega) hx
    refine hy_iload (i := 0) rfl rfl ?_
    refine hy_if_lt (i := 1) (tt := 12) rfl (fun zc1 => ?_) (fun zc1 => ?_)
    · omega
    · refine hy_iload (i := 2) rfl rfl ?_
      refine hy_const (i := 3) rfl (by decide) ?_
      refine hy_ic_gt (i := 4) (tt := 12) rfl (fun zc2 => ?_) (fun zc2 => ?_)
      · omega
      · refine hy_aload (i := 5) rfl rfl ?_
        refine hy_getr (i := 6) rfl rfl ?_
        refine hy_cV0e (i := 7) rfl mj_T_length (by decide) rfl (Nat.le_of_ble_eq_true rfl) rfl rfl rfl (c_T_length) ?_
        refine hy_const (i := 8) rfl (by decide) ?_
        refine hy_iload (i := 9) rfl rfl ?_
        refine hy_imul (i := 10) rfl (by omega) ?_
        refine hy_ic_ge (i := 11) (tt := 14) rfl (fun zc3 => ?_) (fun zc3 => ?_)
        · refine hy_const (i := 14) rfl (by decide) ?_
          refine hy_istore (i := 15) rfl ?_
          exact loop n.toNat 0 rfl rfl
        · omega
  · rw [if_neg hq, if_neg hq]
    refine hy_iload (i := 0) rfl rfl ?_
    refine hy_if_lt (i := 1) (tt := 12) rfl (fun zc1 => ?_) (fun zc1 => ?_)
    · refine hy_const (i := 12) rfl (by decide) ?_
      refine hy_ireturn (i := 13) rfl rfl ?_
      exact ⟨rfl, rfl⟩
    · refine hy_iload (i := 2) rfl rfl ?_
      refine hy_const (i := 3) rfl (by decide) ?_
      refine hy_ic_gt (i := 4) (tt := 12) rfl (fun zc2 => ?_) (fun zc2 => ?_)
      · refine hy_const (i := 12) rfl (by decide) ?_
        refine hy_ireturn (i := 13) rfl rfl ?_
        exact ⟨rfl, rfl⟩
      · refine hy_aload (i := 5) rfl rfl ?_
        refine hy_getr (i := 6) rfl rfl ?_
        refine hy_cV0e (i := 7) rfl mj_T_length (by decide) rfl (Nat.le_of_ble_eq_true rfl) rfl rfl rfl (c_T_length) ?_
        refine hy_const (i := 8) rfl (by decide) ?_
        refine hy_iload (i := 9) rfl rfl ?_
        refine hy_imul (i := 10) rfl (by omega) ?_
        refine hy_ic_ge (i := 11) (tt := 14) rfl (fun zc3 => ?_) (fun zc3 => ?_)
        · omega
        · refine hy_const (i := 12) rfl (by decide) ?_
          refine hy_ireturn (i := 13) rfl rfl ?_
          exact ⟨rfl, rfl⟩
end WB
