/-! the model: lines, made and judged -/
section NA
variable {sc : List Int32} {t : hy_T}
theorem c_M_readsLine (h : mp_ok t) (hm : 0 ≤ t 59 33 ∧ t 59 33 ≤ 8) : hy_Ct sc hm_M_readsLine 3 [.inr (some 59)] t (hy_e (some (hy_b (ml_line t).1)) (ml_line t).2) := by
  refine hy_mk_ct ok_M_readsLine ck_M_readsLine (Nat.le_of_ble_eq_true rfl) ?_
  have hp := h.1
  generalize hG : ml_line t = G
  have tail : ∀ u, mp_ok u → (0 ≤ u 59 33 ∧ u 59 33 < 8) → ml_tail u = G → hy_W sc hm_M_readsLine 3 27 [.inr (some 59)] [] u (hy_e (some (hy_b G.1)) G.2) := by
    intro u hu hn hv
    have hpu := hu.1
    unfold ml_tail at hv
    by_cases hs : mp_here u = 62 ∨ mp_here u = 43
    · rw [if_pos hs] at hv
      have rest : hy_W sc hm_M_readsLine 3 53 [.inr (some 59)] [] (hy_up u 84 (u 59 33).toNat (if mp_here u = 43 then 1 else 0)) (hy_e (some (hy_b G.1)) G.2) := by
        have d1 := ml_s_row hu (r := 84) (by decide) (by decide) (if mp_here u = 43 then 1 else 0)
        have eh : mp_here (hy_up u 84 (u 59 33).toNat (if mp_here u = 43 then 1 else 0)) = mp_here u := rfl
        have d2 := d1.tr (ml_s_st d1.1 (by rw [eh]; omega))
        change ml_s u (ml_sgn u) at d2
        have e1 := (ml_emp_s d2.1 (-1)).1
        have ey : (ml_emp (ml_sgn u) (-1)).2 59 33 = u 59 33 := (d2.tr e1).2.1 59 33 rfl
        unfold ml_two at hv
        by_cases he : (ml_emp (ml_sgn u) (-1)).1 = true
        · rw [if_pos he] at hv
          have g1 := ml_s_row e1.1 (r := 82) (by decide) (by decide) ((ml_emp (ml_sgn u) (-1)).2 59 13)
          change ml_s _ (ml_from (ml_emp (ml_sgn u) (-1)).2) at g1
          have i1 := (ml_emp_s g1.1 ((ml_emp (ml_sgn u) (-1)).2 59 13)).1
          have ez : (ml_emp (ml_from (ml_emp (ml_sgn u) (-1)).2) ((ml_emp (ml_sgn u) (-1)).2 59 13)).2 59 33 = u 59 33 := (((d2.tr e1).tr g1).tr i1).2.1 59 33 rfl
          by_cases hz : (ml_emp (ml_from (ml_emp (ml_sgn u) (-1)).2) ((ml_emp (ml_sgn u) (-1)).2 59 13)).1 = true
          · rw [if_pos hz] at hv
            refine hy_aload (i := 53) rfl rfl ?_
            refine hy_aload (i := 54) rfl rfl ?_
            refine hy_get (i := 55) (fk := 10) rfl rfl rfl ?_
            refine hy_const (i := 56) rfl (by decide) ?_
            refine hy_iadd (i := 57) rfl ((by have q1 : 0 ≤ u 59 10 ∧ u 59 10 ≤ 260 := hpu; first | omega | (show -2147483648 ≤ u 59 10 + 1 ∧ u 59 10 + 1 ≤ 2147483647; omega))) ?_
            refine hy_put (i := 58) (fk := 10) rfl rfl rfl rfl ?_
            refine hy_aload (i := 59) rfl rfl ?_
            refine hy_const (i := 60) rfl (by decide) ?_
            refine hy_cV1e (i := 61) rfl mj_M_readsEmpire (by decide) rfl (Nat.le_of_ble_eq_true rfl) rfl rfl rfl (c_M_readsEmpire (t := ml_sgn u) d2.1) ?_
            refine hy_ib_ne (i := 62) (tt := 65) rfl (fun zc1 => ?_) (fun zc1 => ?_)
            · refine hy_aload (i := 65) rfl rfl ?_
              refine hy_getr (i := 66) rfl rfl ?_
              refine hy_aload (i := 67) rfl rfl ?_
              refine hy_get (i := 68) (fk := 33) rfl rfl rfl ?_
              refine hy_aload (i := 69) rfl rfl ?_
              refine hy_get (i := 70) (fk := 13) rfl rfl rfl ?_
              refine hy_iast (i := 71) rfl rfl (by omega) rfl ?_
              refine hy_aload (i := 72) rfl rfl ?_
              refine hy_aload (i := 73) rfl rfl ?_
              refine hy_get (i := 74) (fk := 13) rfl rfl rfl ?_
              rw [hy_up_ne (by decide)]
              refine hy_cV1e (i := 75) rfl mj_M_readsEmpire (by decide) rfl (Nat.le_of_ble_eq_true rfl) rfl rfl rfl (c_M_readsEmpire (t := ml_from (ml_emp (ml_sgn u) (-1)).2) g1.1) ?_
              refine hy_ib_ne (i := 76) (tt := 79) rfl (fun zc2 => ?_) (fun zc2 => ?_)
              · refine hy_aload (i := 79) rfl rfl ?_
                refine hy_getr (i := 80) rfl rfl ?_
                refine hy_aload (i := 81) rfl rfl ?_
                refine hy_get (i := 82) (fk := 33) rfl rfl rfl ?_
                refine hy_aload (i := 83) rfl rfl ?_
                refine hy_get (i := 84) (fk := 13) rfl rfl rfl ?_
                refine hy_iast (i := 85) rfl rfl (by omega) rfl ?_
                refine hy_aload (i := 86) rfl rfl ?_
                refine hy_aload (i := 87) rfl rfl ?_
                refine hy_get (i := 88) (fk := 33) rfl rfl rfl ?_
                refine hy_const (i := 89) rfl (by decide) ?_
                rw [hy_up_ne (by decide)]
                refine hy_iadd (i := 90) rfl ((by have q1 : 0 ≤ u 59 10 ∧ u 59 10 ≤ 260 := hpu; first | omega | (show -2147483648 ≤ u 59 10 + 1 ∧ u 59 10 + 1 ≤ 2147483647; omega))) ?_
                refine hy_put (i := 91) (fk := 33) rfl rfl rfl rfl ?_
                refine hy_const (i := 92) rfl (by decide) ?_
                refine hy_zreturn (i := 93) rfl rfl (by first | decide | exact hy_b01 _) ?_
                rw [← hv]; exact ⟨rfl, rfl⟩
              · exact bb_abs hz zc2
            · exact bb_abs he zc1
          · rw [if_neg hz] at hv
            refine hy_aload (i := 53) rfl rfl ?_
            refine hy_aload (i := 54) rfl rfl ?_
            refine hy_get (i := 55) (fk := 10) rfl rfl rfl ?_
            refine hy_const (i := 56) rfl (by decide) ?_
            refine hy_iadd (i := 57) rfl ((by have q1 : 0 ≤ u 59 10 ∧ u 59 10 ≤ 260 := hpu; first | omega | (show -2147483648 ≤ u 59 10 + 1 ∧ u 59 10 + 1 ≤ 2147483647; omega))) ?_
            refine hy_put (i := 58) (fk := 10) rfl rfl rfl rfl ?_
            refine hy_aload (i := 59) rfl rfl ?_
            refine hy_const (i := 60) rfl (by decide) ?_
            refine hy_cV1e (i := 61) rfl mj_M_readsEmpire (by decide) rfl (Nat.le_of_ble_eq_true rfl) rfl rfl rfl (c_M_readsEmpire (t := ml_sgn u) d2.1) ?_
            refine hy_ib_ne (i := 62) (tt := 65) rfl (fun zc1 => ?_) (fun zc1 => ?_)
            · refine hy_aload (i := 65) rfl rfl ?_
              refine hy_getr (i := 66) rfl rfl ?_
              refine hy_aload (i := 67) rfl rfl ?_
              refine hy_get (i := 68) (fk := 33) rfl rfl rfl ?_
              refine hy_aload (i := 69) rfl rfl ?_
              refine hy_get (i := 70) (fk := 13) rfl rfl rfl ?_
              refine hy_iast (i := 71) rfl rfl (by omega) rfl ?_
              refine hy_aload (i := 72) rfl rfl ?_
              refine hy_aload (i := 73) rfl rfl ?_
              refine hy_get (i := 74) (fk := 13) rfl rfl rfl ?_
              rw [hy_up_ne (by decide)]
              refine hy_cV1e (i := 75) rfl mj_M_readsEmpire (by decide) rfl (Nat.le_of_ble_eq_true rfl) rfl rfl rfl (c_M_readsEmpire (t := ml_from (ml_emp (ml_sgn u) (-1)).2) g1.1) ?_
              refine hy_ib_ne (i := 76) (tt := 79) rfl (fun zc2 => ?_) (fun zc2 => ?_)
              · exact absurd zc2 hz
              · refine hy_const (i := 77) rfl (by decide) ?_
                refine hy_zreturn (i := 78) rfl rfl (by first | decide | exact hy_b01 _) ?_
                rw [← hv]; exact ⟨rfl, rfl⟩
            · exact bb_abs he zc1
        · rw [if_neg he] at hv
          refine hy_aload (i := 53) rfl rfl ?_
          refine hy_aload (i := 54) rfl rfl ?_
          refine hy_get (i := 55) (fk := 10) rfl rfl rfl ?_
          refine hy_const (i := 56) rfl (by decide) ?_
          refine hy_iadd (i := 57) rfl ((by have q1 : 0 ≤ u 59 10 ∧ u 59 10 ≤ 260 := hpu; first | omega | (show -2147483648 ≤ u 59 10 + 1 ∧ u 59 10 + 1 ≤ 2147483647; omega))) ?_
          refine hy_put (i := 58) (fk := 10) rfl rfl rfl rfl ?_
          refine hy_aload (i := 59) rfl rfl ?_
          refine hy_const (i := 60) rfl (by decide) ?_
          refine hy_cV1e (i := 61) rfl mj_M_readsEmpire (by decide) rfl (Nat.le_of_ble_eq_true rfl) rfl rfl rfl (c_M_readsEmpire (t := ml_sgn u) d2.1) ?_
          refine hy_ib_ne (i := 62) (tt := 65) rfl (fun zc1 => ?_) (fun zc1 => ?_)
          · exact absurd zc1 he
          · refine hy_const (i := 63) rfl (by decide) ?_
            refine hy_zreturn (i := 64) rfl rfl (by first | decide | exact hy_b01 _) ?_
            rw [← hv]; exact ⟨rfl, rfl⟩
      refine hy_aload (i := 27) rfl rfl ?_
      refine hy_cV0e (i := 28) rfl mj_M_here (by decide) rfl (Nat.le_of_ble_eq_true rfl) rfl rfl rfl (c_M_here (by assumption)) ?_
      refine hy_const (i := 29) rfl (by decide) ?_
      refine hy_ic_eq (i := 30) (tt := 41) rfl (fun zc1 => ?_) (fun zc1 => ?_)
      · refine hy_aload (i := 41) rfl rfl ?_
        refine hy_getr (i := 42) rfl rfl ?_
        refine hy_aload (i := 43) rfl rfl ?_
        refine hy_get (i := 44) (fk := 33) rfl rfl rfl ?_
        refine hy_aload (i := 45) rfl rfl ?_
        refine hy_cV0e (i := 46) rfl mj_M_here (by decide) rfl (Nat.le_of_ble_eq_true rfl) rfl rfl rfl (c_M_here (by assumption)) ?_
        refine hy_const (i := 47) rfl (by decide) ?_
        refine hy_ic_ne (i := 48) (tt := 51) rfl (fun zc2 => ?_) (fun zc2 => ?_)
        · refine hy_const (i := 51) rfl (by decide) ?_
          refine hy_iast (i := 52) rfl rfl (by omega) rfl ?_
          first | (rw [if_pos (by assumption)] at rest; exact rest) | (rw [if_neg (by assumption)] at rest; exact rest)
        · refine hy_const (i := 49) rfl (by decide) ?_
          refine hy_goto (i := 50) (tt := 52) rfl ?_
          refine hy_iast (i := 52) rfl rfl (by omega) rfl ?_
          first | (rw [if_pos (by assumption)] at rest; exact rest) | (rw [if_neg (by assumption)] at rest; exact rest)
      · refine hy_aload (i := 31) rfl rfl ?_
        refine hy_cV0e (i := 32) rfl mj_M_here (by decide) rfl (Nat.le_of_ble_eq_true rfl) rfl rfl rfl (c_M_here (by assumption)) ?_
        refine hy_const (i := 33) rfl (by decide) ?_
        refine hy_ic_eq (i := 34) (tt := 41) rfl (fun zc2 => ?_) (fun zc2 => ?_)
        · refine hy_aload (i := 41) rfl rfl ?_
          refine hy_getr (i := 42) rfl rfl ?_
          refine hy_aload (i := 43) rfl rfl ?_
          refine hy_get (i := 44) (fk := 33) rfl rfl rfl ?_
          refine hy_aload (i := 45) rfl rfl ?_
          refine hy_cV0e (i := 46) rfl mj_M_here (by decide) rfl (Nat.le_of_ble_eq_true rfl) rfl rfl rfl (c_M_here (by assumption)) ?_
          refine hy_const (i := 47) rfl (by decide) ?_
          refine hy_ic_ne (i := 48) (tt := 51) rfl (fun zc3 => ?_) (fun zc3 => ?_)
          · refine hy_const (i := 51) rfl (by decide) ?_
            refine hy_iast (i := 52) rfl rfl (by omega) rfl ?_
            first | (rw [if_pos (by assumption)] at rest; exact rest) | (rw [if_neg (by assumption)] at rest; exact rest)
          · refine hy_const (i := 49) rfl (by decide) ?_
            refine hy_goto (i := 50) (tt := 52) rfl ?_
            refine hy_iast (i := 52) rfl rfl (by omega) rfl ?_
            first | (rw [if_pos (by assumption)] at rest; exact rest) | (rw [if_neg (by assumption)] at rest; exact rest)
        · omega
    · rw [if_neg hs] at hv
      refine hy_aload (i := 27) rfl rfl ?_
      refine hy_cV0e (i := 28) rfl mj_M_here (by decide) rfl (Nat.le_of_ble_eq_true rfl) rfl rfl rfl (c_M_here (by assumption)) ?_
      refine hy_const (i := 29) rfl (by decide) ?_
      refine hy_ic_eq (i := 30) (tt := 41) rfl (fun zc1 => ?_) (fun zc1 => ?_)
      · omega
      · refine hy_aload (i := 31) rfl rfl ?_
        refine hy_cV0e (i := 32) rfl mj_M_here (by decide) rfl (Nat.le_of_ble_eq_true rfl) rfl rfl rfl (c_M_here (by assumption)) ?_
        refine hy_const (i := 33) rfl (by decide) ?_
        refine hy_ic_eq (i := 34) (tt := 41) rfl (fun zc2 => ?_) (fun zc2 => ?_)
        · omega
        · refine hy_aload (i := 35) rfl rfl ?_
          refine hy_const (i := 36) rfl (by decide) ?_
          refine hy_aload (i := 37) rfl rfl ?_
          refine hy_get (i := 38) (fk := 10) rfl rfl rfl ?_
          refine hy_cV2e (i := 39) rfl mj_M_wrongAt (by decide) rfl (Nat.le_of_ble_eq_true rfl) rfl rfl rfl (c_M_wrongAt (by decide) hpu) ?_
          refine hy_zreturn (i := 40) rfl rfl (by first | decide | exact hy_b01 _) ?_
          rw [← hv]; exact ⟨rfl, rfl⟩
  unfold ml_line at hG
  by_cases hd : mp_dig t = true
  · rw [if_pos hd] at hG
    by_cases h8 : t 59 33 = 8
    · rw [if_pos h8] at hG
      refine hy_aload (i := 0) rfl rfl ?_
      refine hy_cV0e (i := 1) rfl mj_M_isDigit (by decide) rfl (Nat.le_of_ble_eq_true rfl) rfl rfl rfl (c_M_isDigit (by assumption)) ?_
      refine hy_ib_ne (i := 2) (tt := 9) rfl (fun zc1 => ?_) (fun zc1 => ?_)
      · refine hy_aload (i := 9) rfl rfl ?_
        refine hy_get (i := 10) (fk := 33) rfl rfl rfl ?_
        refine hy_const (i := 11) rfl (by decide) ?_
        refine hy_ic_ne (i := 12) (tt := 19) rfl (fun zc2 => ?_) (fun zc2 => ?_)
        · omega
        · refine hy_aload (i := 13) rfl rfl ?_
          refine hy_const (i := 14) rfl (by decide) ?_
          refine hy_aload (i := 15) rfl rfl ?_
          refine hy_get (i := 16) (fk := 10) rfl rfl rfl ?_
          refine hy_cV2e (i := 17) rfl mj_M_wrongAt (by decide) rfl (Nat.le_of_ble_eq_true rfl) rfl rfl rfl (c_M_wrongAt (by decide) hp) ?_
          refine hy_zreturn (i := 18) rfl rfl (by first | decide | exact hy_b01 _) ?_
          rw [← hG]; exact ⟨rfl, rfl⟩
      · exact bb_abs hd zc1
    · rw [if_neg h8] at hG
      obtain ⟨a1, -⟩ := ml_col_s h
      have ea : (ml_col t).2 59 33 = t 59 33 := a1.2.1 59 33 rfl
      by_cases hc : (ml_col t).1 = true
      · rw [if_pos hc] at hG
        obtain ⟨b1, -⟩ := ml_quaN_s 5 (t := (ml_col t).2) (s := 0) (l := -1) a1.1 (by decide)
        have b2 := a1.tr b1
        change ml_s t (ml_qua (ml_col t).2).2 at b2
        have eb : (ml_qua (ml_col t).2).2 59 33 = t 59 33 := b2.2.1 59 33 rfl
        have hok1 := a1.1
        by_cases hq : (ml_qua (ml_col t).2).1 = true
        · rw [if_pos hq] at hG
          refine hy_aload (i := 0) rfl rfl ?_
          refine hy_cV0e (i := 1) rfl mj_M_isDigit (by decide) rfl (Nat.le_of_ble_eq_true rfl) rfl rfl rfl (c_M_isDigit (by assumption)) ?_
          refine hy_ib_ne (i := 2) (tt := 9) rfl (fun zc1 => ?_) (fun zc1 => ?_)
          · refine hy_aload (i := 9) rfl rfl ?_
            refine hy_get (i := 10) (fk := 33) rfl rfl rfl ?_
            refine hy_const (i := 11) rfl (by decide) ?_
            refine hy_ic_ne (i := 12) (tt := 19) rfl (fun zc2 => ?_) (fun zc2 => ?_)
            · refine hy_aload (i := 19) rfl rfl ?_
              refine hy_cV0e (i := 20) rfl mj_M_readsColour (by decide) rfl (Nat.le_of_ble_eq_true rfl) rfl rfl rfl (c_M_readsColour (by assumption) (by omega)) ?_
              refine hy_ib_eq (i := 21) (tt := 25) rfl (fun zc3 => ?_) (fun zc3 => ?_)
              · exact bb_abs hc (by assumption)
              · refine hy_aload (i := 22) rfl rfl ?_
                refine hy_cV0e (i := 23) rfl mj_M_readsQuarters (by decide) rfl (Nat.le_of_ble_eq_true rfl) rfl rfl rfl (c_M_readsQuarters (by assumption) (by omega)) ?_
                refine hy_ib_ne (i := 24) (tt := 27) rfl (fun zc4 => ?_) (fun zc4 => ?_)
                · exact tail _ b2.1 (by omega) hG
                · exact bb_abs hq (by assumption)
            · omega
          · exact bb_abs hd zc1
        · rw [if_neg hq] at hG
          refine hy_aload (i := 0) rfl rfl ?_
          refine hy_cV0e (i := 1) rfl mj_M_isDigit (by decide) rfl (Nat.le_of_ble_eq_true rfl) rfl rfl rfl (c_M_isDigit (by assumption)) ?_
          refine hy_ib_ne (i := 2) (tt := 9) rfl (fun zc1 => ?_) (fun zc1 => ?_)
          · refine hy_aload (i := 9) rfl rfl ?_
            refine hy_get (i := 10) (fk := 33) rfl rfl rfl ?_
            refine hy_const (i := 11) rfl (by decide) ?_
            refine hy_ic_ne (i := 12) (tt := 19) rfl (fun zc2 => ?_) (fun zc2 => ?_)
            · refine hy_aload (i := 19) rfl rfl ?_
              refine hy_cV0e (i := 20) rfl mj_M_readsColour (by decide) rfl (Nat.le_of_ble_eq_true rfl) rfl rfl rfl (c_M_readsColour (by assumption) (by omega)) ?_
              refine hy_ib_eq (i := 21) (tt := 25) rfl (fun zc3 => ?_) (fun zc3 => ?_)
              · exact bb_abs hc (by assumption)
              · refine hy_aload (i := 22) rfl rfl ?_
                refine hy_cV0e (i := 23) rfl mj_M_readsQuarters (by decide) rfl (Nat.le_of_ble_eq_true rfl) rfl rfl rfl (c_M_readsQuarters (by assumption) (by omega)) ?_
                refine hy_ib_ne (i := 24) (tt := 27) rfl (fun zc4 => ?_) (fun zc4 => ?_)
                · exact absurd (by assumption) hq
                · refine hy_const (i := 25) rfl (by decide) ?_
                  refine hy_zreturn (i := 26) rfl rfl (by first | decide | exact hy_b01 _) ?_
                  rw [← hG]; exact ⟨rfl, rfl⟩
            · omega
          · exact bb_abs hd zc1
      · rw [if_neg hc] at hG
        refine hy_aload (i := 0) rfl rfl ?_
        refine hy_cV0e (i := 1) rfl mj_M_isDigit (by decide) rfl (Nat.le_of_ble_eq_true rfl) rfl rfl rfl (c_M_isDigit (by assumption)) ?_
        refine hy_ib_ne (i := 2) (tt := 9) rfl (fun zc1 => ?_) (fun zc1 => ?_)
        · refine hy_aload (i := 9) rfl rfl ?_
          refine hy_get (i := 10) (fk := 33) rfl rfl rfl ?_
          refine hy_const (i := 11) rfl (by decide) ?_
          refine hy_ic_ne (i := 12) (tt := 19) rfl (fun zc2 => ?_) (fun zc2 => ?_)
          · refine hy_aload (i := 19) rfl rfl ?_
            refine hy_cV0e (i := 20) rfl mj_M_readsColour (by decide) rfl (Nat.le_of_ble_eq_true rfl) rfl rfl rfl (c_M_readsColour (by assumption) (by omega)) ?_
            refine hy_ib_eq (i := 21) (tt := 25) rfl (fun zc3 => ?_) (fun zc3 => ?_)
            · refine hy_const (i := 25) rfl (by decide) ?_
              refine hy_zreturn (i := 26) rfl rfl (by first | decide | exact hy_b01 _) ?_
              rw [← hG]; exact ⟨rfl, rfl⟩
            · exact absurd (by assumption) hc
          · omega
        · exact bb_abs hd zc1
  · rw [if_neg hd] at hG
    refine hy_aload (i := 0) rfl rfl ?_
    refine hy_cV0e (i := 1) rfl mj_M_isDigit (by decide) rfl (Nat.le_of_ble_eq_true rfl) rfl rfl rfl (c_M_isDigit (by assumption)) ?_
    refine hy_ib_ne (i := 2) (tt := 9) rfl (fun zc1 => ?_) (fun zc1 => ?_)
    · exact absurd zc1 hd
    · refine hy_aload (i := 3) rfl rfl ?_
      refine hy_const (i := 4) rfl (by decide) ?_
      refine hy_aload (i := 5) rfl rfl ?_
      refine hy_get (i := 6) (fk := 10) rfl rfl rfl ?_
      refine hy_cV2e (i := 7) rfl mj_M_wrongAt (by decide) rfl (Nat.le_of_ble_eq_true rfl) rfl rfl rfl (c_M_wrongAt (by decide) hp) ?_
      refine hy_zreturn (i := 8) rfl rfl (by first | decide | exact hy_b01 _) ?_
      rw [← hG]; exact ⟨rfl, rfl⟩
theorem c_M_readsLines {n : Int} (hn : n ≤ 260) : hy_Ct sc hm_M_readsLines 4 [.inr (some 59), .inl n] t (hy_e (some (hy_b (ml_lines t n).1)) (ml_lines t n).2) := by
  refine hy_mk_ct ok_M_readsLines ck_M_readsLines (Nat.le_of_ble_eq_true rfl) ?_
  obtain ⟨s1, s2, s3⟩ := ml_t0_s t hn
  obtain ⟨b1, b2, b3, b4⟩ := ml_line_s s1 s2
  obtain ⟨G0, hG0⟩ : ∃ G0, G0 = ml_linesN 261 (ml_line (ml_t0 t n)) := ⟨_, rfl⟩
  have hG : ml_lines t n = (G0.1, hy_up G0.2 59 9 0) := by rw [hG0]; rfl
  have loop : ∀ (m : Nat), ∀ (x : Bool) (u : hy_T), mp_ok u → ml_good u → (x = true → u 59 11 - u 59 10 < m) → ml_linesN m (x, u) = G0 → hy_W sc hm_M_readsLines 4 12 [.inr (some 59), .inl n, .inl (hy_b x)] [] u (hy_e (some (hy_b (ml_lines t n).1)) (ml_lines t n).2) := by
    intro m
    induction m with
    | zero =>
      intro x u hu hg hx hv
      have hG' : ml_lines t n = (x, hy_up u 59 9 0) := by rw [hG, ← hv]; try rfl
      rw [hG']
      refine hy_iload (i := 12) rfl rfl ?_
      refine hy_ib_eq (i := 13) (tt := 31) rfl (fun zc1 => ?_) (fun zc1 => ?_)
      · refine hy_aload (i := 31) rfl rfl ?_
        refine hy_const (i := 32) rfl (by decide) ?_
        refine hy_put (i := 33) (fk := 9) rfl rfl rfl rfl ?_
        refine hy_iload (i := 34) rfl rfl ?_
        refine hy_zreturn (i := 35) rfl rfl (by first | decide | exact hy_b01 _) ?_
        exact ⟨rfl, rfl⟩
      · refine hy_aload (i := 14) rfl rfl ?_
        refine hy_get (i := 15) (fk := 10) rfl rfl rfl ?_
        refine hy_aload (i := 16) rfl rfl ?_
        refine hy_get (i := 17) (fk := 11) rfl rfl rfl ?_
        refine hy_ic_ge (i := 18) (tt := 31) rfl (fun zc2 => ?_) (fun zc2 => ?_)
        · refine hy_aload (i := 31) rfl rfl ?_
          refine hy_const (i := 32) rfl (by decide) ?_
          refine hy_put (i := 33) (fk := 9) rfl rfl rfl rfl ?_
          refine hy_iload (i := 34) rfl rfl ?_
          refine hy_zreturn (i := 35) rfl rfl (by first | decide | exact hy_b01 _) ?_
          exact ⟨rfl, rfl⟩
        · have := hx (by assumption); omega
    | succ m ih =>
      intro x u hu hg hx hv
      simp only [ml_linesN] at hv
      by_cases hc : x = true ∧ u 59 10 < u 59 11
      · rw [if_pos hc] at hv
        obtain ⟨a1, a2, a3, a4⟩ := mp_take_s (c := 44) hu (by decide)
        have a5 : hy_F mlmX u (mp_take u 44).2 := a2.w (fun r j q => by revert q; simp [mlmX, mlnX, mpX]; omega)
        have a6 : ml_good (mp_take u 44).2 := by
          unfold ml_good ml_row
          simp only [a2 59 33 rfl, a2 80 _ rfl, a2 81 _ rfl, a2 82 _ rfl, a2 83 _ rfl, a2 84 _ rfl]
          exact hg
        have a7 := a6.1
        have a11 : (mp_take u 44).2 59 11 = u 59 11 := a2 59 11 rfl
        obtain ⟨c1, c2, c3, c4⟩ := ml_line_s a1 a6
        have c11 : (ml_line (mp_take u 44).2).2 59 11 = u 59 11 := (c2 59 11 rfl).trans a11
        have hx1 := hx hc.1
        by_cases ht : (mp_take u 44).1 = true
        · rw [if_pos ht] at hv
          have a8 := a4 ht
          refine hy_iload (i := 12) rfl rfl ?_
          refine hy_ib_eq (i := 13) (tt := 31) rfl (fun zc1 => ?_) (fun zc1 => ?_)
          · exact bb_abs hc.1 zc1
          · refine hy_aload (i := 14) rfl rfl ?_
            refine hy_get (i := 15) (fk := 10) rfl rfl rfl ?_
            refine hy_aload (i := 16) rfl rfl ?_
            refine hy_get (i := 17) (fk := 11) rfl rfl rfl ?_
            refine hy_ic_ge (i := 18) (tt := 31) rfl (fun zc2 => ?_) (fun zc2 => ?_)
            · omega
            · refine hy_aload (i := 19) rfl rfl ?_
              refine hy_const (i := 20) rfl (by decide) ?_
              refine hy_cV1e (i := 21) rfl mj_M_takes (by decide) rfl (Nat.le_of_ble_eq_true rfl) rfl rfl rfl (c_M_takes (by assumption)) ?_
              refine hy_ib_eq (i := 22) (tt := 28) rfl (fun zc3 => ?_) (fun zc3 => ?_)
              · exact bb_abs ht (by assumption)
              · refine hy_aload (i := 23) rfl rfl ?_
                refine hy_cV0e (i := 24) rfl mj_M_readsLine (by decide) rfl (Nat.le_of_ble_eq_true rfl) rfl rfl rfl (c_M_readsLine (by assumption) (by omega)) ?_
                refine hy_ib_eq (i := 25) (tt := 28) rfl (fun zc4 => ?_) (fun zc4 => ?_)
                · refine hy_const (i := 28) rfl (by decide) ?_
                  refine hy_istore (i := 29) rfl ?_
                  refine hy_goto (i := 30) (tt := 12) rfl ?_
                  first | exact ih true _ c1 c4 (fun _ => by omega) (by rw [← hv]; exact congrArg (ml_linesN m) (Prod.ext (show (ml_line (mp_take u 44).2).1 = true by assumption).symm rfl)) | exact ih false _ c1 c4 (fun h => by cases h) (by rw [← hv]; exact congrArg (ml_linesN m) (Prod.ext (show (ml_line (mp_take u 44).2).1 = false by assumption).symm rfl))
                · refine hy_const (i := 26) rfl (by decide) ?_
                  refine hy_goto (i := 27) (tt := 29) rfl ?_
                  refine hy_istore (i := 29) rfl ?_
                  refine hy_goto (i := 30) (tt := 12) rfl ?_
                  first | exact ih true _ c1 c4 (fun _ => by omega) (by rw [← hv]; exact congrArg (ml_linesN m) (Prod.ext (show (ml_line (mp_take u 44).2).1 = true by assumption).symm rfl)) | exact ih false _ c1 c4 (fun h => by cases h) (by rw [← hv]; exact congrArg (ml_linesN m) (Prod.ext (show (ml_line (mp_take u 44).2).1 = false by assumption).symm rfl))
        · rw [if_neg ht] at hv
          refine hy_iload (i := 12) rfl rfl ?_
          refine hy_ib_eq (i := 13) (tt := 31) rfl (fun zc1 => ?_) (fun zc1 => ?_)
          · exact bb_abs hc.1 zc1
          · refine hy_aload (i := 14) rfl rfl ?_
            refine hy_get (i := 15) (fk := 10) rfl rfl rfl ?_
            refine hy_aload (i := 16) rfl rfl ?_
            refine hy_get (i := 17) (fk := 11) rfl rfl rfl ?_
            refine hy_ic_ge (i := 18) (tt := 31) rfl (fun zc2 => ?_) (fun zc2 => ?_)
            · omega
            · refine hy_aload (i := 19) rfl rfl ?_
              refine hy_const (i := 20) rfl (by decide) ?_
              refine hy_cV1e (i := 21) rfl mj_M_takes (by decide) rfl (Nat.le_of_ble_eq_true rfl) rfl rfl rfl (c_M_takes (by assumption)) ?_
              refine hy_ib_eq (i := 22) (tt := 28) rfl (fun zc3 => ?_) (fun zc3 => ?_)
              · refine hy_const (i := 28) rfl (by decide) ?_
                refine hy_istore (i := 29) rfl ?_
                refine hy_goto (i := 30) (tt := 12) rfl ?_
                exact ih false _ a1 a6 (fun h => by cases h) hv
              · exact absurd (by assumption) ht
      · rw [if_neg hc] at hv
        have hG' : ml_lines t n = (x, hy_up u 59 9 0) := by rw [hG, ← hv]; try rfl
        rw [hG']
        refine hy_iload (i := 12) rfl rfl ?_
        refine hy_ib_eq (i := 13) (tt := 31) rfl (fun zc1 => ?_) (fun zc1 => ?_)
        · refine hy_aload (i := 31) rfl rfl ?_
          refine hy_const (i := 32) rfl (by decide) ?_
          refine hy_put (i := 33) (fk := 9) rfl rfl rfl rfl ?_
          refine hy_iload (i := 34) rfl rfl ?_
          refine hy_zreturn (i := 35) rfl rfl (by first | decide | exact hy_b01 _) ?_
          exact ⟨rfl, rfl⟩
        · refine hy_aload (i := 14) rfl rfl ?_
          refine hy_get (i := 15) (fk := 10) rfl rfl rfl ?_
          refine hy_aload (i := 16) rfl rfl ?_
          refine hy_get (i := 17) (fk := 11) rfl rfl rfl ?_
          refine hy_ic_ge (i := 18) (tt := 31) rfl (fun zc2 => ?_) (fun zc2 => ?_)
          · refine hy_aload (i := 31) rfl rfl ?_
            refine hy_const (i := 32) rfl (by decide) ?_
            refine hy_put (i := 33) (fk := 9) rfl rfl rfl rfl ?_
            refine hy_iload (i := 34) rfl rfl ?_
            refine hy_zreturn (i := 35) rfl rfl (by first | decide | exact hy_b01 _) ?_
            exact ⟨rfl, rfl⟩
          · exact absurd ⟨by assumption, by omega⟩ hc
  have hb1 := s2.1
  have e11 : (ml_line (ml_t0 t n)).2 59 11 = n := (b2 59 11 rfl).trans rfl
  have e10 : ml_t0 t n 59 10 = 0 := rfl
  refine hy_aload (i := 0) rfl rfl ?_
  refine hy_const (i := 1) rfl (by decide) ?_
  refine hy_put (i := 2) (fk := 10) rfl rfl rfl rfl ?_
  refine hy_aload (i := 3) rfl rfl ?_
  refine hy_iload (i := 4) rfl rfl ?_
  refine hy_put (i := 5) (fk := 11) rfl rfl rfl rfl ?_
  refine hy_aload (i := 6) rfl rfl ?_
  refine hy_const (i := 7) rfl (by decide) ?_
  refine hy_put (i := 8) (fk := 33) rfl rfl rfl rfl ?_
  refine hy_aload (i := 9) rfl rfl ?_
  refine hy_cV0e (i := 10) rfl mj_M_readsLine (by decide) rfl (Nat.le_of_ble_eq_true rfl) rfl rfl rfl (c_M_readsLine (t := ml_t0 t n) s1 hb1) ?_
  refine hy_istore (i := 11) rfl ?_
  exact loop 261 _ _ b1 b4 (fun _ => by omega) hG0.symm
end NA
def mk_goN (t : hy_T) (k : Nat) : Nat → Bool
  | 0 => true
  | q + 1 => mk_goN t k q && (!hz_b (t 81 k) q || (hz_b (t 62 (4 * t 80 k + q).toNat) (t 82 k) && !hz_b (t 62 (4 * t 80 k + q).toNat) (t 83 k)))
theorem mk_go_no {t : hy_T} {k : Nat} : ∀ (n m : Nat), m ≤ n → mk_goN t k m = false → mk_goN t k n = false
  | 0, m, h, hf => by obtain rfl : m = 0 := (by omega); exact hf
  | n + 1, m, h, hf => by
    by_cases hm : m = n + 1
    · rw [← hm]; exact hf
    · simp only [mk_goN, mk_go_no n m (by omega) hf, Bool.false_and]
def mk_can (t : hy_T) (k : Nat) : Bool := (mf_plain t (t 80 k) && decide (t 59 34 ≠ 16)) && mk_goN t k 4
def mk_c1 (t : hy_T) (k : Nat) : hy_T := mf_chN t (t 80 k) (t 81 k) (t 83 k) 1 4
def mk_c2 (t : hy_T) (k : Nat) : hy_T := if mk_c1 t k 84 k = 0 then mf_chN (mk_c1 t k) (mk_c1 t k 80 k) (mk_c1 t k 81 k) (mk_c1 t k 82 k) 0 4 else mk_c1 t k
def mk_lay (u : hy_T) (k : Nat) : hy_T :=
  hy_up (hy_up (hy_up (hy_up (hy_up (hy_up (hy_up u 85 (u 59 34).toNat (u 80 k)) 86 (u 59 34).toNat (u 81 k)) 87 (u 59 34).toNat (u 82 k)) 88 (u 59 34).toNat (u 83 k)) 89 (u 59 34).toNat (u 84 k)) 90 (u 59 34).toNat (u 59 2)) 59 34 (u 59 34 + 1)
def mk_make (t : hy_T) (k : Nat) : hy_T := if mk_can t k = true then mk_lay (mk_c2 t k) k else t
/-- a treaty that is well laid -/
def tr_row (t : hy_T) (i : Nat) : Prop := (0 ≤ t 85 i ∧ t 85 i < 12) ∧ (1 ≤ t 86 i ∧ t 86 i ≤ 15) ∧ (0 ≤ t 87 i ∧ t 87 i < 6) ∧ (0 ≤ t 88 i ∧ t 88 i < 6) ∧ (t 89 i = 0 ∨ t 89 i = 1) ∧ (-9999 ≤ t 90 i ∧ t 90 i ≤ 9999)
def tr_ok (t : hy_T) : Prop := (0 ≤ t 59 34 ∧ t 59 34 ≤ 16) ∧ (0 ≤ t 59 2 ∧ t 59 2 ≤ 9999) ∧ (0 ≤ t 59 1 ∧ t 59 1 ≤ 65535) ∧ ∀ i : Nat, (i : Int) < t 59 34 → tr_row t i
theorem tr_ok_F {X : Nat → Nat → Bool} {t t1 : hy_T} (h : hy_F X t t1) (hX : ∀ r j, stX r j = true ∨ (r = 59 ∧ j = 2) → X r j = false) (hk : tr_ok t) : tr_ok t1 := by
  obtain ⟨h1, h2, h3, h4⟩ := hk
  have e34 : t1 59 34 = t 59 34 := h 59 34 (hX 59 34 (.inl rfl))
  unfold tr_ok
  rw [e34, h 59 2 (hX 59 2 (.inr ⟨rfl, rfl⟩)), h 59 1 (hX 59 1 (.inl rfl))]
  refine ⟨h1, h2, h3, fun i hi => ?_⟩
  have hi2 : i < 16 := by omega
  have e : ∀ r, 85 ≤ r → r ≤ 90 → t1 r i = t r i := fun r a b => h r i (hX r i (.inl (by simp [stX]; omega)))
  unfold tr_row
  rw [e 85 (by decide) (by decide), e 86 (by decide) (by decide), e 87 (by decide) (by decide), e 88 (by decide) (by decide), e 89 (by decide) (by decide), e 90 (by decide) (by decide)]
  exact h4 i hi
theorem mk_c2_F {t : hy_T} {k : Nat} (hr : ml_row t k) : hy_F hvX t (mk_c2 t k) := by
  have h1 : hy_F hvX t (mk_c1 t k) := mf_chN_F hr.1 t 4 (by omega)
  unfold mk_c2
  split
  · refine h1.tr' (mf_chN_F ?_ _ 4 (by omega))
    rw [h1 80 k rfl]
    exact hr.1
  · exact h1
theorem mk_lay_F (u : hy_T) (hn : 0 ≤ u 59 34 ∧ u 59 34 < 16) (k : Nat) : hy_F stX u (mk_lay u k) := by
  unfold mk_lay
  exact ((((((hy_F.rf.up (by simp [stX]; omega)).up (by simp [stX]; omega)).up (by simp [stX]; omega)).up (by simp [stX]; omega)).up (by simp [stX]; omega)).up (by simp [stX]; omega)).up rfl
theorem mk_make_s {t : hy_T} {k : Nat} (hr : ml_row t k) (ht : tr_ok t) : hy_F stX t (mk_make t k) ∧ tr_ok (mk_make t k) := by
  unfold mk_make
  split
  · next hc =>
    simp only [mk_can, Bool.and_eq_true, decide_eq_true_eq] at hc
    obtain ⟨t1, t2, t3, t4⟩ := ht
    have h1 := mk_c2_F hr
    have e34 : mk_c2 t k 59 34 = t 59 34 := h1 59 34 rfl
    have hn : 0 ≤ mk_c2 t k 59 34 ∧ mk_c2 t k 59 34 < 16 := by omega
    have h2 := mk_lay_F (mk_c2 t k) hn k
    have eq : ∀ r j, 80 ≤ r → mk_c2 t k r j = t r j := fun r j hr => h1 r j (by simp [hvX]; omega)
    have e2 : mk_c2 t k 59 2 = t 59 2 := h1 59 2 rfl
    have e1 : mk_c2 t k 59 1 = t 59 1 := h1 59 1 rfl
    refine ⟨(h1.w (fun r j q => by revert q; simp [stX, hvX]; omega)).tr' h2, ?_⟩
    revert h1 e34 hn h2 eq e2 e1
    generalize mk_c2 t k = u
    intro h1 e34 hn h2 eq e2 e1
    have q34 : mk_lay u k 59 34 = u 59 34 + 1 := rfl
    refine ⟨by omega, by show 0 ≤ u 59 2 ∧ u 59 2 ≤ 9999; omega, by show 0 ≤ u 59 1 ∧ u 59 1 ≤ 65535; omega, fun i hi => ?_⟩
    have key : ∀ r v, mk_lay u k r i = (if i = (u 59 34).toNat then v else u r i) → mk_lay u k r i = (if i = (u 59 34).toNat then v else u r i) := fun _ _ h => h
    have g : mk_lay u k 85 i = (if i = (u 59 34).toNat then u 80 k else u 85 i) ∧ mk_lay u k 86 i = (if i = (u 59 34).toNat then u 81 k else u 86 i) ∧ mk_lay u k 87 i = (if i = (u 59 34).toNat then u 82 k else u 87 i) ∧ mk_lay u k 88 i = (if i = (u 59 34).toNat then u 83 k else u 88 i) ∧ mk_lay u k 89 i = (if i = (u 59 34).toNat then u 84 k else u 89 i) ∧ mk_lay u k 90 i = (if i = (u 59 34).toNat then u 59 2 else u 90 i) := by
      refine ⟨?_, ?_, ?_, ?_, ?_, ?_⟩ <;> simp [mk_lay, hy_up]
    obtain ⟨g1, g2, g3, g4, g5, g6⟩ := g
    unfold tr_row
    rw [g1, g2, g3, g4, g5, g6]
    by_cases hi2 : i = (u 59 34).toNat
    · simp only [if_pos hi2]
      rw [eq 80 k (by decide), eq 81 k (by decide), eq 82 k (by decide), eq 83 k (by decide), eq 84 k (by decide)]
      obtain ⟨r1, r2, r3, r4, r5⟩ := hr
      exact ⟨r1, r2, r3, r4, r5, by omega⟩
    · simp only [if_neg hi2]
      rw [eq 85 i (by decide), eq 86 i (by decide), eq 87 i (by decide), eq 88 i (by decide), eq 89 i (by decide), eq 90 i (by decide)]
      exact t4 i (by omega)
  · exact ⟨hy_F.rf, ht⟩
theorem ml_good_F {X : Nat → Nat → Bool} {t t1 : hy_T} (h : hy_F X t t1) (h0 : X 59 33 = false) (hX : ∀ r j, 80 ≤ r → r ≤ 84 → X r j = false) (hg : ml_good t) : ml_good t1 := by
  unfold ml_good ml_row
  rw [h 59 33 h0]
  refine ⟨hg.1, fun k hk => ?_⟩
  rw [h 80 k (hX 80 k (by decide) (by decide)), h 81 k (hX 81 k (by decide) (by decide)), h 82 k (hX 82 k (by decide) (by decide)), h 83 k (hX 83 k (by decide) (by decide)), h 84 k (hX 84 k (by decide) (by decide))]
  exact hg.2 k hk
def mk_madeN (t : hy_T) : Nat → Int × hy_T
  | 0 => (0, t)
  | k + 1 => if mk_can (mk_madeN t k).2 k = true then ((mk_madeN t k).1 + 1, mk_make (mk_madeN t k).2 k) else mk_madeN t k
theorem mk_madeN_s {t : hy_T} (hg : ml_good t) (ht : tr_ok t) : ∀ n : Nat, (n : Int) ≤ t 59 33 → hy_F stX t (mk_madeN t n).2 ∧ tr_ok (mk_madeN t n).2 ∧ ml_good (mk_madeN t n).2 ∧ (0 ≤ (mk_madeN t n).1 ∧ (mk_madeN t n).1 ≤ n)
  | 0, _ => ⟨hy_F.rf, ht, hg, by simp [mk_madeN]⟩
  | n + 1, hn => by
    obtain ⟨a1, a2, a3, a4⟩ := mk_madeN_s hg ht n (by omega)
    simp only [mk_madeN]
    split
    · have e : (mk_madeN t n).2 59 33 = t 59 33 := a1 59 33 rfl
      obtain ⟨b1, b2⟩ := mk_make_s (a3.2 n (by omega)) a2
      exact ⟨a1.tr' b1, b2, ml_good_F b1 rfl (fun r j h8 h9 => by simp [stX]; omega) a3, by dsimp only; omega⟩
    · exact ⟨a1, a2, a3, by omega⟩
abbrev ml_ntc (t : hy_T) (n : Int) : Prop := (1 ≤ n ∧ n ≤ 120) ∧ n ≤ t 59 9
def mk_jdN (t : hy_T) : Nat → Nat → Nat × hy_T
  | 0, k => (k, t)
  | m + 1, k => if mk_can t k = true then mk_jdN (mk_make t k) m (k + 1) else (k, t)
section NB
variable {sc : List Int32} {t : hy_T}
theorem c_M_canBe {k : Nat} (hk : k < 8) (hr : ml_row t k) : hy_Ct sc hm_M_canBe 3 [.inr (some 59), .inl (k : Int)] t (hy_e (some (hy_b (mk_can t k))) t) := by
  refine hy_mk_ct ok_M_canBe ck_M_canBe (Nat.le_of_ble_eq_true rfl) ?_
  have hc := hr.1
  have loop : mf_plain t (t 80 k) = true → t 59 34 ≠ 16 → ∀ (m : Nat), ∀ (q : Nat), m + q = 4 → mk_goN t k q = true → hy_W sc hm_M_canBe 3 17 [.inr (some 59), .inl (k : Int), .inl (t 80 k), .inl (q : Int)] [] t (hy_e (some (hy_b (mk_can t k))) t) := by
    intro hp h16 m
    have e0 : mk_can t k = mk_goN t k 4 := by unfold mk_can; rw [hp, decide_eq_true h16]; rfl
    rw [e0]
    induction m with
    | zero =>
      intro q hm hv
      obtain rfl : q = 4 := by omega
      refine hy_iload (i := 17) rfl rfl ?_
      refine hy_const (i := 18) rfl (by decide) ?_
      refine hy_ic_ge (i := 19) (tt := 60) rfl (fun zc1 => ?_) (fun zc1 => ?_)
      · refine hy_const (i := 60) rfl (by decide) ?_
        refine hy_zreturn (i := 61) rfl rfl (by first | decide | exact hy_b01 _) ?_
        exact ⟨congrArg some (by rw [hv]; rfl), rfl⟩
      · omega
    | succ m ih =>
      intro q hm hv
      have e1 : mk_goN t k (q + 1) = (!hz_b (t 81 k) q || (hz_b (t 62 (4 * t 80 k + q).toNat) (t 82 k) && !hz_b (t 62 (4 * t 80 k + q).toNat) (t 83 k))) := by simp only [mk_goN]; rw [hv, Bool.true_and]
      refine hy_iload (i := 17) rfl rfl ?_
      refine hy_const (i := 18) rfl (by decide) ?_
      refine hy_ic_ge (i := 19) (tt := 60) rfl (fun zc1 => ?_) (fun zc1 => ?_)
      · omega
      · refine hy_aload (i := 20) rfl rfl ?_
        refine hy_getr (i := 21) rfl rfl ?_
        refine hy_iload (i := 22) rfl rfl ?_
        refine hy_iald (i := 23) rfl rfl (by omega) (k := k) (by omega) ?_
        refine hy_iload (i := 24) rfl rfl ?_
        refine hy_cS2e (i := 25) rfl (by decide) mj_M_has (by decide) rfl (Nat.le_of_ble_eq_true rfl) (c_M_has) ?_
        refine hy_ib_ne (i := 26) (tt := 28) rfl (fun zc2 => ?_) (fun zc2 => ?_)
        · refine hy_aload (i := 28) rfl rfl ?_
          refine hy_getr (i := 29) rfl rfl ?_
          refine hy_const (i := 30) rfl (by decide) ?_
          refine hy_iload (i := 31) rfl rfl ?_
          refine hy_imul (i := 32) rfl (by omega) ?_
          refine hy_iload (i := 33) rfl rfl ?_
          refine hy_iadd (i := 34) rfl (by omega) ?_
          refine hy_iald (i := 35) rfl rfl (by omega) rfl ?_
          refine hy_aload (i := 36) rfl rfl ?_
          refine hy_getr (i := 37) rfl rfl ?_
          refine hy_iload (i := 38) rfl rfl ?_
          refine hy_iald (i := 39) rfl rfl (by omega) (k := k) (by omega) ?_
          refine hy_cS2e (i := 40) rfl (by decide) mj_M_has (by decide) rfl (Nat.le_of_ble_eq_true rfl) (c_M_has) ?_
          refine hy_ib_eq (i := 41) (tt := 56) rfl (fun zc3 => ?_) (fun zc3 => ?_)
          · refine hy_const (i := 56) rfl (by decide) ?_
            refine hy_zreturn (i := 57) rfl rfl (by first | decide | exact hy_b01 _) ?_
            exact ⟨congrArg some (by rw [mk_go_no (t := t) (k := k) 4 (q + 1) (by omega) (by rw [e1]; simp only [*]; rfl)]; rfl), rfl⟩
          · refine hy_aload (i := 42) rfl rfl ?_
            refine hy_getr (i := 43) rfl rfl ?_
            refine hy_const (i := 44) rfl (by decide) ?_
            refine hy_iload (i := 45) rfl rfl ?_
            refine hy_imul (i := 46) rfl (by omega) ?_
            refine hy_iload (i := 47) rfl rfl ?_
            refine hy_iadd (i := 48) rfl (by omega) ?_
            refine hy_iald (i := 49) rfl rfl (by omega) rfl ?_
            refine hy_aload (i := 50) rfl rfl ?_
            refine hy_getr (i := 51) rfl rfl ?_
            refine hy_iload (i := 52) rfl rfl ?_
            refine hy_iald (i := 53) rfl rfl (by omega) (k := k) (by omega) ?_
            refine hy_cS2e (i := 54) rfl (by decide) mj_M_has (by decide) rfl (Nat.le_of_ble_eq_true rfl) (c_M_has) ?_
            refine hy_ib_eq (i := 55) (tt := 58) rfl (fun zc4 => ?_) (fun zc4 => ?_)
            · refine hy_iinc (i := 58) rfl rfl (by omega) ?_
              refine hy_goto (i := 59) (tt := 17) rfl ?_
              exact ih (q + 1) (by omega) (by rw [e1]; simp only [*]; rfl)
            · refine hy_const (i := 56) rfl (by decide) ?_
              refine hy_zreturn (i := 57) rfl rfl (by first | decide | exact hy_b01 _) ?_
              exact ⟨congrArg some (by rw [mk_go_no (t := t) (k := k) 4 (q + 1) (by omega) (by rw [e1]; simp only [*]; rfl)]; rfl), rfl⟩
        · refine hy_goto (i := 27) (tt := 58) rfl ?_
          refine hy_iinc (i := 58) rfl rfl (by omega) ?_
          refine hy_goto (i := 59) (tt := 17) rfl ?_
          exact ih (q + 1) (by omega) (by rw [e1]; simp only [*]; rfl)
  refine hy_aload (i := 0) rfl rfl ?_
  refine hy_getr (i := 1) rfl rfl ?_
  refine hy_iload (i := 2) rfl rfl ?_
  refine hy_iald (i := 3) rfl rfl (by omega) (k := k) (by omega) ?_
  refine hy_istore (i := 4) rfl ?_
  refine hy_aload (i := 5) rfl rfl ?_
  refine hy_iload (i := 6) rfl rfl ?_
  refine hy_cV1e (i := 7) rfl mj_M_isPlain (by decide) rfl (Nat.le_of_ble_eq_true rfl) rfl rfl rfl (c_M_isPlain) ?_
  refine hy_ib_eq (i := 8) (tt := 13) rfl (fun zc1 => ?_) (fun zc1 => ?_)
  · refine hy_const (i := 13) rfl (by decide) ?_
    refine hy_zreturn (i := 14) rfl rfl (by first | decide | exact hy_b01 _) ?_
    exact ⟨congrArg some (by unfold mk_can; first | (rw [show mf_plain t (t 80 k) = false by assumption]; rfl) | (rw [decide_eq_false (fun h => h (by assumption)), Bool.and_false]; rfl)), rfl⟩
  · refine hy_aload (i := 9) rfl rfl ?_
    refine hy_get (i := 10) (fk := 34) rfl rfl rfl ?_
    refine hy_const (i := 11) rfl (by decide) ?_
    refine hy_ic_ne (i := 12) (tt := 15) rfl (fun zc2 => ?_) (fun zc2 => ?_)
    · refine hy_const (i := 15) rfl (by decide) ?_
      refine hy_istore (i := 16) rfl ?_
      exact loop (by assumption) (by assumption) 4 0 rfl rfl
    · refine hy_const (i := 13) rfl (by decide) ?_
      refine hy_zreturn (i := 14) rfl rfl (by first | decide | exact hy_b01 _) ?_
      exact ⟨congrArg some (by unfold mk_can; first | (rw [show mf_plain t (t 80 k) = false by assumption]; rfl) | (rw [decide_eq_false (fun h => h (by assumption)), Bool.and_false]; rfl)), rfl⟩
theorem c_M_makes {k : Nat} (hk : k < 8) (hr : ml_row t k) (hn : 0 ≤ t 59 34 ∧ t 59 34 ≤ 16) : hy_Ct sc hm_M_makes 4 [.inr (some 59), .inl (k : Int)] t (hy_e (some (hy_b (mk_can t k))) (mk_make t k)) := by
  refine hy_mk_ct ok_M_makes ck_M_makes (Nat.le_of_ble_eq_true rfl) ?_
  by_cases hc : mk_can t k = true
  · have hc2 := hc
    simp only [mk_can, Bool.and_eq_true, decide_eq_true_eq] at hc2
    have h1 : hy_F hvX t (mk_c1 t k) := mf_chN_F hr.1 t 4 (by omega)
    have h2 := mk_c2_F hr
    have lay : ∀ u, u = mk_c2 t k → hy_W sc hm_M_makes 4 41 [.inr (some 59), .inl (k : Int)] [] u (hy_e (some (hy_b (mk_can t k))) (mk_make t k)) := by
      intro u hu
      have e34 : u 59 34 = t 59 34 := by rw [hu]; exact h2 59 34 rfl
      have hu16 : 0 ≤ u 59 34 ∧ u 59 34 < 16 := by omega
      rw [hc, show mk_make t k = mk_lay u k by unfold mk_make; rw [if_pos hc, hu]]
      refine hy_aload (i := 41) rfl rfl ?_
      refine hy_getr (i := 42) rfl rfl ?_
      refine hy_aload (i := 43) rfl rfl ?_
      refine hy_get (i := 44) (fk := 34) rfl rfl rfl ?_
      refine hy_aload (i := 45) rfl rfl ?_
      refine hy_getr (i := 46) rfl rfl ?_
      refine hy_iload (i := 47) rfl rfl ?_
      refine hy_iald (i := 48) rfl rfl (by omega) (k := k) (by omega) ?_
      refine hy_iast (i := 49) rfl rfl (by exact hu16) (k := (u 59 34).toNat) rfl ?_
      refine hy_aload (i := 50) rfl rfl ?_
      refine hy_getr (i := 51) rfl rfl ?_
      refine hy_aload (i := 52) rfl rfl ?_
      refine hy_get (i := 53) (fk := 34) rfl rfl rfl ?_
      refine hy_aload (i := 54) rfl rfl ?_
      refine hy_getr (i := 55) rfl rfl ?_
      refine hy_iload (i := 56) rfl rfl ?_
      refine hy_iald (i := 57) rfl rfl (by omega) (k := k) (by omega) ?_
      refine hy_iast (i := 58) rfl rfl (by exact hu16) (k := (u 59 34).toNat) rfl ?_
      refine hy_aload (i := 59) rfl rfl ?_
      refine hy_getr (i := 60) rfl rfl ?_
      refine hy_aload (i := 61) rfl rfl ?_
      refine hy_get (i := 62) (fk := 34) rfl rfl rfl ?_
      refine hy_aload (i := 63) rfl rfl ?_
      refine hy_getr (i := 64) rfl rfl ?_
      refine hy_iload (i := 65) rfl rfl ?_
      refine hy_iald (i := 66) rfl rfl (by omega) (k := k) (by omega) ?_
      refine hy_iast (i := 67) rfl rfl (by exact hu16) (k := (u 59 34).toNat) rfl ?_
      refine hy_aload (i := 68) rfl rfl ?_
      refine hy_getr (i := 69) rfl rfl ?_
      refine hy_aload (i := 70) rfl rfl ?_
      refine hy_get (i := 71) (fk := 34) rfl rfl rfl ?_
      refine hy_aload (i := 72) rfl rfl ?_
      refine hy_getr (i := 73) rfl rfl ?_
      refine hy_iload (i := 74) rfl rfl ?_
      refine hy_iald (i := 75) rfl rfl (by omega) (k := k) (by omega) ?_
      refine hy_iast (i := 76) rfl rfl (by exact hu16) (k := (u 59 34).toNat) rfl ?_
      refine hy_aload (i := 77) rfl rfl ?_
      refine hy_getr (i := 78) rfl rfl ?_
      refine hy_aload (i := 79) rfl rfl ?_
      refine hy_get (i := 80) (fk := 34) rfl rfl rfl ?_
      refine hy_aload (i := 81) rfl rfl ?_
      refine hy_getr (i := 82) rfl rfl ?_
      refine hy_iload (i := 83) rfl rfl ?_
      refine hy_iald (i := 84) rfl rfl (by omega) (k := k) (by omega) ?_
      refine hy_iast (i := 85) rfl rfl (by exact hu16) (k := (u 59 34).toNat) rfl ?_
      refine hy_aload (i := 86) rfl rfl ?_
      refine hy_getr (i := 87) rfl rfl ?_
      refine hy_aload (i := 88) rfl rfl ?_
      refine hy_get (i := 89) (fk := 34) rfl rfl rfl ?_
      refine hy_aload (i := 90) rfl rfl ?_
      refine hy_get (i := 91) (fk := 2) rfl rfl rfl ?_
      refine hy_iast (i := 92) rfl rfl (by exact hu16) (k := (u 59 34).toNat) rfl ?_
      refine hy_aload (i := 93) rfl rfl ?_
      refine hy_aload (i := 94) rfl rfl ?_
      refine hy_get (i := 95) (fk := 34) rfl rfl rfl ?_
      refine hy_const (i := 96) rfl (by decide) ?_
      refine hy_iadd (i := 97) rfl (by show -2147483648 ≤ u 59 34 + 1 ∧ u 59 34 + 1 ≤ 2147483647; omega) ?_
      refine hy_put (i := 98) (fk := 34) rfl rfl rfl rfl ?_
      refine hy_const (i := 99) rfl (by decide) ?_
      refine hy_zreturn (i := 100) rfl rfl (by first | decide | exact hy_b01 _) ?_
      exact ⟨rfl, rfl⟩
    have c80 : mk_c1 t k 80 k = t 80 k := h1 80 k rfl
    have hcc := hr.1
    by_cases h84 : mk_c1 t k 84 k = 0
    · have eL := lay _ (show mf_chN (mk_c1 t k) (mk_c1 t k 80 k) (mk_c1 t k 81 k) (mk_c1 t k 82 k) 0 4 = mk_c2 t k by unfold mk_c2; rw [if_pos h84])
      refine hy_aload (i := 0) rfl rfl ?_
      refine hy_iload (i := 1) rfl rfl ?_
      refine hy_cV1e (i := 2) rfl mj_M_canBe (by decide) rfl (Nat.le_of_ble_eq_true rfl) rfl rfl rfl (c_M_canBe (by omega) (by assumption)) ?_
      refine hy_ib_ne (i := 3) (tt := 6) rfl (fun zc1 => ?_) (fun zc1 => ?_)
      · refine hy_aload (i := 6) rfl rfl ?_
        refine hy_aload (i := 7) rfl rfl ?_
        refine hy_getr (i := 8) rfl rfl ?_
        refine hy_iload (i := 9) rfl rfl ?_
        refine hy_iald (i := 10) rfl rfl (by omega) (k := k) (by omega) ?_
        refine hy_aload (i := 11) rfl rfl ?_
        refine hy_getr (i := 12) rfl rfl ?_
        refine hy_iload (i := 13) rfl rfl ?_
        refine hy_iald (i := 14) rfl rfl (by omega) (k := k) (by omega) ?_
        refine hy_aload (i := 15) rfl rfl ?_
        refine hy_getr (i := 16) rfl rfl ?_
        refine hy_iload (i := 17) rfl rfl ?_
        refine hy_iald (i := 18) rfl rfl (by omega) (k := k) (by omega) ?_
        refine hy_const (i := 19) rfl (by decide) ?_
        refine hy_cV4v (i := 20) rfl mj_M_changes (by decide) rfl (Nat.le_of_ble_eq_true rfl) rfl rfl rfl (c_M_changes (by omega)) ?_
        refine hy_aload (i := 21) rfl rfl ?_
        refine hy_getr (i := 22) rfl rfl ?_
        refine hy_iload (i := 23) rfl rfl ?_
        refine hy_iald (i := 24) rfl rfl (by omega) (k := k) (by omega) ?_
        refine hy_if_ne (i := 25) (tt := 41) rfl (fun zc2 => ?_) (fun zc2 => ?_)
        · exact absurd h84 (by assumption)
        · refine hy_aload (i := 26) rfl rfl ?_
          refine hy_aload (i := 27) rfl rfl ?_
          refine hy_getr (i := 28) rfl rfl ?_
          refine hy_iload (i := 29) rfl rfl ?_
          refine hy_iald (i := 30) rfl rfl (by omega) (k := k) (by omega) ?_
          refine hy_aload (i := 31) rfl rfl ?_
          refine hy_getr (i := 32) rfl rfl ?_
          refine hy_iload (i := 33) rfl rfl ?_
          refine hy_iald (i := 34) rfl rfl (by omega) (k := k) (by omega) ?_
          refine hy_aload (i := 35) rfl rfl ?_
          refine hy_getr (i := 36) rfl rfl ?_
          refine hy_iload (i := 37) rfl rfl ?_
          refine hy_iald (i := 38) rfl rfl (by omega) (k := k) (by omega) ?_
          refine hy_const (i := 39) rfl (by decide) ?_
          refine hy_cV4v (i := 40) rfl mj_M_changes (by decide) rfl (Nat.le_of_ble_eq_true rfl) rfl rfl rfl (c_M_changes (t := mk_c1 t k) (c := mk_c1 t k 80 k) (by omega)) ?_
          exact eL
      · exact bb_abs hc zc1
    · have eL := lay _ (show mk_c1 t k = mk_c2 t k by unfold mk_c2; rw [if_neg h84])
      refine hy_aload (i := 0) rfl rfl ?_
      refine hy_iload (i := 1) rfl rfl ?_
      refine hy_cV1e (i := 2) rfl mj_M_canBe (by decide) rfl (Nat.le_of_ble_eq_true rfl) rfl rfl rfl (c_M_canBe (by omega) (by assumption)) ?_
      refine hy_ib_ne (i := 3) (tt := 6) rfl (fun zc1 => ?_) (fun zc1 => ?_)
      · refine hy_aload (i := 6) rfl rfl ?_
        refine hy_aload (i := 7) rfl rfl ?_
        refine hy_getr (i := 8) rfl rfl ?_
        refine hy_iload (i := 9) rfl rfl ?_
        refine hy_iald (i := 10) rfl rfl (by omega) (k := k) (by omega) ?_
        refine hy_aload (i := 11) rfl rfl ?_
        refine hy_getr (i := 12) rfl rfl ?_
        refine hy_iload (i := 13) rfl rfl ?_
        refine hy_iald (i := 14) rfl rfl (by omega) (k := k) (by omega) ?_
        refine hy_aload (i := 15) rfl rfl ?_
        refine hy_getr (i := 16) rfl rfl ?_
        refine hy_iload (i := 17) rfl rfl ?_
        refine hy_iald (i := 18) rfl rfl (by omega) (k := k) (by omega) ?_
        refine hy_const (i := 19) rfl (by decide) ?_
        refine hy_cV4v (i := 20) rfl mj_M_changes (by decide) rfl (Nat.le_of_ble_eq_true rfl) rfl rfl rfl (c_M_changes (by omega)) ?_
        refine hy_aload (i := 21) rfl rfl ?_
        refine hy_getr (i := 22) rfl rfl ?_
        refine hy_iload (i := 23) rfl rfl ?_
        refine hy_iald (i := 24) rfl rfl (by omega) (k := k) (by omega) ?_
        refine hy_if_ne (i := 25) (tt := 41) rfl (fun zc2 => ?_) (fun zc2 => ?_)
        · exact eL
        · exact absurd (by assumption) h84
      · exact bb_abs hc zc1
  · rw [Bool.not_eq_true] at hc
    rw [hc, show mk_make t k = t by unfold mk_make; rw [hc]; rfl]
    refine hy_aload (i := 0) rfl rfl ?_
    refine hy_iload (i := 1) rfl rfl ?_
    refine hy_cV1e (i := 2) rfl mj_M_canBe (by decide) rfl (Nat.le_of_ble_eq_true rfl) rfl rfl rfl (c_M_canBe (by omega) (by assumption)) ?_
    refine hy_ib_ne (i := 3) (tt := 6) rfl (fun zc1 => ?_) (fun zc1 => ?_)
    · exact bb_abs zc1 hc
    · refine hy_const (i := 4) rfl (by decide) ?_
      refine hy_zreturn (i := 5) rfl rfl (by first | decide | exact hy_b01 _) ?_
      exact ⟨rfl, rfl⟩
theorem c_M_treaties {n : Int} (ht : tr_ok t) : hy_Ct sc hm_M_treaties 5 [.inr (some 59), .inl n] t (hy_e (some (if ml_ntc t n then (if (ml_lines t n).1 = true then (mk_madeN (ml_lines t n).2 ((ml_lines t n).2 59 33).toNat).1 else (ml_lines t n).2 59 12) else -1)) (if ml_ntc t n then (if (ml_lines t n).1 = true then (mk_madeN (ml_lines t n).2 ((ml_lines t n).2 59 33).toNat).2 else (ml_lines t n).2) else t)) := by
  refine hy_mk_ct ok_M_treaties ck_M_treaties (Nat.le_of_ble_eq_true rfl) ?_
  by_cases hq : ml_ntc t n
  · rw [if_pos hq, if_pos hq]
    obtain ⟨hg, hF⟩ := ml_lines_s t (n := n) (by omega)
    have ht1 := tr_ok_F hF (fun r j h => by revert h; simp [stX, mlsX]; omega) ht
    generalize hG : ml_lines t n = G at hg hF ht1
    have loop : G.1 = true → ∀ (m : Nat), ∀ (k : Nat), m + k = (G.2 59 33).toNat → hy_W sc hm_M_treaties 5 22 [.inr (some 59), .inl n, .inl (mk_madeN G.2 k).1, .inl (k : Int)] [] (mk_madeN G.2 k).2 (hy_e (some (mk_madeN G.2 (G.2 59 33).toNat).1) (mk_madeN G.2 (G.2 59 33).toNat).2) := by
      intro hx m
      have hg1 := hg.1
      induction m with
      | zero =>
        intro k hm
        obtain rfl : k = (G.2 59 33).toNat := by omega
        obtain ⟨a1, a2, a3, a4⟩ := mk_madeN_s hg ht1 (G.2 59 33).toNat (by omega)
        have e : (mk_madeN G.2 (G.2 59 33).toNat).2 59 33 = G.2 59 33 := a1 59 33 rfl
        refine hy_iload (i := 22) rfl rfl ?_
        refine hy_aload (i := 23) rfl rfl ?_
        refine hy_get (i := 24) (fk := 33) rfl rfl rfl ?_
        refine hy_ic_ge (i := 25) (tt := 38) rfl (fun zc1 => ?_) (fun zc1 => ?_)
        · refine hy_iload (i := 38) rfl rfl ?_
          refine hy_ireturn (i := 39) rfl rfl ?_
          exact ⟨rfl, rfl⟩
        · omega
      | succ m ih =>
        intro k hm
        obtain ⟨a1, a2, a3, a4⟩ := mk_madeN_s hg ht1 k (by omega)
        have e : (mk_madeN G.2 k).2 59 33 = G.2 59 33 := a1 59 33 rfl
        have hr := a3.2 k (by omega)
        have hn := a2.1
        have e1 : mk_madeN G.2 (k + 1) = if mk_can (mk_madeN G.2 k).2 k = true then ((mk_madeN G.2 k).1 + 1, mk_make (mk_madeN G.2 k).2 k) else mk_madeN G.2 k := rfl
        have ih' := ih (k + 1) (by omega)
        rw [e1] at ih'
        have e2 : mk_can (mk_madeN G.2 k).2 k = false → mk_make (mk_madeN G.2 k).2 k = (mk_madeN G.2 k).2 := fun h => by unfold mk_make; rw [h]; rfl
        refine hy_iload (i := 22) rfl rfl ?_
        refine hy_aload (i := 23) rfl rfl ?_
        refine hy_get (i := 24) (fk := 33) rfl rfl rfl ?_
        refine hy_ic_ge (i := 25) (tt := 38) rfl (fun zc1 => ?_) (fun zc1 => ?_)
        · omega
        · refine hy_iload (i := 26) rfl rfl ?_
          refine hy_aload (i := 27) rfl rfl ?_
          refine hy_iload (i := 28) rfl rfl ?_
          refine hy_cV1e (i := 29) rfl mj_M_makes (by decide) rfl (Nat.le_of_ble_eq_true rfl) rfl rfl rfl (c_M_makes (k := k) (by omega) hr hn) ?_
          refine hy_ib_eq (i := 30) (tt := 33) rfl (fun zc2 => ?_) (fun zc2 => ?_)
          · refine hy_const (i := 33) rfl (by decide) ?_
            refine hy_iadd (i := 34) rfl (by omega) ?_
            refine hy_istore (i := 35) rfl ?_
            refine hy_iinc (i := 36) rfl rfl (by omega) ?_
            refine hy_goto (i := 37) (tt := 22) rfl ?_
            first | (rw [if_pos (by assumption)] at ih'; exact ih') | (rw [if_neg (fun h => bb_abs h (by assumption))] at ih'; rw [e2 (by assumption), Int.add_zero]; exact ih')
          · refine hy_const (i := 31) rfl (by decide) ?_
            refine hy_goto (i := 32) (tt := 34) rfl ?_
            refine hy_iadd (i := 34) rfl (by omega) ?_
            refine hy_istore (i := 35) rfl ?_
            refine hy_iinc (i := 36) rfl rfl (by omega) ?_
            refine hy_goto (i := 37) (tt := 22) rfl ?_
            first | (rw [if_pos (by assumption)] at ih'; exact ih') | (rw [if_neg (fun h => bb_abs h (by assumption))] at ih'; rw [e2 (by assumption), Int.add_zero]; exact ih')
    refine hy_iload (i := 0) rfl rfl ?_
    refine hy_const (i := 1) rfl (by decide) ?_
    refine hy_const (i := 2) rfl (by decide) ?_
    refine hy_cS3e (i := 3) rfl (by decide) mj_M_in (by decide) rfl (Nat.le_of_ble_eq_true rfl) (c_M_in) ?_
    refine hy_ib_eq (i := 4) (tt := 9) rfl (fun zc1 => ?_) (fun zc1 => ?_)
    · simp only [decide_eq_false_iff_not] at zc1; omega
    · refine hy_iload (i := 5) rfl rfl ?_
      refine hy_aload (i := 6) rfl rfl ?_
      refine hy_get (i := 7) (fk := 9) rfl rfl rfl ?_
      refine hy_ic_le (i := 8) (tt := 11) rfl (fun zc2 => ?_) (fun zc2 => ?_)
      · refine hy_aload (i := 11) rfl rfl ?_
        refine hy_iload (i := 12) rfl rfl ?_
        refine hy_cV1e (i := 13) rfl mj_M_readsLines (by decide) rfl (Nat.le_of_ble_eq_true rfl) rfl rfl rfl (c_M_readsLines (by omega)) ?_
        rw [hG]
        refine hy_ib_ne (i := 14) (tt := 18) rfl (fun zc3 => ?_) (fun zc3 => ?_)
        · refine hy_const (i := 18) rfl (by decide) ?_
          refine hy_istore (i := 19) rfl ?_
          refine hy_const (i := 20) rfl (by decide) ?_
          refine hy_istore (i := 21) rfl ?_
          rw [if_pos (by assumption), if_pos (by assumption)]; exact loop (by assumption) (G.2 59 33).toNat 0 rfl
        · refine hy_aload (i := 15) rfl rfl ?_
          refine hy_get (i := 16) (fk := 12) rfl rfl rfl ?_
          refine hy_ireturn (i := 17) rfl rfl ?_
          exact ⟨by rw [if_neg (fun h => bb_abs h (by assumption))], by rw [if_neg (fun h => bb_abs h (by assumption))]⟩
      · omega
  · rw [if_neg hq, if_neg hq]
    refine hy_iload (i := 0) rfl rfl ?_
    refine hy_const (i := 1) rfl (by decide) ?_
    refine hy_const (i := 2) rfl (by decide) ?_
    refine hy_cS3e (i := 3) rfl (by decide) mj_M_in (by decide) rfl (Nat.le_of_ble_eq_true rfl) (c_M_in) ?_
    refine hy_ib_eq (i := 4) (tt := 9) rfl (fun zc1 => ?_) (fun zc1 => ?_)
    · refine hy_const (i := 9) rfl (by decide) ?_
      refine hy_ireturn (i := 10) rfl rfl ?_
      exact ⟨rfl, rfl⟩
    · refine hy_iload (i := 5) rfl rfl ?_
      refine hy_aload (i := 6) rfl rfl ?_
      refine hy_get (i := 7) (fk := 9) rfl rfl rfl ?_
      refine hy_ic_le (i := 8) (tt := 11) rfl (fun zc2 => ?_) (fun zc2 => ?_)
      · exfalso; simp only [decide_eq_true_eq] at zc1; exact hq ⟨by omega, by omega⟩
      · refine hy_const (i := 9) rfl (by decide) ?_
        refine hy_ireturn (i := 10) rfl rfl ?_
        exact ⟨rfl, rfl⟩
end NB
