/-! the class's law: steps as they are drafted -/
def lp_times (s : Int) : Bool := decide (s = 42 ∨ s = 47 ∨ s = 37)
def lp_letter (s : Int) : Int :=
  if s = 101 then 0 else if s = 99 then 1 else if s = 113 then 2 else if s = 100 then 3 else if s = 109 then 4 else if s = 97 then 5
  else if s = 98 then 6 else if s = 110 then 7 else if s = 103 then 8 else if s = 111 then 9 else -1
def lp_emit (t : hy_T) (op arg : Int) : hy_T := if t 19 3 < 241 then hy_up (hy_up (hy_up t 20 (t 19 3).toNat op) 21 (t 19 3).toNat arg) 19 3 (t 19 3 + 1) else t
def lp_lead (t : hy_T) (l : Int) : hy_T := if 0 ≤ l ∧ l < 241 then hy_up t 21 l.toNat (t 19 3) else t
abbrev lp_ok (t : hy_T) : Prop := tp_ok t ∧ (0 ≤ t 19 3 ∧ t 19 3 ≤ 241) ∧ (0 ≤ t 19 7 ∧ t 19 7 ≤ 16)
abbrev lpX : Nat → Nat → Bool := fun r j => (r == 3 && (j == 2 || j == 3 || j == 4)) || r == 20 || r == 21 || (r == 19 && j == 3)
theorem lpX_tp {t t1 : hy_T} (h : hy_F tpX t t1) : hy_F lpX t t1 := h.w (fun r j q => by revert q; simp [tpX, lpX]; omega)
theorem lp_ok_tp {t t1 : hy_T} (h : hy_F tpX t t1) (hk : lp_ok t) (h1 : tp_ok t1) : lp_ok t1 := ⟨h1, by rw [h 19 3 rfl]; exact hk.2.1, by rw [h 19 7 rfl]; exact hk.2.2⟩
theorem lp_emit_s {t : hy_T} (h : lp_ok t) (op arg : Int) : lp_ok (lp_emit t op arg) ∧ hy_F lpX t (lp_emit t op arg) := by
  have h2 := h.2.1
  unfold lp_emit
  split
  · refine ⟨⟨tp_ok_up (tp_ok_up (tp_ok_up h.1 rfl) rfl) rfl, ?_, h.2.2⟩, ((hy_F.rf.up rfl).up rfl).up rfl⟩
    show 0 ≤ t 19 3 + 1 ∧ t 19 3 + 1 ≤ 241
    omega
  · exact ⟨h, hy_F.rf⟩
theorem lp_lead_s {t : hy_T} (h : lp_ok t) (l : Int) : lp_ok (lp_lead t l) ∧ hy_F lpX t (lp_lead t l) := by
  unfold lp_lead
  split
  · exact ⟨⟨tp_ok_up h.1 rfl, h.2⟩, hy_F.rf.up rfl⟩
  · exact ⟨h, hy_F.rf⟩
def lp_lawcp (t : hy_T) : hy_T :=
  let t1 := hy_cp (hy_cp (hy_cp (hy_cp (hy_cp t 20 12 241) 21 13 241) 22 14 16) 23 15 16) 24 16 16
  hy_up (hy_up t1 11 3 (t 19 3)) 11 7 (t 19 7)
section LP
variable {sc : List Int32} {t : hy_T}
theorem c_L_isTimes {s : Int} : hy_Ct sc hm_L_isTimes 0 [.inl s] t (hy_e (some (hy_b (lp_times s))) t) := by
  refine hy_mk_ct ok_L_isTimes ck_L_isTimes (Nat.le_of_ble_eq_true rfl) ?_
  refine hy_iload (i := 0) rfl rfl ?_
  refine hy_const (i := 1) rfl (by decide) ?_
  refine hy_ic_eq (i := 2) (tt := 9) rfl (fun zc1 => ?_) (fun zc1 => ?_)
  · refine hy_const (i := 9) rfl (by decide) ?_
    refine hy_goto (i := 10) (tt := 12) rfl ?_
    refine hy_zreturn (i := 12) rfl rfl (by first | decide | exact hy_b01 _) ?_
    exact ⟨congrArg some (by unfold lp_times; first | (rw [decide_eq_true (by omega)]; rfl) | (rw [decide_eq_false (by omega)]; rfl)), rfl⟩
  · refine hy_iload (i := 3) rfl rfl ?_
    refine hy_const (i := 4) rfl (by decide) ?_
    refine hy_ic_eq (i := 5) (tt := 9) rfl (fun zc2 => ?_) (fun zc2 => ?_)
    · refine hy_const (i := 9) rfl (by decide) ?_
      refine hy_goto (i := 10) (tt := 12) rfl ?_
      refine hy_zreturn (i := 12) rfl rfl (by first | decide | exact hy_b01 _) ?_
      exact ⟨congrArg some (by unfold lp_times; first | (rw [decide_eq_true (by omega)]; rfl) | (rw [decide_eq_false (by omega)]; rfl)), rfl⟩
    · refine hy_iload (i := 6) rfl rfl ?_
      refine hy_const (i := 7) rfl (by decide) ?_
      refine hy_ic_ne (i := 8) (tt := 11) rfl (fun zc3 => ?_) (fun zc3 => ?_)
      · refine hy_const (i := 11) rfl (by decide) ?_
        refine hy_zreturn (i := 12) rfl rfl (by first | decide | exact hy_b01 _) ?_
        exact ⟨congrArg some (by unfold lp_times; first | (rw [decide_eq_true (by omega)]; rfl) | (rw [decide_eq_false (by omega)]; rfl)), rfl⟩
      · refine hy_const (i := 9) rfl (by decide) ?_
        refine hy_goto (i := 10) (tt := 12) rfl ?_
        refine hy_zreturn (i := 12) rfl rfl (by first | decide | exact hy_b01 _) ?_
        exact ⟨congrArg some (by unfold lp_times; first | (rw [decide_eq_true (by omega)]; rfl) | (rw [decide_eq_false (by omega)]; rfl)), rfl⟩
theorem c_L_letterOf {s : Int} : hy_Ct sc hm_L_letterOf 0 [.inl s] t (hy_e (some (lp_letter s)) t) := by
  refine hy_mk_ct ok_L_letterOf ck_L_letterOf (Nat.le_of_ble_eq_true rfl) ?_
  refine hy_iload (i := 0) rfl rfl ?_
  by_cases zq1 : s = 97
  · refine hy_tsw (i := 1) (tt := 12) rfl (by rw [zq1]; rfl) ?_
    refine hy_const (i := 12) rfl (by decide) ?_
    refine hy_ireturn (i := 13) rfl rfl ?_
    exact ⟨congrArg some (by unfold lp_letter; repeat (first | rw [if_pos (by omega)] | rw [if_neg (by omega)])), rfl⟩
  · skip
    by_cases zq1 : s = 98
    · refine hy_tsw (i := 1) (tt := 14) rfl (by rw [zq1]; rfl) ?_
      refine hy_const (i := 14) rfl (by decide) ?_
      refine hy_ireturn (i := 15) rfl rfl ?_
      exact ⟨congrArg some (by unfold lp_letter; repeat (first | rw [if_pos (by omega)] | rw [if_neg (by omega)])), rfl⟩
    · skip
      by_cases zq1 : s = 99
      · refine hy_tsw (i := 1) (tt := 4) rfl (by rw [zq1]; rfl) ?_
        refine hy_const (i := 4) rfl (by decide) ?_
        refine hy_ireturn (i := 5) rfl rfl ?_
        exact ⟨congrArg some (by unfold lp_letter; repeat (first | rw [if_pos (by omega)] | rw [if_neg (by omega)])), rfl⟩
      · skip
        by_cases zq1 : s = 100
        · refine hy_tsw (i := 1) (tt := 8) rfl (by rw [zq1]; rfl) ?_
          refine hy_const (i := 8) rfl (by decide) ?_
          refine hy_ireturn (i := 9) rfl rfl ?_
          exact ⟨congrArg some (by unfold lp_letter; repeat (first | rw [if_pos (by omega)] | rw [if_neg (by omega)])), rfl⟩
        · skip
          by_cases zq1 : s = 101
          · refine hy_tsw (i := 1) (tt := 2) rfl (by rw [zq1]; rfl) ?_
            refine hy_const (i := 2) rfl (by decide) ?_
            refine hy_ireturn (i := 3) rfl rfl ?_
            exact ⟨congrArg some (by unfold lp_letter; repeat (first | rw [if_pos (by omega)] | rw [if_neg (by omega)])), rfl⟩
          · skip
            by_cases zq1 : s = 103
            · refine hy_tsw (i := 1) (tt := 18) rfl (by rw [zq1]; rfl) ?_
              refine hy_const (i := 18) rfl (by decide) ?_
              refine hy_ireturn (i := 19) rfl rfl ?_
              exact ⟨congrArg some (by unfold lp_letter; repeat (first | rw [if_pos (by omega)] | rw [if_neg (by omega)])), rfl⟩
            · skip
              by_cases zq1 : s = 109
              · refine hy_tsw (i := 1) (tt := 10) rfl (by rw [zq1]; rfl) ?_
                refine hy_const (i := 10) rfl (by decide) ?_
                refine hy_ireturn (i := 11) rfl rfl ?_
                exact ⟨congrArg some (by unfold lp_letter; repeat (first | rw [if_pos (by omega)] | rw [if_neg (by omega)])), rfl⟩
              · skip
                by_cases zq1 : s = 110
                · refine hy_tsw (i := 1) (tt := 16) rfl (by rw [zq1]; rfl) ?_
                  refine hy_const (i := 16) rfl (by decide) ?_
                  refine hy_ireturn (i := 17) rfl rfl ?_
                  exact ⟨congrArg some (by unfold lp_letter; repeat (first | rw [if_pos (by omega)] | rw [if_neg (by omega)])), rfl⟩
                · skip
                  by_cases zq1 : s = 111
                  · refine hy_tsw (i := 1) (tt := 20) rfl (by rw [zq1]; rfl) ?_
                    refine hy_const (i := 20) rfl (by decide) ?_
                    refine hy_ireturn (i := 21) rfl rfl ?_
                    exact ⟨congrArg some (by unfold lp_letter; repeat (first | rw [if_pos (by omega)] | rw [if_neg (by omega)])), rfl⟩
                  · skip
                    by_cases zq1 : s = 113
                    · refine hy_tsw (i := 1) (tt := 6) rfl (by rw [zq1]; rfl) ?_
                      refine hy_const (i := 6) rfl (by decide) ?_
                      refine hy_ireturn (i := 7) rfl rfl ?_
                      exact ⟨congrArg some (by unfold lp_letter; repeat (first | rw [if_pos (by omega)] | rw [if_neg (by omega)])), rfl⟩
                    · skip
                      refine hy_tsw (i := 1) (tt := 22) rfl (by rcases (show s < 97 ∨ 113 < s ∨ s = 102 ∨ s = 104 ∨ s = 105 ∨ s = 106 ∨ s = 107 ∨ s = 108 ∨ s = 112 by omega) with hh | hh | hh | hh | hh | hh | hh | hh | hh <;> first | (rw [if_pos (by omega)]; rfl) | (rw [hh]; rfl)) ?_
                      refine hy_const (i := 22) rfl (by decide) ?_
                      refine hy_ireturn (i := 23) rfl rfl ?_
                      exact ⟨congrArg some (by unfold lp_letter; repeat (first | rw [if_pos (by omega)] | rw [if_neg (by omega)])), rfl⟩
theorem c_L_emit {op arg : Int} (h : 0 ≤ t 19 3 ∧ t 19 3 ≤ 241) : hy_Ct sc hm_L_emit 0 [.inr (some 19), .inl op, .inl arg] t (hy_e (some (t 19 3)) (lp_emit t op arg)) := by
  refine hy_mk_ct ok_L_emit ck_L_emit (Nat.le_of_ble_eq_true rfl) ?_
  refine hy_aload (i := 0) rfl rfl ?_
  refine hy_get (i := 1) (fk := 3) rfl rfl rfl ?_
  refine hy_istore (i := 2) rfl ?_
  refine hy_iload (i := 3) rfl rfl ?_
  refine hy_aload (i := 4) rfl rfl ?_
  refine hy_getr (i := 5) rfl rfl ?_
  refine hy_alen (i := 6) rfl rfl (by decide) (by decide) ?_
  refine hy_ic_ge (i := 7) (tt := 24) rfl (fun zc1 => ?_) (fun zc1 => ?_)
  · refine hy_iload (i := 24) rfl rfl ?_
    refine hy_ireturn (i := 25) rfl rfl ?_
    refine ⟨rfl, ?_⟩
    unfold lp_emit
    first | (rw [if_pos (by omega)]; done) | (rw [if_pos (by omega)]; rfl) | (rw [if_neg (by omega)]; done)
  · refine hy_aload (i := 8) rfl rfl ?_
    refine hy_getr (i := 9) rfl rfl ?_
    refine hy_iload (i := 10) rfl rfl ?_
    refine hy_iload (i := 11) rfl rfl ?_
    refine hy_iast (i := 12) rfl rfl (by omega) rfl ?_
    refine hy_aload (i := 13) rfl rfl ?_
    refine hy_getr (i := 14) rfl rfl ?_
    refine hy_iload (i := 15) rfl rfl ?_
    refine hy_iload (i := 16) rfl rfl ?_
    refine hy_iast (i := 17) rfl rfl (by omega) rfl ?_
    refine hy_aload (i := 18) rfl rfl ?_
    refine hy_dup (i := 19) rfl ?_
    refine hy_get (i := 20) (fk := 3) rfl rfl rfl ?_
    refine hy_const (i := 21) rfl (by decide) ?_
    rw [show hy_up (hy_up t 20 (t 19 3).toNat op) 21 (t 19 3).toNat arg 19 3 = t 19 3 from rfl]
    refine hy_iadd (i := 22) rfl (by omega) ?_
    refine hy_put (i := 23) (fk := 3) rfl rfl rfl rfl ?_
    refine hy_iload (i := 24) rfl rfl ?_
    refine hy_ireturn (i := 25) rfl rfl ?_
    refine ⟨rfl, ?_⟩
    unfold lp_emit
    first | (rw [if_pos (by omega)]; done) | (rw [if_pos (by omega)]; rfl) | (rw [if_neg (by omega)]; done)
theorem c_L_leadHere {l : Int} : hy_Ct sc hm_L_leadHere 0 [.inr (some 19), .inl l] t (hy_e none (lp_lead t l)) := by
  refine hy_mk_ct ok_L_leadHere ck_L_leadHere (Nat.le_of_ble_eq_true rfl) ?_
  refine hy_iload (i := 0) rfl rfl ?_
  refine hy_if_lt (i := 1) (tt := 13) rfl (fun zc1 => ?_) (fun zc1 => ?_)
  · refine hy_return (i := 13) rfl rfl ?_
    refine ⟨rfl, ?_⟩
    unfold lp_lead
    first | (rw [if_pos (by omega)]; done) | (rw [if_neg (by omega)]; done)
  · refine hy_iload (i := 2) rfl rfl ?_
    refine hy_aload (i := 3) rfl rfl ?_
    refine hy_getr (i := 4) rfl rfl ?_
    refine hy_alen (i := 5) rfl rfl (by decide) (by decide) ?_
    refine hy_ic_ge (i := 6) (tt := 13) rfl (fun zc2 => ?_) (fun zc2 => ?_)
    · refine hy_return (i := 13) rfl rfl ?_
      refine ⟨rfl, ?_⟩
      unfold lp_lead
      first | (rw [if_pos (by omega)]; done) | (rw [if_neg (by omega)]; done)
    · refine hy_aload (i := 7) rfl rfl ?_
      refine hy_getr (i := 8) rfl rfl ?_
      refine hy_iload (i := 9) rfl rfl ?_
      refine hy_aload (i := 10) rfl rfl ?_
      refine hy_get (i := 11) (fk := 3) rfl rfl rfl ?_
      refine hy_iast (i := 12) rfl rfl (by omega) rfl ?_
      refine hy_return (i := 13) rfl rfl ?_
      refine ⟨rfl, ?_⟩
      unfold lp_lead
      first | (rw [if_pos (by omega)]; done) | (rw [if_neg (by omega)]; done)
theorem c_L_copyFrom : hy_Ct sc hm_L_copyFrom 0 [.inr (some 11), .inr (some 19)] t (hy_e none (lp_lawcp t)) := by
  refine hy_mk_ct ok_L_copyFrom ck_L_copyFrom (Nat.le_of_ble_eq_true rfl) ?_
  refine hy_aload (i := 0) rfl rfl ?_
  refine hy_getr (i := 1) rfl rfl ?_
  refine hy_const (i := 2) rfl (by decide) ?_
  refine hy_aload (i := 3) rfl rfl ?_
  refine hy_getr (i := 4) rfl rfl ?_
  refine hy_const (i := 5) rfl (by decide) ?_
  refine hy_aload (i := 6) rfl rfl ?_
  refine hy_getr (i := 7) rfl rfl ?_
  refine hy_alen (i := 8) rfl rfl (by decide) (by decide) ?_
  refine hy_copy (i := 9) rfl (Nat.le_of_ble_eq_true rfl) rfl rfl (by decide) ?_
  refine hy_aload (i := 10) rfl rfl ?_
  refine hy_getr (i := 11) rfl rfl ?_
  refine hy_const (i := 12) rfl (by decide) ?_
  refine hy_aload (i := 13) rfl rfl ?_
  refine hy_getr (i := 14) rfl rfl ?_
  refine hy_const (i := 15) rfl (by decide) ?_
  refine hy_aload (i := 16) rfl rfl ?_
  refine hy_getr (i := 17) rfl rfl ?_
  refine hy_alen (i := 18) rfl rfl (by decide) (by decide) ?_
  refine hy_copy (i := 19) rfl (Nat.le_of_ble_eq_true rfl) rfl rfl (by decide) ?_
  refine hy_aload (i := 20) rfl rfl ?_
  refine hy_getr (i := 21) rfl rfl ?_
  refine hy_const (i := 22) rfl (by decide) ?_
  refine hy_aload (i := 23) rfl rfl ?_
  refine hy_getr (i := 24) rfl rfl ?_
  refine hy_const (i := 25) rfl (by decide) ?_
  refine hy_const (i := 26) rfl (by decide) ?_
  refine hy_copy (i := 27) rfl (Nat.le_of_ble_eq_true rfl) rfl rfl (by decide) ?_
  refine hy_aload (i := 28) rfl rfl ?_
  refine hy_getr (i := 29) rfl rfl ?_
  refine hy_const (i := 30) rfl (by decide) ?_
  refine hy_aload (i := 31) rfl rfl ?_
  refine hy_getr (i := 32) rfl rfl ?_
  refine hy_const (i := 33) rfl (by decide) ?_
  refine hy_const (i := 34) rfl (by decide) ?_
  refine hy_copy (i := 35) rfl (Nat.le_of_ble_eq_true rfl) rfl rfl (by decide) ?_
  refine hy_aload (i := 36) rfl rfl ?_
  refine hy_getr (i := 37) rfl rfl ?_
  refine hy_const (i := 38) rfl (by decide) ?_
  refine hy_aload (i := 39) rfl rfl ?_
  refine hy_getr (i := 40) rfl rfl ?_
  refine hy_const (i := 41) rfl (by decide) ?_
  refine hy_const (i := 42) rfl (by decide) ?_
  refine hy_copy (i := 43) rfl (Nat.le_of_ble_eq_true rfl) rfl rfl (by decide) ?_
  refine hy_aload (i := 44) rfl rfl ?_
  refine hy_aload (i := 45) rfl rfl ?_
  refine hy_get (i := 46) (fk := 3) rfl rfl rfl ?_
  refine hy_put (i := 47) (fk := 3) rfl rfl rfl rfl ?_
  refine hy_aload (i := 48) rfl rfl ?_
  refine hy_aload (i := 49) rfl rfl ?_
  refine hy_get (i := 50) (fk := 7) rfl rfl rfl ?_
  refine hy_put (i := 51) (fk := 7) rfl rfl rfl rfl ?_
  refine hy_return (i := 52) rfl rfl ?_
  exact ⟨rfl, rfl⟩
end LP
