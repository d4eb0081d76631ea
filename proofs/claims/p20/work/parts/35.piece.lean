/-! the class's law: a piece, and the whole of a condition at every depth -/
abbrev rp_cmp (s : Int) : Prop := s = 60 ∨ s = 62 ∨ s = 61
def rp_piece (S : hy_T → hy_T) (N : Option ((hy_T → hy_T) × (hy_T → hy_T))) (t : hy_T) : hy_T :=
  if tp_next t = 33 ∨ tp_next t = 40 then (match N with
    | none => tp_fail t 5 (t 3 3)
    | some (P, E) => if tp_next t = 33 then lp_emit (P (tp_step t)) 33 0 else tp_take (E (tp_step t)) 41)
  else if rp_cmp (tp_next (S t)) then lp_emit (S (tp_step (S t))) (tp_next (S t)) 0 else tp_fail (S t) 1 (S t 3 3)
theorem rp_piece_s {S : hy_T → hy_T} (hS : rx_good S) {N : Option ((hy_T → hy_T) × (hy_T → hy_T))} (hN : ∀ P E, N = some (P, E) → rx_good P ∧ rx_good E) : rx_good (rp_piece S N) := fun t h => by
  unfold rp_piece
  split
  · split
    · exact lp_fail_s h _ _
    · next _ P E =>
      have h2 := rx_step_ok h (show 0 ≤ tp_next t by omega)
      obtain ⟨a1, a2⟩ := (hN P E rfl).1 _ h2
      obtain ⟨b1, b2⟩ := (hN P E rfl).2 _ h2
      split
      · obtain ⟨c1, c2⟩ := lp_emit_s a1 33 0
        exact ⟨c1, ((lpX_tp (tp_step_F t)).tr' a2).tr' c2⟩
      · obtain ⟨c1, c2⟩ := lp_take_s b1 (s := 41) (by decide)
        exact ⟨c1, ((lpX_tp (tp_step_F t)).tr' b2).tr' c2⟩
  · obtain ⟨a1, a2⟩ := hS _ h
    split
    · obtain ⟨b1, b2⟩ := hS _ (rx_step_ok a1 (show 0 ≤ tp_next (S t) by omega))
      obtain ⟨c1, c2⟩ := lp_emit_s b1 (tp_next (S t)) 0
      exact ⟨c1, ((a2.tr' (lpX_tp (tp_step_F (S t)))).tr' b2).tr' c2⟩
    · obtain ⟨c1, c2⟩ := lp_fail_s a1 1 (S t 3 3)
      exact ⟨c1, a2.tr' c2⟩
def rp_lev : Nat → hy_T → hy_T
  | 0 => rp_piece (rx_sumL 0) none
  | n + 1 => rp_piece (rx_sumL (n + 1)) (some (rp_lev n, rb_both 124 (rb_both 38 (rp_lev n))))
abbrev rp_either (n : Nat) : hy_T → hy_T := rb_both 124 (rb_both 38 (rp_lev n))
theorem rp_lev_s : ∀ n, rx_good (rp_lev n)
  | 0 => rp_piece_s (rx_sumL_s 0) (fun P E h => by cases h)
  | n + 1 => rp_piece_s (rx_sumL_s (n + 1)) (fun P E h => by cases h; exact ⟨rp_lev_s n, rb_both_s (by decide) (rb_both_s (by decide) (rp_lev_s n))⟩)
theorem rp_either_s (n : Nat) : rx_good (rp_either n) := rb_both_s (by decide) (rb_both_s (by decide) (rp_lev_s n))
section RPI
variable {sc : List Int32} {t : hy_T}
theorem c_L_readPiece {S : hy_T → hy_T} {N : Option ((hy_T → hy_T) × (hy_T → hy_T))} {d0 dS d : Nat} {o : Int} (hd2 : 2 < d) (hdS : dS < d) (hS : rx_good S) (hcS : ∀ t1 : hy_T, lp_ok t1 → hy_Ct sc hm_L_readSum dS [.inr (some 19), .inl o] t1 (hy_e none (S t1)))
    (h6 : o = 6 → N = none) (ho : 0 ≤ o ∧ o ≤ 6) (hN : o < 6 → ∃ P E, N = some (P, E) ∧ rx_good P ∧ rx_good E ∧ d0 + 2 < d ∧ (∀ t1 : hy_T, lp_ok t1 → hy_Ct sc hm_L_readPiece d0 [.inr (some 19), .inl (o + 1)] t1 (hy_e none (P t1))) ∧ (∀ t1 : hy_T, lp_ok t1 → hy_Ct sc hm_L_readEither (d0 + 2) [.inr (some 19), .inl (o + 1)] t1 (hy_e none (E t1))))
    (h : lp_ok t) : hy_Ct sc hm_L_readPiece d [.inr (some 19), .inl o] t (hy_e none (rp_piece S N t)) := by
  refine hy_mk_ct ok_L_readPiece ck_L_readPiece (Nat.le_of_ble_eq_true rfl) ?_
  by_cases q1 : tp_next t = 33 ∨ tp_next t = 40
  · by_cases q3 : o = 6
    · have e : rp_piece S N t = tp_fail t 5 (t 3 3) := by unfold rp_piece; rw [if_pos q1, h6 q3]
      rw [e]
      refine hy_aload (i := 0) rfl rfl ?_
      refine hy_getr (i := 1) rfl rfl ?_
      refine hy_cV0e (i := 2) rfl mj_T_next (by omega) rfl (Nat.le_of_ble_eq_true rfl) rfl rfl rfl (c_T_next (tp_ok.e (And.left (show lp_ok _ by assumption)))) ?_
      refine hy_istore (i := 3) rfl ?_
      refine hy_iload (i := 4) rfl rfl ?_
      refine hy_const (i := 5) rfl (by decide) ?_
      refine hy_ic_eq (i := 6) (tt := 10) rfl (fun zc1 => ?_) (fun zc1 => ?_)
      · refine hy_iload (i := 10) rfl rfl ?_
        refine hy_const (i := 11) rfl (by decide) ?_
        refine hy_ic_lt (i := 12) (tt := 18) rfl (fun zc2 => ?_) (fun zc2 => ?_)
        · omega
        · refine hy_aload (i := 13) rfl rfl ?_
          refine hy_getr (i := 14) rfl rfl ?_
          refine hy_const (i := 15) rfl (by decide) ?_
          refine hy_cV1v (i := 16) rfl mj_T_fail (by omega) rfl (Nat.le_of_ble_eq_true rfl) rfl rfl rfl (c_T_fail (by decide) (by have := tp_ok.p (And.left (show lp_ok _ by assumption)); omega)) ?_
          refine hy_return (i := 17) rfl rfl ?_
          exact ⟨rfl, rfl⟩
      · refine hy_iload (i := 7) rfl rfl ?_
        refine hy_const (i := 8) rfl (by decide) ?_
        refine hy_ic_ne (i := 9) (tt := 45) rfl (fun zc2 => ?_) (fun zc2 => ?_)
        · omega
        · refine hy_iload (i := 10) rfl rfl ?_
          refine hy_const (i := 11) rfl (by decide) ?_
          refine hy_ic_lt (i := 12) (tt := 18) rfl (fun zc3 => ?_) (fun zc3 => ?_)
          · omega
          · refine hy_aload (i := 13) rfl rfl ?_
            refine hy_getr (i := 14) rfl rfl ?_
            refine hy_const (i := 15) rfl (by decide) ?_
            refine hy_cV1v (i := 16) rfl mj_T_fail (by omega) rfl (Nat.le_of_ble_eq_true rfl) rfl rfl rfl (c_T_fail (by decide) (by have := tp_ok.p (And.left (show lp_ok _ by assumption)); omega)) ?_
            refine hy_return (i := 17) rfl rfl ?_
            exact ⟨rfl, rfl⟩
    · obtain ⟨P, E, hPE, hP, hE, hdd, hcP, hcE⟩ := hN (by omega)
      have h2 := rx_step_ok h (show 0 ≤ tp_next t by omega)
      by_cases q2 : tp_next t = 33
      · have e : rp_piece S N t = lp_emit (P (tp_step t)) 33 0 := by unfold rp_piece; rw [if_pos q1, hPE]; exact if_pos q2
        rw [e]
        have h3 := (hP _ h2).1
        refine hy_aload (i := 0) rfl rfl ?_
        refine hy_getr (i := 1) rfl rfl ?_
        refine hy_cV0e (i := 2) rfl mj_T_next (by omega) rfl (Nat.le_of_ble_eq_true rfl) rfl rfl rfl (c_T_next (tp_ok.e (And.left (show lp_ok _ by assumption)))) ?_
        refine hy_istore (i := 3) rfl ?_
        refine hy_iload (i := 4) rfl rfl ?_
        refine hy_const (i := 5) rfl (by decide) ?_
        refine hy_ic_eq (i := 6) (tt := 10) rfl (fun zc1 => ?_) (fun zc1 => ?_)
        · refine hy_iload (i := 10) rfl rfl ?_
          refine hy_const (i := 11) rfl (by decide) ?_
          refine hy_ic_lt (i := 12) (tt := 18) rfl (fun zc2 => ?_) (fun zc2 => ?_)
          · refine hy_aload (i := 18) rfl rfl ?_
            refine hy_getr (i := 19) rfl rfl ?_
            refine hy_cV0v (i := 20) rfl mj_T_step (by omega) rfl (Nat.le_of_ble_eq_true rfl) rfl rfl rfl (c_T_step (by have := tp_ok.p (And.left (show lp_ok _ by assumption)); omega)) ?_
            refine hy_iload (i := 21) rfl rfl ?_
            refine hy_const (i := 22) rfl (by decide) ?_
            refine hy_ic_ne (i := 23) (tt := 35) rfl (fun zc3 => ?_) (fun zc3 => ?_)
            · omega
            · refine hy_aload (i := 24) rfl rfl ?_
              refine hy_iload (i := 25) rfl rfl ?_
              refine hy_const (i := 26) rfl (by decide) ?_
              refine hy_iadd (i := 27) rfl (by omega) ?_
              refine hy_cV1v (i := 28) rfl mj_L_readPiece (by omega) rfl (Nat.le_of_ble_eq_true rfl) rfl rfl rfl (hcP _ h2) ?_
              refine hy_aload (i := 29) rfl rfl ?_
              refine hy_const (i := 30) rfl (by decide) ?_
              refine hy_const (i := 31) rfl (by decide) ?_
              refine hy_cV2e (i := 32) rfl mj_L_emit (by omega) rfl (Nat.le_of_ble_eq_true rfl) rfl rfl rfl (c_L_emit h3.2.1) ?_
              refine hy_pop (i := 33) rfl ?_
              refine hy_goto (i := 34) (tt := 44) rfl ?_
              refine hy_return (i := 44) rfl rfl ?_
              exact ⟨rfl, rfl⟩
          · omega
        · omega
      · have e : rp_piece S N t = tp_take (E (tp_step t)) 41 := by unfold rp_piece; rw [if_pos q1, hPE]; exact if_neg q2
        rw [e]
        have h3 := (hE _ h2).1
        refine hy_aload (i := 0) rfl rfl ?_
        refine hy_getr (i := 1) rfl rfl ?_
        refine hy_cV0e (i := 2) rfl mj_T_next (by omega) rfl (Nat.le_of_ble_eq_true rfl) rfl rfl rfl (c_T_next (tp_ok.e (And.left (show lp_ok _ by assumption)))) ?_
        refine hy_istore (i := 3) rfl ?_
        refine hy_iload (i := 4) rfl rfl ?_
        refine hy_const (i := 5) rfl (by decide) ?_
        refine hy_ic_eq (i := 6) (tt := 10) rfl (fun zc1 => ?_) (fun zc1 => ?_)
        · omega
        · refine hy_iload (i := 7) rfl rfl ?_
          refine hy_const (i := 8) rfl (by decide) ?_
          refine hy_ic_ne (i := 9) (tt := 45) rfl (fun zc2 => ?_) (fun zc2 => ?_)
          · omega
          · refine hy_iload (i := 10) rfl rfl ?_
            refine hy_const (i := 11) rfl (by decide) ?_
            refine hy_ic_lt (i := 12) (tt := 18) rfl (fun zc3 => ?_) (fun zc3 => ?_)
            · refine hy_aload (i := 18) rfl rfl ?_
              refine hy_getr (i := 19) rfl rfl ?_
              refine hy_cV0v (i := 20) rfl mj_T_step (by omega) rfl (Nat.le_of_ble_eq_true rfl) rfl rfl rfl (c_T_step (by have := tp_ok.p (And.left (show lp_ok _ by assumption)); omega)) ?_
              refine hy_iload (i := 21) rfl rfl ?_
              refine hy_const (i := 22) rfl (by decide) ?_
              refine hy_ic_ne (i := 23) (tt := 35) rfl (fun zc4 => ?_) (fun zc4 => ?_)
              · refine hy_aload (i := 35) rfl rfl ?_
                refine hy_iload (i := 36) rfl rfl ?_
                refine hy_const (i := 37) rfl (by decide) ?_
                refine hy_iadd (i := 38) rfl (by omega) ?_
                refine hy_cV1v (i := 39) rfl mj_L_readEither (by omega) rfl (Nat.le_of_ble_eq_true rfl) rfl rfl rfl (hcE _ h2) ?_
                refine hy_aload (i := 40) rfl rfl ?_
                refine hy_getr (i := 41) rfl rfl ?_
                refine hy_const (i := 42) rfl (by decide) ?_
                refine hy_cV1v (i := 43) rfl mj_T_take (by omega) rfl (Nat.le_of_ble_eq_true rfl) rfl rfl rfl (c_T_take h3.1.e (tp_ok_pq h3.1)) ?_
                refine hy_return (i := 44) rfl rfl ?_
                exact ⟨rfl, rfl⟩
              · omega
            · omega
  · have h2 := (hS _ h).1
    by_cases q2 : rp_cmp (tp_next (S t))
    · have e : rp_piece S N t = lp_emit (S (tp_step (S t))) (tp_next (S t)) 0 := by unfold rp_piece; rw [if_neg q1, if_pos q2]
      rw [e]
      have h3 := rx_step_ok h2 (show 0 ≤ tp_next (S t) by omega)
      have h4 := (hS _ h3).1
      refine hy_aload (i := 0) rfl rfl ?_
      refine hy_getr (i := 1) rfl rfl ?_
      refine hy_cV0e (i := 2) rfl mj_T_next (by omega) rfl (Nat.le_of_ble_eq_true rfl) rfl rfl rfl (c_T_next (tp_ok.e (And.left (show lp_ok _ by assumption)))) ?_
      refine hy_istore (i := 3) rfl ?_
      refine hy_iload (i := 4) rfl rfl ?_
      refine hy_const (i := 5) rfl (by decide) ?_
      refine hy_ic_eq (i := 6) (tt := 10) rfl (fun zc1 => ?_) (fun zc1 => ?_)
      · omega
      · refine hy_iload (i := 7) rfl rfl ?_
        refine hy_const (i := 8) rfl (by decide) ?_
        refine hy_ic_ne (i := 9) (tt := 45) rfl (fun zc2 => ?_) (fun zc2 => ?_)
        · refine hy_aload (i := 45) rfl rfl ?_
          refine hy_iload (i := 46) rfl rfl ?_
          refine hy_cV1v (i := 47) rfl mj_L_readSum (by omega) rfl (Nat.le_of_ble_eq_true rfl) rfl rfl rfl (hcS _ h) ?_
          refine hy_aload (i := 48) rfl rfl ?_
          refine hy_getr (i := 49) rfl rfl ?_
          refine hy_cV0e (i := 50) rfl mj_T_next (by omega) rfl (Nat.le_of_ble_eq_true rfl) rfl rfl rfl (c_T_next (tp_ok.e (And.left (show lp_ok _ by assumption)))) ?_
          refine hy_istore (i := 51) rfl ?_
          refine hy_iload (i := 52) rfl rfl ?_
          refine hy_const (i := 53) rfl (by decide) ?_
          refine hy_ic_eq (i := 54) (tt := 66) rfl (fun zc3 => ?_) (fun zc3 => ?_)
          · refine hy_aload (i := 66) rfl rfl ?_
            refine hy_getr (i := 67) rfl rfl ?_
            refine hy_cV0v (i := 68) rfl mj_T_step (by omega) rfl (Nat.le_of_ble_eq_true rfl) rfl rfl rfl (c_T_step (by have := tp_ok.p (And.left (show lp_ok _ by assumption)); omega)) ?_
            refine hy_aload (i := 69) rfl rfl ?_
            refine hy_iload (i := 70) rfl rfl ?_
            refine hy_cV1v (i := 71) rfl mj_L_readSum (by omega) rfl (Nat.le_of_ble_eq_true rfl) rfl rfl rfl (hcS _ h3) ?_
            refine hy_aload (i := 72) rfl rfl ?_
            refine hy_iload (i := 73) rfl rfl ?_
            refine hy_const (i := 74) rfl (by decide) ?_
            refine hy_cV2e (i := 75) rfl mj_L_emit (by omega) rfl (Nat.le_of_ble_eq_true rfl) rfl rfl rfl (c_L_emit h4.2.1) ?_
            refine hy_pop (i := 76) rfl ?_
            refine hy_return (i := 77) rfl rfl ?_
            exact ⟨rfl, rfl⟩
          · refine hy_iload (i := 55) rfl rfl ?_
            refine hy_const (i := 56) rfl (by decide) ?_
            refine hy_ic_eq (i := 57) (tt := 66) rfl (fun zc4 => ?_) (fun zc4 => ?_)
            · refine hy_aload (i := 66) rfl rfl ?_
              refine hy_getr (i := 67) rfl rfl ?_
              refine hy_cV0v (i := 68) rfl mj_T_step (by omega) rfl (Nat.le_of_ble_eq_true rfl) rfl rfl rfl (c_T_step (by have := tp_ok.p (And.left (show lp_ok _ by assumption)); omega)) ?_
              refine hy_aload (i := 69) rfl rfl ?_
              refine hy_iload (i := 70) rfl rfl ?_
              refine hy_cV1v (i := 71) rfl mj_L_readSum (by omega) rfl (Nat.le_of_ble_eq_true rfl) rfl rfl rfl (hcS _ h3) ?_
              refine hy_aload (i := 72) rfl rfl ?_
              refine hy_iload (i := 73) rfl rfl ?_
              refine hy_const (i := 74) rfl (by decide) ?_
              refine hy_cV2e (i := 75) rfl mj_L_emit (by omega) rfl (Nat.le_of_ble_eq_true rfl) rfl rfl rfl (c_L_emit h4.2.1) ?_
              refine hy_pop (i := 76) rfl ?_
              refine hy_return (i := 77) rfl rfl ?_
              exact ⟨rfl, rfl⟩
            · refine hy_iload (i := 58) rfl rfl ?_
              refine hy_const (i := 59) rfl (by decide) ?_
              refine hy_ic_eq (i := 60) (tt := 66) rfl (fun zc5 => ?_) (fun zc5 => ?_)
              · refine hy_aload (i := 66) rfl rfl ?_
                refine hy_getr (i := 67) rfl rfl ?_
                refine hy_cV0v (i := 68) rfl mj_T_step (by omega) rfl (Nat.le_of_ble_eq_true rfl) rfl rfl rfl (c_T_step (by have := tp_ok.p (And.left (show lp_ok _ by assumption)); omega)) ?_
                refine hy_aload (i := 69) rfl rfl ?_
                refine hy_iload (i := 70) rfl rfl ?_
                refine hy_cV1v (i := 71) rfl mj_L_readSum (by omega) rfl (Nat.le_of_ble_eq_true rfl) rfl rfl rfl (hcS _ h3) ?_
                refine hy_aload (i := 72) rfl rfl ?_
                refine hy_iload (i := 73) rfl rfl ?_
                refine hy_const (i := 74) rfl (by decide) ?_
                refine hy_cV2e (i := 75) rfl mj_L_emit (by omega) rfl (Nat.le_of_ble_eq_true rfl) rfl rfl rfl (c_L_emit h4.2.1) ?_
                refine hy_pop (i := 76) rfl ?_
                refine hy_return (i := 77) rfl rfl ?_
                exact ⟨rfl, rfl⟩
              · omega
        · omega
    · have e : rp_piece S N t = tp_fail (S t) 1 (S t 3 3) := by unfold rp_piece; rw [if_neg q1, if_neg q2]
      rw [e]
      refine hy_aload (i := 0) rfl rfl ?_
      refine hy_getr (i := 1) rfl rfl ?_
      refine hy_cV0e (i := 2) rfl mj_T_next (by omega) rfl (Nat.le_of_ble_eq_true rfl) rfl rfl rfl (c_T_next (tp_ok.e (And.left (show lp_ok _ by assumption)))) ?_
      refine hy_istore (i := 3) rfl ?_
      refine hy_iload (i := 4) rfl rfl ?_
      refine hy_const (i := 5) rfl (by decide) ?_
      refine hy_ic_eq (i := 6) (tt := 10) rfl (fun zc1 => ?_) (fun zc1 => ?_)
      · omega
      · refine hy_iload (i := 7) rfl rfl ?_
        refine hy_const (i := 8) rfl (by decide) ?_
        refine hy_ic_ne (i := 9) (tt := 45) rfl (fun zc2 => ?_) (fun zc2 => ?_)
        · refine hy_aload (i := 45) rfl rfl ?_
          refine hy_iload (i := 46) rfl rfl ?_
          refine hy_cV1v (i := 47) rfl mj_L_readSum (by omega) rfl (Nat.le_of_ble_eq_true rfl) rfl rfl rfl (hcS _ h) ?_
          refine hy_aload (i := 48) rfl rfl ?_
          refine hy_getr (i := 49) rfl rfl ?_
          refine hy_cV0e (i := 50) rfl mj_T_next (by omega) rfl (Nat.le_of_ble_eq_true rfl) rfl rfl rfl (c_T_next (tp_ok.e (And.left (show lp_ok _ by assumption)))) ?_
          refine hy_istore (i := 51) rfl ?_
          refine hy_iload (i := 52) rfl rfl ?_
          refine hy_const (i := 53) rfl (by decide) ?_
          refine hy_ic_eq (i := 54) (tt := 66) rfl (fun zc3 => ?_) (fun zc3 => ?_)
          · omega
          · refine hy_iload (i := 55) rfl rfl ?_
            refine hy_const (i := 56) rfl (by decide) ?_
            refine hy_ic_eq (i := 57) (tt := 66) rfl (fun zc4 => ?_) (fun zc4 => ?_)
            · omega
            · refine hy_iload (i := 58) rfl rfl ?_
              refine hy_const (i := 59) rfl (by decide) ?_
              refine hy_ic_eq (i := 60) (tt := 66) rfl (fun zc5 => ?_) (fun zc5 => ?_)
              · omega
              · refine hy_aload (i := 61) rfl rfl ?_
                refine hy_getr (i := 62) rfl rfl ?_
                refine hy_const (i := 63) rfl (by decide) ?_
                refine hy_cV1v (i := 64) rfl mj_T_fail (by omega) rfl (Nat.le_of_ble_eq_true rfl) rfl rfl rfl (c_T_fail (by decide) (by have := tp_ok.p (And.left (show lp_ok _ by assumption)); omega)) ?_
                refine hy_return (i := 65) rfl rfl ?_
                exact ⟨rfl, rfl⟩
        · omega
theorem c_L_lev : ∀ (n : Nat) {d : Nat} {o : Int} {t : hy_T}, n ≤ 6 → o = 6 - n → d = 3 * n + 24 → lp_ok t → hy_Ct sc hm_L_readPiece d [.inr (some 19), .inl o] t (hy_e none (rp_lev n t))
  | 0, d, o, t, hn, ho, hd, h =>
    c_L_readPiece (d0 := 0) (dS := 5) (by omega) (by omega) (rx_sumL_s 0) (fun t1 h1 => c_L_sumL 0 (by omega) (by omega) rfl h1) (fun _ => rfl) (by omega) (fun q => by omega) h
  | n + 1, d, o, t, hn, ho, hd, h =>
    have cp : ∀ t1 : hy_T, lp_ok t1 → hy_Ct sc hm_L_readPiece (3 * n + 24) [.inr (some 19), .inl (o + 1)] t1 (hy_e none (rp_lev n t1)) := fun t1 h1 => c_L_lev n (by omega) (by omega) rfl h1
    c_L_readPiece (d0 := 3 * n + 24) (dS := 3 * (n + 1) + 5) (by omega) (by omega) (rx_sumL_s (n + 1)) (fun t1 h1 => c_L_sumL (n + 1) (by omega) (by omega) rfl h1) (fun q => by omega) (by omega)
      (fun q => ⟨_, _, rfl, rp_lev_s n, rp_either_s n, by omega, cp, fun t1 h1 =>
        c_L_readEither (d0 := 3 * n + 25) (by omega) (by omega) (rb_both_s (by decide) (rp_lev_s n)) (fun t2 h2 =>
          c_L_readBoth (d0 := 3 * n + 24) (by omega) (by omega) (rp_lev_s n) cp h2) h1⟩) h
theorem c_L_eitherAt {n : Nat} {o : Int} (hn : n ≤ 6) (ho : o = 6 - n) (h : lp_ok t) : hy_Ct sc hm_L_readEither (3 * n + 26) [.inr (some 19), .inl o] t (hy_e none (rp_either n t)) :=
  c_L_readEither (d0 := 3 * n + 25) (by omega) (by omega) (rb_both_s (by decide) (rp_lev_s n)) (fun t2 h2 =>
    c_L_readBoth (d0 := 3 * n + 24) (by omega) (by omega) (rp_lev_s n) (fun t1 h1 => c_L_lev n hn ho rfl h1) h2) h
end RPI
