/-! the class's law: a factor, and sums at all depths -/
theorem tp_ok_pq {t : hy_T} (h : tp_ok t) : -1 ≤ t 3 3 ∧ t 3 3 ≤ 1000 := by have := h.p; omega
theorem lp_fail_s {t : hy_T} (h : lp_ok t) (n w : Int) : lp_ok (tp_fail t n w) ∧ hy_F lpX t (tp_fail t n w) :=
  ⟨lp_ok_tp (tp_fail_G t n w) h (tp_fail_ok h.1 n w), lpX_tp (tp_fail_G t n w)⟩
theorem lp_take_s {t : hy_T} (h : lp_ok t) {s : Int} (hs : 0 ≤ s) : lp_ok (tp_take t s) ∧ hy_F lpX t (tp_take t s) :=
  ⟨lp_ok_tp (tp_take_F t s) h (tp_take_ok h.1 hs), lpX_tp (tp_take_F t s)⟩
theorem lp_letter_p {s : Int} (h : ¬ lp_letter s < 0) : 0 ≤ s := by
  unfold lp_letter at h
  repeat (split at h; omega)
  omega
theorem rx_factor_s {S : Option (hy_T → hy_T)} (hS : ∀ F, S = some F → rx_good F) : rx_good (rx_factor S) := fun t h => by
  unfold rx_factor
  split
  · exact rn_num_s h
  · split
    · split
      · exact lp_fail_s h _ _
      · next _ F =>
        obtain ⟨a1, a2⟩ := hS F rfl _ (rx_step_ok h (by omega))
        obtain ⟨b1, b2⟩ := lp_take_s a1 (s := 93) (by decide)
        exact ⟨b1, ((lpX_tp (tp_step_F t)).tr' a2).tr' b2⟩
    · split
      · exact lp_fail_s h _ _
      · next hl =>
        obtain ⟨b1, b2⟩ := lp_emit_s (rx_step_ok h (lp_letter_p hl)) 97 (lp_letter (tp_next t))
        exact ⟨b1, (lpX_tp (tp_step_F t)).tr' b2⟩
def rx_sumL : Nat → hy_T → hy_T
  | 0 => rx_sum (rx_product (rx_factor none))
  | n + 1 => rx_sum (rx_product (rx_factor (some (rx_sumL n))))
theorem rx_sumL_s : ∀ n, rx_good (rx_sumL n)
  | 0 => rx_sum_s (rx_product_s (rx_factor_s (fun F h => by cases h)))
  | n + 1 => rx_sum_s (rx_product_s (rx_factor_s (fun F h => by cases h; exact rx_sumL_s n)))
section FX
variable {sc : List Int32} {t : hy_T}
theorem c_L_readFactor {S : Option (hy_T → hy_T)} {d0 d : Nat} {o : Int} (hd : d0 < d) (hd2 : 2 < d) (h6 : o = 6 → S = none) (ho : 0 ≤ o ∧ o ≤ 6) (hS : o < 6 → ∃ F, S = some F ∧ rx_good F ∧ ∀ t1 : hy_T, lp_ok t1 → hy_Ct sc hm_L_readSum d0 [.inr (some 19), .inl (o + 1)] t1 (hy_e none (F t1))) (h : lp_ok t) : hy_Ct sc hm_L_readFactor d [.inr (some 19), .inl o] t (hy_e none (rx_factor S t)) := by
  refine hy_mk_ct ok_L_readFactor ck_L_readFactor (Nat.le_of_ble_eq_true rfl) ?_
  by_cases q1 : 48 ≤ tp_next t ∧ tp_next t ≤ 57
  · have e : rx_factor S t = rn_num t := by unfold rx_factor; rw [if_pos q1]
    rw [e]
    refine hy_aload (i := 0) rfl rfl ?_
    refine hy_getr (i := 1) rfl rfl ?_
    refine hy_cV0e (i := 2) rfl mj_T_next (by omega) rfl (Nat.le_of_ble_eq_true rfl) rfl rfl rfl (c_T_next (tp_ok.e (And.left (show lp_ok _ by assumption)))) ?_
    refine hy_istore (i := 3) rfl ?_
    refine hy_iload (i := 4) rfl rfl ?_
    refine hy_cS1e (i := 5) rfl (by decide) mj_W_isDigit (by omega) rfl (Nat.le_of_ble_eq_true rfl) (c_W_isDigit) ?_
    refine hy_ib_eq (i := 6) (tt := 10) rfl (fun zc1 => ?_) (fun zc1 => ?_)
    · simp at zc1; omega
    · refine hy_aload (i := 7) rfl rfl ?_
      refine hy_cV0v (i := 8) rfl mj_L_readNumber (by omega) rfl (Nat.le_of_ble_eq_true rfl) rfl rfl rfl (c_L_readNumber (by assumption)) ?_
      refine hy_return (i := 9) rfl rfl ?_
      exact ⟨rfl, rfl⟩
  · by_cases q2 : tp_next t = 91
    · by_cases q3 : o = 6
      · have e : rx_factor S t = tp_fail t 5 (t 3 3) := by unfold rx_factor; rw [if_neg q1, if_pos q2, h6 q3]
        rw [e]
        refine hy_aload (i := 0) rfl rfl ?_
        refine hy_getr (i := 1) rfl rfl ?_
        refine hy_cV0e (i := 2) rfl mj_T_next (by omega) rfl (Nat.le_of_ble_eq_true rfl) rfl rfl rfl (c_T_next (tp_ok.e (And.left (show lp_ok _ by assumption)))) ?_
        refine hy_istore (i := 3) rfl ?_
        refine hy_iload (i := 4) rfl rfl ?_
        refine hy_cS1e (i := 5) rfl (by decide) mj_W_isDigit (by omega) rfl (Nat.le_of_ble_eq_true rfl) (c_W_isDigit) ?_
        refine hy_ib_eq (i := 6) (tt := 10) rfl (fun zc1 => ?_) (fun zc1 => ?_)
        · refine hy_iload (i := 10) rfl rfl ?_
          refine hy_const (i := 11) rfl (by decide) ?_
          refine hy_ic_ne (i := 12) (tt := 34) rfl (fun zc2 => ?_) (fun zc2 => ?_)
          · omega
          · refine hy_iload (i := 13) rfl rfl ?_
            refine hy_const (i := 14) rfl (by decide) ?_
            refine hy_ic_lt (i := 15) (tt := 21) rfl (fun zc3 => ?_) (fun zc3 => ?_)
            · omega
            · refine hy_aload (i := 16) rfl rfl ?_
              refine hy_getr (i := 17) rfl rfl ?_
              refine hy_const (i := 18) rfl (by decide) ?_
              refine hy_cV1v (i := 19) rfl mj_T_fail (by omega) rfl (Nat.le_of_ble_eq_true rfl) rfl rfl rfl (c_T_fail (by decide) (by have := tp_ok.p (And.left (show lp_ok _ by assumption)); omega)) ?_
              refine hy_return (i := 20) rfl rfl ?_
              exact ⟨rfl, rfl⟩
        · simp at zc1; omega
      · obtain ⟨F, hF, hg, hc⟩ := hS (by omega)
        have e : rx_factor S t = tp_take (F (tp_step t)) 93 := by unfold rx_factor; rw [if_neg q1, if_pos q2, hF]
        rw [e]
        have h2 := rx_step_ok h (show 0 ≤ tp_next t by omega)
        have h3 := (hg _ h2).1
        refine hy_aload (i := 0) rfl rfl ?_
        refine hy_getr (i := 1) rfl rfl ?_
        refine hy_cV0e (i := 2) rfl mj_T_next (by omega) rfl (Nat.le_of_ble_eq_true rfl) rfl rfl rfl (c_T_next (tp_ok.e (And.left (show lp_ok _ by assumption)))) ?_
        refine hy_istore (i := 3) rfl ?_
        refine hy_iload (i := 4) rfl rfl ?_
        refine hy_cS1e (i := 5) rfl (by decide) mj_W_isDigit (by omega) rfl (Nat.le_of_ble_eq_true rfl) (c_W_isDigit) ?_
        refine hy_ib_eq (i := 6) (tt := 10) rfl (fun zc1 => ?_) (fun zc1 => ?_)
        · refine hy_iload (i := 10) rfl rfl ?_
          refine hy_const (i := 11) rfl (by decide) ?_
          refine hy_ic_ne (i := 12) (tt := 34) rfl (fun zc2 => ?_) (fun zc2 => ?_)
          · omega
          · refine hy_iload (i := 13) rfl rfl ?_
            refine hy_const (i := 14) rfl (by decide) ?_
            refine hy_ic_lt (i := 15) (tt := 21) rfl (fun zc3 => ?_) (fun zc3 => ?_)
            · refine hy_aload (i := 21) rfl rfl ?_
              refine hy_getr (i := 22) rfl rfl ?_
              refine hy_cV0v (i := 23) rfl mj_T_step (by omega) rfl (Nat.le_of_ble_eq_true rfl) rfl rfl rfl (c_T_step (by have := tp_ok.p (And.left (show lp_ok _ by assumption)); omega)) ?_
              refine hy_aload (i := 24) rfl rfl ?_
              refine hy_iload (i := 25) rfl rfl ?_
              refine hy_const (i := 26) rfl (by decide) ?_
              refine hy_iadd (i := 27) rfl (by omega) ?_
              refine hy_cV1v (i := 28) rfl mj_L_readSum (by omega) rfl (Nat.le_of_ble_eq_true rfl) rfl rfl rfl (hc _ h2) ?_
              refine hy_aload (i := 29) rfl rfl ?_
              refine hy_getr (i := 30) rfl rfl ?_
              refine hy_const (i := 31) rfl (by decide) ?_
              refine hy_cV1v (i := 32) rfl mj_T_take (by omega) rfl (Nat.le_of_ble_eq_true rfl) rfl rfl rfl (c_T_take h3.1.e (tp_ok_pq h3.1)) ?_
              refine hy_return (i := 33) rfl rfl ?_
              exact ⟨rfl, rfl⟩
            · omega
        · simp at zc1; omega
    · by_cases q3 : lp_letter (tp_next t) < 0
      · have e : rx_factor S t = tp_fail t 1 (t 3 3) := by unfold rx_factor; rw [if_neg q1, if_neg q2, if_pos q3]
        rw [e]
        refine hy_aload (i := 0) rfl rfl ?_
        refine hy_getr (i := 1) rfl rfl ?_
        refine hy_cV0e (i := 2) rfl mj_T_next (by omega) rfl (Nat.le_of_ble_eq_true rfl) rfl rfl rfl (c_T_next (tp_ok.e (And.left (show lp_ok _ by assumption)))) ?_
        refine hy_istore (i := 3) rfl ?_
        refine hy_iload (i := 4) rfl rfl ?_
        refine hy_cS1e (i := 5) rfl (by decide) mj_W_isDigit (by omega) rfl (Nat.le_of_ble_eq_true rfl) (c_W_isDigit) ?_
        refine hy_ib_eq (i := 6) (tt := 10) rfl (fun zc1 => ?_) (fun zc1 => ?_)
        · refine hy_iload (i := 10) rfl rfl ?_
          refine hy_const (i := 11) rfl (by decide) ?_
          refine hy_ic_ne (i := 12) (tt := 34) rfl (fun zc2 => ?_) (fun zc2 => ?_)
          · refine hy_iload (i := 34) rfl rfl ?_
            refine hy_cS1e (i := 35) rfl (by decide) mj_L_letterOf (by omega) rfl (Nat.le_of_ble_eq_true rfl) (c_L_letterOf) ?_
            refine hy_istore (i := 36) rfl ?_
            refine hy_iload (i := 37) rfl rfl ?_
            refine hy_if_ge (i := 38) (tt := 44) rfl (fun zc3 => ?_) (fun zc3 => ?_)
            · omega
            · refine hy_aload (i := 39) rfl rfl ?_
              refine hy_getr (i := 40) rfl rfl ?_
              refine hy_const (i := 41) rfl (by decide) ?_
              refine hy_cV1v (i := 42) rfl mj_T_fail (by omega) rfl (Nat.le_of_ble_eq_true rfl) rfl rfl rfl (c_T_fail (by decide) (by have := tp_ok.p (And.left (show lp_ok _ by assumption)); omega)) ?_
              refine hy_return (i := 43) rfl rfl ?_
              exact ⟨rfl, rfl⟩
          · omega
        · simp at zc1; omega
      · have e : rx_factor S t = lp_emit (tp_step t) 97 (lp_letter (tp_next t)) := by unfold rx_factor; rw [if_neg q1, if_neg q2, if_neg q3]
        rw [e]
        have h2 := rx_step_ok h (lp_letter_p q3)
        refine hy_aload (i := 0) rfl rfl ?_
        refine hy_getr (i := 1) rfl rfl ?_
        refine hy_cV0e (i := 2) rfl mj_T_next (by omega) rfl (Nat.le_of_ble_eq_true rfl) rfl rfl rfl (c_T_next (tp_ok.e (And.left (show lp_ok _ by assumption)))) ?_
        refine hy_istore (i := 3) rfl ?_
        refine hy_iload (i := 4) rfl rfl ?_
        refine hy_cS1e (i := 5) rfl (by decide) mj_W_isDigit (by omega) rfl (Nat.le_of_ble_eq_true rfl) (c_W_isDigit) ?_
        refine hy_ib_eq (i := 6) (tt := 10) rfl (fun zc1 => ?_) (fun zc1 => ?_)
        · refine hy_iload (i := 10) rfl rfl ?_
          refine hy_const (i := 11) rfl (by decide) ?_
          refine hy_ic_ne (i := 12) (tt := 34) rfl (fun zc2 => ?_) (fun zc2 => ?_)
          · refine hy_iload (i := 34) rfl rfl ?_
            refine hy_cS1e (i := 35) rfl (by decide) mj_L_letterOf (by omega) rfl (Nat.le_of_ble_eq_true rfl) (c_L_letterOf) ?_
            refine hy_istore (i := 36) rfl ?_
            refine hy_iload (i := 37) rfl rfl ?_
            refine hy_if_ge (i := 38) (tt := 44) rfl (fun zc3 => ?_) (fun zc3 => ?_)
            · refine hy_aload (i := 44) rfl rfl ?_
              refine hy_getr (i := 45) rfl rfl ?_
              refine hy_cV0v (i := 46) rfl mj_T_step (by omega) rfl (Nat.le_of_ble_eq_true rfl) rfl rfl rfl (c_T_step (by have := tp_ok.p (And.left (show lp_ok _ by assumption)); omega)) ?_
              refine hy_aload (i := 47) rfl rfl ?_
              refine hy_const (i := 48) rfl (by decide) ?_
              refine hy_iload (i := 49) rfl rfl ?_
              refine hy_cV2e (i := 50) rfl mj_L_emit (by omega) rfl (Nat.le_of_ble_eq_true rfl) rfl rfl rfl (c_L_emit h2.2.1) ?_
              refine hy_pop (i := 51) rfl ?_
              refine hy_return (i := 52) rfl rfl ?_
              exact ⟨rfl, rfl⟩
            · omega
          · omega
        · simp at zc1; omega
theorem c_L_sumL : ∀ (n : Nat) {d : Nat} {o : Int} {t : hy_T}, n ≤ 6 → o = 6 - n → d = 3 * n + 5 → lp_ok t → hy_Ct sc hm_L_readSum d [.inr (some 19), .inl o] t (hy_e none (rx_sumL n t))
  | 0, d, o, t, hn, ho, hd, h =>
    c_L_readSum (d0 := 4) (by omega) (by omega) (rx_product_s (rx_factor_s (fun F h => by cases h))) (fun t1 h1 =>
      c_L_readProduct (d0 := 3) (by omega) (by omega) (rx_factor_s (fun F h => by cases h)) (fun t2 h2 =>
        c_L_readFactor (d0 := 2) (by omega) (by omega) (fun _ => rfl) (by omega) (fun q => by omega) h2) h1) h
  | n + 1, d, o, t, hn, ho, hd, h =>
    have g : rx_good (rx_factor (some (rx_sumL n))) := rx_factor_s (fun F h => by cases h; exact rx_sumL_s n)
    c_L_readSum (d0 := 3 * n + 7) (by omega) (by omega) (rx_product_s g) (fun t1 h1 =>
      c_L_readProduct (d0 := 3 * n + 6) (by omega) (by omega) g (fun t2 h2 =>
        c_L_readFactor (d0 := 3 * n + 5) (by omega) (by omega) (fun q => by omega) (by omega) (fun q => ⟨_, rfl, rx_sumL_s n, fun t3 h3 => c_L_sumL n (by omega) (by omega) rfl h3⟩) h2) h1) h
end FX
