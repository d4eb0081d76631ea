/-! the class's law: parts and conditions as they are read -/
def rb_loop (sg : Int) (F : hy_T → hy_T) : Nat → hy_T → Int → hy_T
  | 0, t, l => lp_lead t l
  | n + 1, t, l => if tp_next t = sg then rb_loop sg F n (F (lp_emit (lp_lead (tp_step t) l) sg 0)) (lp_lead (tp_step t) l 19 3) else lp_lead t l
def rb_both (sg : Int) (F : hy_T → hy_T) (t : hy_T) : hy_T := rb_loop sg F 240 (F t) (-1)
theorem rb_loop_s {sg : Int} (hs : 0 ≤ sg) {F : hy_T → hy_T} (hF : rx_good F) : ∀ (n : Nat) (l : Int), rx_good (fun t => rb_loop sg F n t l)
  | 0, l => fun t h => lp_lead_s h l
  | n + 1, l => fun t h => by
    simp only [rb_loop]
    split
    · obtain ⟨a1, a2⟩ := lp_lead_s (rx_step_ok h (by omega)) l
      obtain ⟨b1, b2⟩ := lp_emit_s a1 sg 0
      obtain ⟨c1, c2⟩ := hF _ b1
      obtain ⟨d1, d2⟩ := rb_loop_s hs hF n (lp_lead (tp_step t) l 19 3) _ c1
      exact ⟨d1, ((((lpX_tp (tp_step_F t)).tr' a2).tr' b2).tr' c2).tr' d2⟩
    · exact lp_lead_s h l
theorem rb_both_s {sg : Int} (hs : 0 ≤ sg) {F : hy_T → hy_T} (hF : rx_good F) : rx_good (rb_both sg F) := fun t h => by
  obtain ⟨a1, a2⟩ := hF t h
  obtain ⟨b1, b2⟩ := rb_loop_s hs hF 240 (-1) _ a1
  exact ⟨b1, a2.tr' b2⟩
section RB
variable {sc : List Int32} {t : hy_T}
theorem c_L_readBoth {F : hy_T → hy_T} {d0 d : Nat} {o : Int} (hd : d0 < d) (hd2 : 2 < d) (hg : rx_good F) (hc : ∀ t1 : hy_T, lp_ok t1 → hy_Ct sc hm_L_readPiece d0 [.inr (some 19), .inl o] t1 (hy_e none (F t1))) (h : lp_ok t) : hy_Ct sc hm_L_readBoth d [.inr (some 19), .inl o] t (hy_e none (rb_both 38 F t)) := by
  refine hy_mk_ct ok_L_readBoth ck_L_readBoth (Nat.le_of_ble_eq_true rfl) ?_
  have loop : ∀ (n : Nat), ∀ (k : Nat) (l : Int) (t1 : hy_T), n + k = 240 → lp_ok t1 → rb_loop 38 F n t1 l = rb_both 38 F t → hy_W sc hm_L_readBoth d 7 [.inr (some 19), .inl o, .inl l, .inl (k : Int)] [] t1 (hy_e none (rb_both 38 F t)) := by
    intro n
    induction n with
    | zero =>
      intro k l t1 hn h1 he
      obtain rfl : k = 240 := by omega
      rw [← he]
      refine hy_iload (i := 7) rfl rfl ?_
      refine hy_const (i := 8) rfl (by decide) ?_
      refine hy_ic_ge (i := 9) (tt := 31) rfl (fun zc1 => ?_) (fun zc1 => ?_)
      · refine hy_aload (i := 31) rfl rfl ?_
        refine hy_iload (i := 32) rfl rfl ?_
        refine hy_cV1v (i := 33) rfl mj_L_leadHere (by omega) rfl (Nat.le_of_ble_eq_true rfl) rfl rfl rfl (c_L_leadHere) ?_
        refine hy_return (i := 34) rfl rfl ?_
        exact ⟨rfl, rfl⟩
      · omega
    | succ n ih =>
      intro k l t1 hn h1 he
      by_cases hp : tp_next t1 = 38
      · have e : rb_loop 38 F (n + 1) t1 l = rb_loop 38 F n (F (lp_emit (lp_lead (tp_step t1) l) 38 0)) (lp_lead (tp_step t1) l 19 3) := by simp only [rb_loop]; rw [if_pos hp]
        rw [e] at he
        have h2 := (lp_lead_s (rx_step_ok h1 (by omega)) l).1
        have h3 := (lp_emit_s h2 38 0).1
        have h4 := (hg _ h3).1
        refine hy_iload (i := 7) rfl rfl ?_
        refine hy_const (i := 8) rfl (by decide) ?_
        refine hy_ic_ge (i := 9) (tt := 31) rfl (fun zc1 => ?_) (fun zc1 => ?_)
        · omega
        · refine hy_aload (i := 10) rfl rfl ?_
          refine hy_getr (i := 11) rfl rfl ?_
          refine hy_cV0e (i := 12) rfl mj_T_next (by omega) rfl (Nat.le_of_ble_eq_true rfl) rfl rfl rfl (c_T_next (tp_ok.e (And.left (show lp_ok _ by assumption)))) ?_
          refine hy_const (i := 13) rfl (by decide) ?_
          refine hy_ic_ne (i := 14) (tt := 31) rfl (fun zc2 => ?_) (fun zc2 => ?_)
          · omega
          · refine hy_aload (i := 15) rfl rfl ?_
            refine hy_getr (i := 16) rfl rfl ?_
            refine hy_cV0v (i := 17) rfl mj_T_step (by omega) rfl (Nat.le_of_ble_eq_true rfl) rfl rfl rfl (c_T_step (by have := tp_ok.p (And.left (show lp_ok _ by assumption)); omega)) ?_
            refine hy_aload (i := 18) rfl rfl ?_
            refine hy_iload (i := 19) rfl rfl ?_
            refine hy_cV1v (i := 20) rfl mj_L_leadHere (by omega) rfl (Nat.le_of_ble_eq_true rfl) rfl rfl rfl (c_L_leadHere) ?_
            refine hy_aload (i := 21) rfl rfl ?_
            refine hy_const (i := 22) rfl (by decide) ?_
            refine hy_const (i := 23) rfl (by decide) ?_
            refine hy_cV2e (i := 24) rfl mj_L_emit (by omega) rfl (Nat.le_of_ble_eq_true rfl) rfl rfl rfl (c_L_emit h2.2.1) ?_
            refine hy_istore (i := 25) rfl ?_
            refine hy_aload (i := 26) rfl rfl ?_
            refine hy_iload (i := 27) rfl rfl ?_
            refine hy_cV1v (i := 28) rfl mj_L_readPiece (by omega) rfl (Nat.le_of_ble_eq_true rfl) rfl rfl rfl (hc _ h3) ?_
            refine hy_iinc (i := 29) rfl rfl (by omega) ?_
            refine hy_goto (i := 30) (tt := 7) rfl ?_
            exact ih (k + 1) _ _ (by omega) h4 he
      · have e : rb_loop 38 F (n + 1) t1 l = lp_lead t1 l := by simp only [rb_loop]; rw [if_neg hp]
        rw [e] at he
        rw [← he]
        refine hy_iload (i := 7) rfl rfl ?_
        refine hy_const (i := 8) rfl (by decide) ?_
        refine hy_ic_ge (i := 9) (tt := 31) rfl (fun zc1 => ?_) (fun zc1 => ?_)
        · omega
        · refine hy_aload (i := 10) rfl rfl ?_
          refine hy_getr (i := 11) rfl rfl ?_
          refine hy_cV0e (i := 12) rfl mj_T_next (by omega) rfl (Nat.le_of_ble_eq_true rfl) rfl rfl rfl (c_T_next (tp_ok.e (And.left (show lp_ok _ by assumption)))) ?_
          refine hy_const (i := 13) rfl (by decide) ?_
          refine hy_ic_ne (i := 14) (tt := 31) rfl (fun zc2 => ?_) (fun zc2 => ?_)
          · refine hy_aload (i := 31) rfl rfl ?_
            refine hy_iload (i := 32) rfl rfl ?_
            refine hy_cV1v (i := 33) rfl mj_L_leadHere (by omega) rfl (Nat.le_of_ble_eq_true rfl) rfl rfl rfl (c_L_leadHere) ?_
            refine hy_return (i := 34) rfl rfl ?_
            exact ⟨rfl, rfl⟩
          · omega
  refine hy_aload (i := 0) rfl rfl ?_
  refine hy_iload (i := 1) rfl rfl ?_
  refine hy_cV1v (i := 2) rfl mj_L_readPiece (by omega) rfl (Nat.le_of_ble_eq_true rfl) rfl rfl rfl (hc _ h) ?_
  refine hy_const (i := 3) rfl (by decide) ?_
  refine hy_istore (i := 4) rfl ?_
  refine hy_const (i := 5) rfl (by decide) ?_
  refine hy_istore (i := 6) rfl ?_
  exact loop 240 0 (-1) _ rfl (hg _ h).1 rfl
theorem c_L_readEither {F : hy_T → hy_T} {d0 d : Nat} {o : Int} (hd : d0 < d) (hd2 : 2 < d) (hg : rx_good F) (hc : ∀ t1 : hy_T, lp_ok t1 → hy_Ct sc hm_L_readBoth d0 [.inr (some 19), .inl o] t1 (hy_e none (F t1))) (h : lp_ok t) : hy_Ct sc hm_L_readEither d [.inr (some 19), .inl o] t (hy_e none (rb_both 124 F t)) := by
  refine hy_mk_ct ok_L_readEither ck_L_readEither (Nat.le_of_ble_eq_true rfl) ?_
  have loop : ∀ (n : Nat), ∀ (k : Nat) (l : Int) (t1 : hy_T), n + k = 240 → lp_ok t1 → rb_loop 124 F n t1 l = rb_both 124 F t → hy_W sc hm_L_readEither d 7 [.inr (some 19), .inl o, .inl l, .inl (k : Int)] [] t1 (hy_e none (rb_both 124 F t)) := by
    intro n
    induction n with
    | zero =>
      intro k l t1 hn h1 he
      obtain rfl : k = 240 := by omega
      rw [← he]
      refine hy_iload (i := 7) rfl rfl ?_
      refine hy_const (i := 8) rfl (by decide) ?_
      refine hy_ic_ge (i := 9) (tt := 31) rfl (fun zc1 => ?_) (fun zc1 => ?_)
      · refine hy_aload (i := 31) rfl rfl ?_
        refine hy_iload (i := 32) rfl rfl ?_
        refine hy_cV1v (i := 33) rfl mj_L_leadHere (by omega) rfl (Nat.le_of_ble_eq_true rfl) rfl rfl rfl (c_L_leadHere) ?_
        refine hy_return (i := 34) rfl rfl ?_
        exact ⟨rfl, rfl⟩
      · omega
    | succ n ih =>
      intro k l t1 hn h1 he
      by_cases hp : tp_next t1 = 124
      · have e : rb_loop 124 F (n + 1) t1 l = rb_loop 124 F n (F (lp_emit (lp_lead (tp_step t1) l) 124 0)) (lp_lead (tp_step t1) l 19 3) := by simp only [rb_loop]; rw [if_pos hp]
        rw [e] at he
        have h2 := (lp_lead_s (rx_step_ok h1 (by omega)) l).1
        have h3 := (lp_emit_s h2 124 0).1
        have h4 := (hg _ h3).1
        refine hy_iload (i := 7) rfl rfl ?_
        refine hy_const (i := 8) rfl (by decide) ?_
        refine hy_ic_ge (i := 9) (tt := 31) rfl (fun zc1 => ?_) (fun zc1 => ?_)
        · omega
        · refine hy_aload (i := 10) rfl rfl ?_
          refine hy_getr (i := 11) rfl rfl ?_
          refine hy_cV0e (i := 12) rfl mj_T_next (by omega) rfl (Nat.le_of_ble_eq_true rfl) rfl rfl rfl (c_T_next (tp_ok.e (And.left (show lp_ok _ by assumption)))) ?_
          refine hy_const (i := 13) rfl (by decide) ?_
          refine hy_ic_ne (i := 14) (tt := 31) rfl (fun zc2 => ?_) (fun zc2 => ?_)
          · omega
          · refine hy_aload (i := 15) rfl rfl ?_
            refine hy_getr (i := 16) rfl rfl ?_
            refine hy_cV0v (i := 17) rfl mj_T_step (by omega) rfl (Nat.le_of_ble_eq_true rfl) rfl rfl rfl (c_T_step (by have := tp_ok.p (And.left (show lp_ok _ by assumption)); omega)) ?_
            refine hy_aload (i := 18) rfl rfl ?_
            refine hy_iload (i := 19) rfl rfl ?_
            refine hy_cV1v (i := 20) rfl mj_L_leadHere (by omega) rfl (Nat.le_of_ble_eq_true rfl) rfl rfl rfl (c_L_leadHere) ?_
            refine hy_aload (i := 21) rfl rfl ?_
            refine hy_const (i := 22) rfl (by decide) ?_
            refine hy_const (i := 23) rfl (by decide) ?_
            refine hy_cV2e (i := 24) rfl mj_L_emit (by omega) rfl (Nat.le_of_ble_eq_true rfl) rfl rfl rfl (c_L_emit h2.2.1) ?_
            refine hy_istore (i := 25) rfl ?_
            refine hy_aload (i := 26) rfl rfl ?_
            refine hy_iload (i := 27) rfl rfl ?_
            refine hy_cV1v (i := 28) rfl mj_L_readBoth (by omega) rfl (Nat.le_of_ble_eq_true rfl) rfl rfl rfl (hc _ h3) ?_
            refine hy_iinc (i := 29) rfl rfl (by omega) ?_
            refine hy_goto (i := 30) (tt := 7) rfl ?_
            exact ih (k + 1) _ _ (by omega) h4 he
      · have e : rb_loop 124 F (n + 1) t1 l = lp_lead t1 l := by simp only [rb_loop]; rw [if_neg hp]
        rw [e] at he
        rw [← he]
        refine hy_iload (i := 7) rfl rfl ?_
        refine hy_const (i := 8) rfl (by decide) ?_
        refine hy_ic_ge (i := 9) (tt := 31) rfl (fun zc1 => ?_) (fun zc1 => ?_)
        · omega
        · refine hy_aload (i := 10) rfl rfl ?_
          refine hy_getr (i := 11) rfl rfl ?_
          refine hy_cV0e (i := 12) rfl mj_T_next (by omega) rfl (Nat.le_of_ble_eq_true rfl) rfl rfl rfl (c_T_next (tp_ok.e (And.left (show lp_ok _ by assumption)))) ?_
          refine hy_const (i := 13) rfl (by decide) ?_
          refine hy_ic_ne (i := 14) (tt := 31) rfl (fun zc2 => ?_) (fun zc2 => ?_)
          · refine hy_aload (i := 31) rfl rfl ?_
            refine hy_iload (i := 32) rfl rfl ?_
            refine hy_cV1v (i := 33) rfl mj_L_leadHere (by omega) rfl (Nat.le_of_ble_eq_true rfl) rfl rfl rfl (c_L_leadHere) ?_
            refine hy_return (i := 34) rfl rfl ?_
            exact ⟨rfl, rfl⟩
          · omega
  refine hy_aload (i := 0) rfl rfl ?_
  refine hy_iload (i := 1) rfl rfl ?_
  refine hy_cV1v (i := 2) rfl mj_L_readBoth (by omega) rfl (Nat.le_of_ble_eq_true rfl) rfl rfl rfl (hc _ h) ?_
  refine hy_const (i := 3) rfl (by decide) ?_
  refine hy_istore (i := 4) rfl ?_
  refine hy_const (i := 5) rfl (by decide) ?_
  refine hy_istore (i := 6) rfl ?_
  exact loop 240 0 (-1) _ rfl (hg _ h).1 rfl
end RB
