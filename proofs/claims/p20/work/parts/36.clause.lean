/-! the class's law: clauses as they are read -/
abbrev lkX : Nat → Nat → Bool := fun r j => lpX r j || r == 22 || r == 23 || r == 24 || (r == 19 && j == 7)
theorem lkX_lp {t t1 : hy_T} (h : hy_F lpX t t1) : hy_F lkX t t1 := h.w (fun r j q => by simp only [Bool.or_eq_false_iff] at q ⊢; exact q.1.1.1.1)
def rk_amt (k : Int) (t : hy_T) : hy_T := if k = 118 ∨ k = 98 then lp_emit (rx_sumL 6 t) 46 0 else t
def rk_head (k : Int) (t : hy_T) : hy_T := hy_up (hy_up t 22 (t 19 7).toNat k) 23 (t 19 7).toNat (t 19 3)
def rk_body (t : hy_T) : hy_T := lp_emit (tp_take (rp_either 5 (tp_take (hy_up t 24 (t 19 7).toNat (t 19 3)) 40)) 41) 46 0
def rk_cond (t : hy_T) : hy_T := hy_up (rk_body t) 19 7 (rk_body t 19 7 + 1)
abbrev rk_kind (k : Int) : Prop := k = 118 ∨ k = 98 ∨ k = 115 ∨ k = 107
def rk_clause (t : hy_T) : hy_T :=
  if rk_kind (tp_next t) then (if 16 ≤ t 19 7 then tp_fail t 4 (t 3 3) else rk_cond (rk_amt (tp_next t) (rk_head (tp_next t) (tp_step t)))) else tp_fail t 1 (t 3 3)
theorem rk_head_s {t : hy_T} (h : lp_ok t) (k : Int) : lp_ok (rk_head k t) ∧ hy_F lkX t (rk_head k t) := by
  unfold rk_head
  exact ⟨⟨tp_ok_up (tp_ok_up h.1 rfl) rfl, h.2⟩, (hy_F.rf.up rfl).up rfl⟩
theorem rk_amt_s {t : hy_T} (h : lp_ok t) (k : Int) : lp_ok (rk_amt k t) ∧ hy_F lpX t (rk_amt k t) := by
  unfold rk_amt
  split
  · obtain ⟨a1, a2⟩ := rx_sumL_s 6 _ h
    obtain ⟨b1, b2⟩ := lp_emit_s a1 46 0
    exact ⟨b1, a2.tr' b2⟩
  · exact ⟨h, hy_F.rf⟩
theorem rk_pre_s {t : hy_T} (h : lp_ok t) : lp_ok (hy_up t 24 (t 19 7).toNat (t 19 3)) := ⟨tp_ok_up h.1 rfl, h.2⟩
theorem rk_body_s {t : hy_T} (h : lp_ok t) : lp_ok (rk_body t) ∧ hy_F lkX t (rk_body t) ∧ rk_body t 19 7 = t 19 7 := by
  obtain ⟨a1, a2⟩ := lp_take_s (rk_pre_s h) (s := 40) (by decide)
  obtain ⟨b1, b2⟩ := rp_either_s 5 _ a1
  obtain ⟨c1, c2⟩ := lp_take_s b1 (s := 41) (by decide)
  obtain ⟨d1, d2⟩ := lp_emit_s c1 46 0
  have f := ((a2.tr' b2).tr' c2).tr' d2
  exact ⟨d1, (hy_F.rf.up rfl).tr' (lkX_lp f), f 19 7 rfl⟩
theorem rk_cond_s {t : hy_T} (h : lp_ok t) (h7 : t 19 7 < 16) : lp_ok (rk_cond t) ∧ hy_F lkX t (rk_cond t) := by
  obtain ⟨a1, a2, a3⟩ := rk_body_s h
  have h8 := h.2.2
  unfold rk_cond
  refine ⟨⟨tp_ok_up a1.1 rfl, a1.2.1, ?_⟩, a2.up rfl⟩
  show 0 ≤ rk_body t 19 7 + 1 ∧ rk_body t 19 7 + 1 ≤ 16
  omega
theorem rk_clause_s {t : hy_T} (h : lp_ok t) : lp_ok (rk_clause t) ∧ hy_F lkX t (rk_clause t) := by
  unfold rk_clause
  split
  · next hk =>
    split
    · obtain ⟨a, b⟩ := lp_fail_s h 4 (t 3 3)
      exact ⟨a, lkX_lp b⟩
    · next h7 =>
      have h1 := rx_step_ok h (show 0 ≤ tp_next t by omega)
      obtain ⟨a1, a2⟩ := rk_head_s h1 (tp_next t)
      obtain ⟨b1, b2⟩ := rk_amt_s a1 (tp_next t)
      have e7 : rk_amt (tp_next t) (rk_head (tp_next t) (tp_step t)) 19 7 = t 19 7 := (b2 19 7 rfl).trans rfl
      obtain ⟨c1, c2⟩ := rk_cond_s b1 (by omega)
      exact ⟨c1, (((lkX_lp (lpX_tp (tp_step_F t))).tr' a2).tr' (lkX_lp b2)).tr' c2⟩
  · obtain ⟨a, b⟩ := lp_fail_s h 1 (t 3 3)
    exact ⟨a, lkX_lp b⟩
def rk_loop : Nat → hy_T → hy_T
  | 0, t => t
  | n + 1, t => if tp_next t = 59 then rk_loop n (rk_clause (tp_step t)) else t
def rk_init (t : hy_T) (n : Int) : hy_T := hy_up (hy_up (tp_start t n) 19 7 0) 19 3 0
def rk_read (t : hy_T) (n : Int) : hy_T := tp_finish (rk_loop 16 (rk_clause (rk_init t n)))
theorem rk_loop_s : ∀ (n : Nat) {t : hy_T}, lp_ok t → lp_ok (rk_loop n t) ∧ hy_F lkX t (rk_loop n t)
  | 0, t, h => ⟨h, hy_F.rf⟩
  | n + 1, t, h => by
    simp only [rk_loop]
    split
    · obtain ⟨a1, a2⟩ := rk_clause_s (rx_step_ok h (by omega))
      obtain ⟨b1, b2⟩ := rk_loop_s n a1
      exact ⟨b1, ((lkX_lp (lpX_tp (tp_step_F t))).tr' a2).tr' b2⟩
    · exact ⟨h, hy_F.rf⟩
theorem hz_0241 : (0 : Int) ≤ 0 ∧ (0 : Int) ≤ 241 := by decide
theorem hz_016 : (0 : Int) ≤ 0 ∧ (0 : Int) ≤ 16 := by decide
theorem rk_init_s {t : hy_T} (h : tp_ok t) (n : Int) : lp_ok (rk_init t n) :=
  ⟨tp_ok_up (tp_ok_up (tp_start_ok h n) rfl) rfl, hz_0241, hz_016⟩
section RKC
variable {sc : List Int32} {t : hy_T}
theorem c_L_readClause (h : lp_ok t) : hy_Ct sc hm_L_readClause 61 [.inr (some 19)] t (hy_e none (rk_clause t)) := by
  refine hy_mk_ct ok_L_readClause ck_L_readClause (Nat.le_of_ble_eq_true rfl) ?_
  have fin : ∀ (t1 : hy_T) (v1 v2 : hy_V), lp_ok t1 → t1 19 7 < 16 → hy_W sc hm_L_readClause 61 62 [.inr (some 19), v1, v2] [] t1 (hy_e none (rk_cond t1)) := by
    intro t1 v1 v2 h1 h7
    have h8 := h1.2.2
    have h2 := rk_pre_s h1
    have h3 := (lp_take_s h2 (s := 40) (by decide)).1
    have h4 := (rp_either_s 5 _ h3).1
    have h5 := (lp_take_s h4 (s := 41) (by decide)).1
    have h9 := (rk_body_s h1).1.2.2
    unfold rk_body at h9
    refine hy_aload (i := 62) rfl rfl ?_
    refine hy_getr (i := 63) rfl rfl ?_
    refine hy_aload (i := 64) rfl rfl ?_
    refine hy_get (i := 65) (fk := 7) rfl rfl rfl ?_
    refine hy_aload (i := 66) rfl rfl ?_
    refine hy_get (i := 67) (fk := 3) rfl rfl rfl ?_
    refine hy_iast (i := 68) rfl rfl (by omega) rfl ?_
    refine hy_aload (i := 69) rfl rfl ?_
    refine hy_getr (i := 70) rfl rfl ?_
    refine hy_const (i := 71) rfl (by decide) ?_
    refine hy_cV1v (i := 72) rfl mj_T_take (by decide) rfl (Nat.le_of_ble_eq_true rfl) rfl rfl rfl (c_T_take h2.1.e (tp_ok_pq h2.1)) ?_
    refine hy_aload (i := 73) rfl rfl ?_
    refine hy_const (i := 74) rfl (by decide) ?_
    refine hy_cV1v (i := 75) rfl mj_L_readEither (by decide) rfl (Nat.le_of_ble_eq_true rfl) rfl rfl rfl ((c_L_eitherAt (n := 5) (by decide) rfl) h3) ?_
    refine hy_aload (i := 76) rfl rfl ?_
    refine hy_getr (i := 77) rfl rfl ?_
    refine hy_const (i := 78) rfl (by decide) ?_
    refine hy_cV1v (i := 79) rfl mj_T_take (by decide) rfl (Nat.le_of_ble_eq_true rfl) rfl rfl rfl (c_T_take h4.1.e (tp_ok_pq h4.1)) ?_
    refine hy_aload (i := 80) rfl rfl ?_
    refine hy_const (i := 81) rfl (by decide) ?_
    refine hy_const (i := 82) rfl (by decide) ?_
    refine hy_cV2e (i := 83) rfl mj_L_emit (by decide) rfl (Nat.le_of_ble_eq_true rfl) rfl rfl rfl (c_L_emit h5.2.1) ?_
    refine hy_pop (i := 84) rfl ?_
    refine hy_aload (i := 85) rfl rfl ?_
    refine hy_dup (i := 86) rfl ?_
    refine hy_get (i := 87) (fk := 7) rfl rfl rfl ?_
    refine hy_const (i := 88) rfl (by decide) ?_
    refine hy_iadd (i := 89) rfl (by omega) ?_
    refine hy_put (i := 90) (fk := 7) rfl rfl rfl rfl ?_
    refine hy_return (i := 91) rfl rfl ?_
    exact ⟨rfl, rfl⟩
  by_cases q1 : rk_kind (tp_next t)
  · by_cases q2 : 16 ≤ t 19 7
    · have e : rk_clause t = tp_fail t 4 (t 3 3) := by unfold rk_clause; rw [if_pos q1, if_pos q2]
      rw [e]
      by_cases q3 : tp_next t = 118 ∨ tp_next t = 98
      · skip
        refine hy_aload (i := 0) rfl rfl ?_
        refine hy_getr (i := 1) rfl rfl ?_
        refine hy_cV0e (i := 2) rfl mj_T_next (by decide) rfl (Nat.le_of_ble_eq_true rfl) rfl rfl rfl (c_T_next (tp_ok.e (And.left (show lp_ok _ by assumption)))) ?_
        refine hy_istore (i := 3) rfl ?_
        refine hy_iload (i := 4) rfl rfl ?_
        refine hy_const (i := 5) rfl (by decide) ?_
        refine hy_ic_eq (i := 6) (tt := 10) rfl (fun zc1 => ?_) (fun zc1 => ?_)
        · refine hy_const (i := 10) rfl (by decide) ?_
          refine hy_goto (i := 11) (tt := 13) rfl ?_
          refine hy_istore (i := 13) rfl ?_
          refine hy_iload (i := 14) rfl rfl ?_
          refine hy_if_ne (i := 15) (tt := 27) rfl (fun zc2 => ?_) (fun zc2 => ?_)
          · refine hy_aload (i := 27) rfl rfl ?_
            refine hy_get (i := 28) (fk := 7) rfl rfl rfl ?_
            refine hy_const (i := 29) rfl (by decide) ?_
            refine hy_ic_lt (i := 30) (tt := 36) rfl (fun zc3 => ?_) (fun zc3 => ?_)
            · omega
            · refine hy_aload (i := 31) rfl rfl ?_
              refine hy_getr (i := 32) rfl rfl ?_
              refine hy_const (i := 33) rfl (by decide) ?_
              refine hy_cV1v (i := 34) rfl mj_T_fail (by decide) rfl (Nat.le_of_ble_eq_true rfl) rfl rfl rfl (c_T_fail (by decide) (by have := tp_ok.p (And.left (show lp_ok _ by assumption)); omega)) ?_
              refine hy_return (i := 35) rfl rfl ?_
              exact ⟨rfl, rfl⟩
          · omega
        · refine hy_iload (i := 7) rfl rfl ?_
          refine hy_const (i := 8) rfl (by decide) ?_
          refine hy_ic_ne (i := 9) (tt := 12) rfl (fun zc2 => ?_) (fun zc2 => ?_)
          · omega
          · refine hy_const (i := 10) rfl (by decide) ?_
            refine hy_goto (i := 11) (tt := 13) rfl ?_
            refine hy_istore (i := 13) rfl ?_
            refine hy_iload (i := 14) rfl rfl ?_
            refine hy_if_ne (i := 15) (tt := 27) rfl (fun zc3 => ?_) (fun zc3 => ?_)
            · refine hy_aload (i := 27) rfl rfl ?_
              refine hy_get (i := 28) (fk := 7) rfl rfl rfl ?_
              refine hy_const (i := 29) rfl (by decide) ?_
              refine hy_ic_lt (i := 30) (tt := 36) rfl (fun zc4 => ?_) (fun zc4 => ?_)
              · omega
              · refine hy_aload (i := 31) rfl rfl ?_
                refine hy_getr (i := 32) rfl rfl ?_
                refine hy_const (i := 33) rfl (by decide) ?_
                refine hy_cV1v (i := 34) rfl mj_T_fail (by decide) rfl (Nat.le_of_ble_eq_true rfl) rfl rfl rfl (c_T_fail (by decide) (by have := tp_ok.p (And.left (show lp_ok _ by assumption)); omega)) ?_
                refine hy_return (i := 35) rfl rfl ?_
                exact ⟨rfl, rfl⟩
            · omega
      · skip
        refine hy_aload (i := 0) rfl rfl ?_
        refine hy_getr (i := 1) rfl rfl ?_
        refine hy_cV0e (i := 2) rfl mj_T_next (by decide) rfl (Nat.le_of_ble_eq_true rfl) rfl rfl rfl (c_T_next (tp_ok.e (And.left (show lp_ok _ by assumption)))) ?_
        refine hy_istore (i := 3) rfl ?_
        refine hy_iload (i := 4) rfl rfl ?_
        refine hy_const (i := 5) rfl (by decide) ?_
        refine hy_ic_eq (i := 6) (tt := 10) rfl (fun zc1 => ?_) (fun zc1 => ?_)
        · omega
        · refine hy_iload (i := 7) rfl rfl ?_
          refine hy_const (i := 8) rfl (by decide) ?_
          refine hy_ic_ne (i := 9) (tt := 12) rfl (fun zc2 => ?_) (fun zc2 => ?_)
          · refine hy_const (i := 12) rfl (by decide) ?_
            refine hy_istore (i := 13) rfl ?_
            refine hy_iload (i := 14) rfl rfl ?_
            refine hy_if_ne (i := 15) (tt := 27) rfl (fun zc3 => ?_) (fun zc3 => ?_)
            · omega
            · refine hy_iload (i := 16) rfl rfl ?_
              refine hy_const (i := 17) rfl (by decide) ?_
              refine hy_ic_eq (i := 18) (tt := 27) rfl (fun zc4 => ?_) (fun zc4 => ?_)
              · refine hy_aload (i := 27) rfl rfl ?_
                refine hy_get (i := 28) (fk := 7) rfl rfl rfl ?_
                refine hy_const (i := 29) rfl (by decide) ?_
                refine hy_ic_lt (i := 30) (tt := 36) rfl (fun zc5 => ?_) (fun zc5 => ?_)
                · omega
                · refine hy_aload (i := 31) rfl rfl ?_
                  refine hy_getr (i := 32) rfl rfl ?_
                  refine hy_const (i := 33) rfl (by decide) ?_
                  refine hy_cV1v (i := 34) rfl mj_T_fail (by decide) rfl (Nat.le_of_ble_eq_true rfl) rfl rfl rfl (c_T_fail (by decide) (by have := tp_ok.p (And.left (show lp_ok _ by assumption)); omega)) ?_
                  refine hy_return (i := 35) rfl rfl ?_
                  exact ⟨rfl, rfl⟩
              · refine hy_iload (i := 19) rfl rfl ?_
                refine hy_const (i := 20) rfl (by decide) ?_
                refine hy_ic_eq (i := 21) (tt := 27) rfl (fun zc5 => ?_) (fun zc5 => ?_)
                · refine hy_aload (i := 27) rfl rfl ?_
                  refine hy_get (i := 28) (fk := 7) rfl rfl rfl ?_
                  refine hy_const (i := 29) rfl (by decide) ?_
                  refine hy_ic_lt (i := 30) (tt := 36) rfl (fun zc6 => ?_) (fun zc6 => ?_)
                  · omega
                  · refine hy_aload (i := 31) rfl rfl ?_
                    refine hy_getr (i := 32) rfl rfl ?_
                    refine hy_const (i := 33) rfl (by decide) ?_
                    refine hy_cV1v (i := 34) rfl mj_T_fail (by decide) rfl (Nat.le_of_ble_eq_true rfl) rfl rfl rfl (c_T_fail (by decide) (by have := tp_ok.p (And.left (show lp_ok _ by assumption)); omega)) ?_
                    refine hy_return (i := 35) rfl rfl ?_
                    exact ⟨rfl, rfl⟩
                · omega
          · omega
    · have e : rk_clause t = rk_cond (rk_amt (tp_next t) (rk_head (tp_next t) (tp_step t))) := by unfold rk_clause; rw [if_pos q1, if_neg q2]
      rw [e]
      have h8 := h.2.2
      have h1 := rx_step_ok h (show 0 ≤ tp_next t by omega)
      obtain ⟨a1, a2⟩ := rk_head_s h1 (tp_next t)
      obtain ⟨b1, b2⟩ := rk_amt_s a1 (tp_next t)
      have e7 : rk_amt (tp_next t) (rk_head (tp_next t) (tp_step t)) 19 7 = t 19 7 := (b2 19 7 rfl).trans rfl
      by_cases q3 : tp_next t = 118 ∨ tp_next t = 98
      · have e2 : rk_amt (tp_next t) (rk_head (tp_next t) (tp_step t)) = lp_emit (rx_sumL 6 (rk_head (tp_next t) (tp_step t))) 46 0 := by unfold rk_amt; rw [if_pos q3]
        have h3 := (rx_sumL_s 6 _ a1).1
        refine hy_aload (i := 0) rfl rfl ?_
        refine hy_getr (i := 1) rfl rfl ?_
        refine hy_cV0e (i := 2) rfl mj_T_next (by decide) rfl (Nat.le_of_ble_eq_true rfl) rfl rfl rfl (c_T_next (tp_ok.e (And.left (show lp_ok _ by assumption)))) ?_
        refine hy_istore (i := 3) rfl ?_
        refine hy_iload (i := 4) rfl rfl ?_
        refine hy_const (i := 5) rfl (by decide) ?_
        refine hy_ic_eq (i := 6) (tt := 10) rfl (fun zc1 => ?_) (fun zc1 => ?_)
        · refine hy_const (i := 10) rfl (by decide) ?_
          refine hy_goto (i := 11) (tt := 13) rfl ?_
          refine hy_istore (i := 13) rfl ?_
          refine hy_iload (i := 14) rfl rfl ?_
          refine hy_if_ne (i := 15) (tt := 27) rfl (fun zc2 => ?_) (fun zc2 => ?_)
          · refine hy_aload (i := 27) rfl rfl ?_
            refine hy_get (i := 28) (fk := 7) rfl rfl rfl ?_
            refine hy_const (i := 29) rfl (by decide) ?_
            refine hy_ic_lt (i := 30) (tt := 36) rfl (fun zc3 => ?_) (fun zc3 => ?_)
            · refine hy_aload (i := 36) rfl rfl ?_
              refine hy_getr (i := 37) rfl rfl ?_
              refine hy_cV0v (i := 38) rfl mj_T_step (by decide) rfl (Nat.le_of_ble_eq_true rfl) rfl rfl rfl (c_T_step (by have := tp_ok.p (And.left (show lp_ok _ by assumption)); omega)) ?_
              refine hy_aload (i := 39) rfl rfl ?_
              refine hy_getr (i := 40) rfl rfl ?_
              refine hy_aload (i := 41) rfl rfl ?_
              refine hy_get (i := 42) (fk := 7) rfl rfl rfl ?_
              refine hy_iload (i := 43) rfl rfl ?_
              refine hy_iast (i := 44) rfl rfl (by (show 0 ≤ t 19 7 ∧ t 19 7 < 16; omega)) rfl ?_
              refine hy_aload (i := 45) rfl rfl ?_
              refine hy_getr (i := 46) rfl rfl ?_
              refine hy_aload (i := 47) rfl rfl ?_
              refine hy_get (i := 48) (fk := 7) rfl rfl rfl ?_
              rw [show ∀ (u : hy_T) (i : Nat) (v : Int), hy_up u 22 i v 19 7 = u 19 7 from fun _ _ _ => rfl]
              refine hy_aload (i := 49) rfl rfl ?_
              refine hy_get (i := 50) (fk := 3) rfl rfl rfl ?_
              rw [show ∀ (u : hy_T) (i : Nat) (v : Int), hy_up u 22 i v 19 3 = u 19 3 from fun _ _ _ => rfl]
              refine hy_iast (i := 51) rfl rfl (by (show 0 ≤ t 19 7 ∧ t 19 7 < 16; omega)) rfl ?_
              refine hy_iload (i := 52) rfl rfl ?_
              refine hy_if_eq (i := 53) (tt := 62) rfl (fun zc4 => ?_) (fun zc4 => ?_)
              · omega
              · refine hy_aload (i := 54) rfl rfl ?_
                refine hy_const (i := 55) rfl (by decide) ?_
                refine hy_cV1v (i := 56) rfl mj_L_readSum (by decide) rfl (Nat.le_of_ble_eq_true rfl) rfl rfl rfl ((c_L_sumL 6 (by decide) rfl rfl) a1) ?_
                refine hy_aload (i := 57) rfl rfl ?_
                refine hy_const (i := 58) rfl (by decide) ?_
                refine hy_const (i := 59) rfl (by decide) ?_
                refine hy_cV2e (i := 60) rfl mj_L_emit (by decide) rfl (Nat.le_of_ble_eq_true rfl) rfl rfl rfl (c_L_emit h3.2.1) ?_
                refine hy_pop (i := 61) rfl ?_
                exact e2 ▸ fin _ _ _ b1 (by omega)
            · omega
          · omega
        · refine hy_iload (i := 7) rfl rfl ?_
          refine hy_const (i := 8) rfl (by decide) ?_
          refine hy_ic_ne (i := 9) (tt := 12) rfl (fun zc2 => ?_) (fun zc2 => ?_)
          · omega
          · refine hy_const (i := 10) rfl (by decide) ?_
            refine hy_goto (i := 11) (tt := 13) rfl ?_
            refine hy_istore (i := 13) rfl ?_
            refine hy_iload (i := 14) rfl rfl ?_
            refine hy_if_ne (i := 15) (tt := 27) rfl (fun zc3 => ?_) (fun zc3 => ?_)
            · refine hy_aload (i := 27) rfl rfl ?_
              refine hy_get (i := 28) (fk := 7) rfl rfl rfl ?_
              refine hy_const (i := 29) rfl (by decide) ?_
              refine hy_ic_lt (i := 30) (tt := 36) rfl (fun zc4 => ?_) (fun zc4 => ?_)
              · refine hy_aload (i := 36) rfl rfl ?_
                refine hy_getr (i := 37) rfl rfl ?_
                refine hy_cV0v (i := 38) rfl mj_T_step (by decide) rfl (Nat.le_of_ble_eq_true rfl) rfl rfl rfl (c_T_step (by have := tp_ok.p (And.left (show lp_ok _ by assumption)); omega)) ?_
                refine hy_aload (i := 39) rfl rfl ?_
                refine hy_getr (i := 40) rfl rfl ?_
                refine hy_aload (i := 41) rfl rfl ?_
                refine hy_get (i := 42) (fk := 7) rfl rfl rfl ?_
                refine hy_iload (i := 43) rfl rfl ?_
                refine hy_iast (i := 44) rfl rfl (by (show 0 ≤ t 19 7 ∧ t 19 7 < 16; omega)) rfl ?_
                refine hy_aload (i := 45) rfl rfl ?_
                refine hy_getr (i := 46) rfl rfl ?_
                refine hy_aload (i := 47) rfl rfl ?_
                refine hy_get (i := 48) (fk := 7) rfl rfl rfl ?_
                rw [show ∀ (u : hy_T) (i : Nat) (v : Int), hy_up u 22 i v 19 7 = u 19 7 from fun _ _ _ => rfl]
                refine hy_aload (i := 49) rfl rfl ?_
                refine hy_get (i := 50) (fk := 3) rfl rfl rfl ?_
                rw [show ∀ (u : hy_T) (i : Nat) (v : Int), hy_up u 22 i v 19 3 = u 19 3 from fun _ _ _ => rfl]
                refine hy_iast (i := 51) rfl rfl (by (show 0 ≤ t 19 7 ∧ t 19 7 < 16; omega)) rfl ?_
                refine hy_iload (i := 52) rfl rfl ?_
                refine hy_if_eq (i := 53) (tt := 62) rfl (fun zc5 => ?_) (fun zc5 => ?_)
                · omega
                · refine hy_aload (i := 54) rfl rfl ?_
                  refine hy_const (i := 55) rfl (by decide) ?_
                  refine hy_cV1v (i := 56) rfl mj_L_readSum (by decide) rfl (Nat.le_of_ble_eq_true rfl) rfl rfl rfl ((c_L_sumL 6 (by decide) rfl rfl) a1) ?_
                  refine hy_aload (i := 57) rfl rfl ?_
                  refine hy_const (i := 58) rfl (by decide) ?_
                  refine hy_const (i := 59) rfl (by decide) ?_
                  refine hy_cV2e (i := 60) rfl mj_L_emit (by decide) rfl (Nat.le_of_ble_eq_true rfl) rfl rfl rfl (c_L_emit h3.2.1) ?_
                  refine hy_pop (i := 61) rfl ?_
                  exact e2 ▸ fin _ _ _ b1 (by omega)
              · omega
            · omega
      · have e2 : rk_amt (tp_next t) (rk_head (tp_next t) (tp_step t)) = rk_head (tp_next t) (tp_step t) := by unfold rk_amt; rw [if_neg q3]
        have e8 : rk_head (tp_next t) (tp_step t) 19 7 = t 19 7 := rfl
        rw [e2]
        refine hy_aload (i := 0) rfl rfl ?_
        refine hy_getr (i := 1) rfl rfl ?_
        refine hy_cV0e (i := 2) rfl mj_T_next (by decide) rfl (Nat.le_of_ble_eq_true rfl) rfl rfl rfl (c_T_next (tp_ok.e (And.left (show lp_ok _ by assumption)))) ?_
        refine hy_istore (i := 3) rfl ?_
        refine hy_iload (i := 4) rfl rfl ?_
        refine hy_const (i := 5) rfl (by decide) ?_
        refine hy_ic_eq (i := 6) (tt := 10) rfl (fun zc1 => ?_) (fun zc1 => ?_)
        · omega
        · refine hy_iload (i := 7) rfl rfl ?_
          refine hy_const (i := 8) rfl (by decide) ?_
          refine hy_ic_ne (i := 9) (tt := 12) rfl (fun zc2 => ?_) (fun zc2 => ?_)
          · refine hy_const (i := 12) rfl (by decide) ?_
            refine hy_istore (i := 13) rfl ?_
            refine hy_iload (i := 14) rfl rfl ?_
            refine hy_if_ne (i := 15) (tt := 27) rfl (fun zc3 => ?_) (fun zc3 => ?_)
            · omega
            · refine hy_iload (i := 16) rfl rfl ?_
              refine hy_const (i := 17) rfl (by decide) ?_
              refine hy_ic_eq (i := 18) (tt := 27) rfl (fun zc4 => ?_) (fun zc4 => ?_)
              · refine hy_aload (i := 27) rfl rfl ?_
                refine hy_get (i := 28) (fk := 7) rfl rfl rfl ?_
                refine hy_const (i := 29) rfl (by decide) ?_
                refine hy_ic_lt (i := 30) (tt := 36) rfl (fun zc5 => ?_) (fun zc5 => ?_)
                · refine hy_aload (i := 36) rfl rfl ?_
                  refine hy_getr (i := 37) rfl rfl ?_
                  refine hy_cV0v (i := 38) rfl mj_T_step (by decide) rfl (Nat.le_of_ble_eq_true rfl) rfl rfl rfl (c_T_step (by have := tp_ok.p (And.left (show lp_ok _ by assumption)); omega)) ?_
                  refine hy_aload (i := 39) rfl rfl ?_
                  refine hy_getr (i := 40) rfl rfl ?_
                  refine hy_aload (i := 41) rfl rfl ?_
                  refine hy_get (i := 42) (fk := 7) rfl rfl rfl ?_
                  refine hy_iload (i := 43) rfl rfl ?_
                  refine hy_iast (i := 44) rfl rfl (by (show 0 ≤ t 19 7 ∧ t 19 7 < 16; omega)) rfl ?_
                  refine hy_aload (i := 45) rfl rfl ?_
                  refine hy_getr (i := 46) rfl rfl ?_
                  refine hy_aload (i := 47) rfl rfl ?_
                  refine hy_get (i := 48) (fk := 7) rfl rfl rfl ?_
                  rw [show ∀ (u : hy_T) (i : Nat) (v : Int), hy_up u 22 i v 19 7 = u 19 7 from fun _ _ _ => rfl]
                  refine hy_aload (i := 49) rfl rfl ?_
                  refine hy_get (i := 50) (fk := 3) rfl rfl rfl ?_
                  rw [show ∀ (u : hy_T) (i : Nat) (v : Int), hy_up u 22 i v 19 3 = u 19 3 from fun _ _ _ => rfl]
                  refine hy_iast (i := 51) rfl rfl (by (show 0 ≤ t 19 7 ∧ t 19 7 < 16; omega)) rfl ?_
                  refine hy_iload (i := 52) rfl rfl ?_
                  refine hy_if_eq (i := 53) (tt := 62) rfl (fun zc6 => ?_) (fun zc6 => ?_)
                  · exact fin (rk_head (tp_next t) (tp_step t)) _ _ a1 (by omega)
                  · omega
                · omega
              · refine hy_iload (i := 19) rfl rfl ?_
                refine hy_const (i := 20) rfl (by decide) ?_
                refine hy_ic_eq (i := 21) (tt := 27) rfl (fun zc5 => ?_) (fun zc5 => ?_)
                · refine hy_aload (i := 27) rfl rfl ?_
                  refine hy_get (i := 28) (fk := 7) rfl rfl rfl ?_
                  refine hy_const (i := 29) rfl (by decide) ?_
                  refine hy_ic_lt (i := 30) (tt := 36) rfl (fun zc6 => ?_) (fun zc6 => ?_)
                  · refine hy_aload (i := 36) rfl rfl ?_
                    refine hy_getr (i := 37) rfl rfl ?_
                    refine hy_cV0v (i := 38) rfl mj_T_step (by decide) rfl (Nat.le_of_ble_eq_true rfl) rfl rfl rfl (c_T_step (by have := tp_ok.p (And.left (show lp_ok _ by assumption)); omega)) ?_
                    refine hy_aload (i := 39) rfl rfl ?_
                    refine hy_getr (i := 40) rfl rfl ?_
                    refine hy_aload (i := 41) rfl rfl ?_
                    refine hy_get (i := 42) (fk := 7) rfl rfl rfl ?_
                    refine hy_iload (i := 43) rfl rfl ?_
                    refine hy_iast (i := 44) rfl rfl (by (show 0 ≤ t 19 7 ∧ t 19 7 < 16; omega)) rfl ?_
                    refine hy_aload (i := 45) rfl rfl ?_
                    refine hy_getr (i := 46) rfl rfl ?_
                    refine hy_aload (i := 47) rfl rfl ?_
                    refine hy_get (i := 48) (fk := 7) rfl rfl rfl ?_
                    rw [show ∀ (u : hy_T) (i : Nat) (v : Int), hy_up u 22 i v 19 7 = u 19 7 from fun _ _ _ => rfl]
                    refine hy_aload (i := 49) rfl rfl ?_
                    refine hy_get (i := 50) (fk := 3) rfl rfl rfl ?_
                    rw [show ∀ (u : hy_T) (i : Nat) (v : Int), hy_up u 22 i v 19 3 = u 19 3 from fun _ _ _ => rfl]
                    refine hy_iast (i := 51) rfl rfl (by (show 0 ≤ t 19 7 ∧ t 19 7 < 16; omega)) rfl ?_
                    refine hy_iload (i := 52) rfl rfl ?_
                    refine hy_if_eq (i := 53) (tt := 62) rfl (fun zc7 => ?_) (fun zc7 => ?_)
                    · exact fin (rk_head (tp_next t) (tp_step t)) _ _ a1 (by omega)
                    · omega
                  · omega
                · omega
          · omega
  · have e : rk_clause t = tp_fail t 1 (t 3 3) := by unfold rk_clause; rw [if_neg q1]
    rw [e]
    refine hy_aload (i := 0) rfl rfl ?_
    refine hy_getr (i := 1) rfl rfl ?_
    refine hy_cV0e (i := 2) rfl mj_T_next (by decide) rfl (Nat.le_of_ble_eq_true rfl) rfl rfl rfl (c_T_next (tp_ok.e (And.left (show lp_ok _ by assumption)))) ?_
    refine hy_istore (i := 3) rfl ?_
    refine hy_iload (i := 4) rfl rfl ?_
    refine hy_const (i := 5) rfl (by decide) ?_
    refine hy_ic_eq (i := 6) (tt := 10) rfl (fun zc1 => ?_) (fun zc1 => ?_)
    · omega
    · refine hy_iload (i := 7) rfl rfl ?_
      refine hy_const (i := 8) rfl (by decide) ?_
      refine hy_ic_ne (i := 9) (tt := 12) rfl (fun zc2 => ?_) (fun zc2 => ?_)
      · refine hy_const (i := 12) rfl (by decide) ?_
        refine hy_istore (i := 13) rfl ?_
        refine hy_iload (i := 14) rfl rfl ?_
        refine hy_if_ne (i := 15) (tt := 27) rfl (fun zc3 => ?_) (fun zc3 => ?_)
        · omega
        · refine hy_iload (i := 16) rfl rfl ?_
          refine hy_const (i := 17) rfl (by decide) ?_
          refine hy_ic_eq (i := 18) (tt := 27) rfl (fun zc4 => ?_) (fun zc4 => ?_)
          · omega
          · refine hy_iload (i := 19) rfl rfl ?_
            refine hy_const (i := 20) rfl (by decide) ?_
            refine hy_ic_eq (i := 21) (tt := 27) rfl (fun zc5 => ?_) (fun zc5 => ?_)
            · omega
            · refine hy_aload (i := 22) rfl rfl ?_
              refine hy_getr (i := 23) rfl rfl ?_
              refine hy_const (i := 24) rfl (by decide) ?_
              refine hy_cV1v (i := 25) rfl mj_T_fail (by decide) rfl (Nat.le_of_ble_eq_true rfl) rfl rfl rfl (c_T_fail (by decide) (by have := tp_ok.p (And.left (show lp_ok _ by assumption)); omega)) ?_
              refine hy_return (i := 26) rfl rfl ?_
              exact ⟨rfl, rfl⟩
      · omega
theorem c_L_read {n : Int} (h : tp_ok t) : hy_Ct sc hm_L_read 62 [.inr (some 19), .inl n] t (hy_e (some (rk_read t n 3 4)) (rk_read t n)) := by
  refine hy_mk_ct ok_L_read ck_L_read (Nat.le_of_ble_eq_true rfl) ?_
  have loop : ∀ (m : Nat), ∀ (k : Nat) (t1 : hy_T), m + k = 16 → lp_ok t1 → tp_finish (rk_loop m t1) = rk_read t n → hy_W sc hm_L_read 62 14 [.inr (some 19), .inl n, .inl (k : Int)] [] t1 (hy_e (some (rk_read t n 3 4)) (rk_read t n)) := by
    intro m
    induction m with
    | zero =>
      intro k t1 hn h1 he
      obtain rfl : k = 16 := by omega
      rw [← he]
      refine hy_iload (i := 14) rfl rfl ?_
      refine hy_const (i := 15) rfl (by decide) ?_
      refine hy_ic_ge (i := 16) (tt := 29) rfl (fun zc1 => ?_) (fun zc1 => ?_)
      · refine hy_aload (i := 29) rfl rfl ?_
        refine hy_getr (i := 30) rfl rfl ?_
        refine hy_cV0v (i := 31) rfl mj_T_finish (by decide) rfl (Nat.le_of_ble_eq_true rfl) rfl rfl rfl (c_T_finish (by have := h1.1.p; omega)) ?_
        refine hy_aload (i := 32) rfl rfl ?_
        refine hy_getr (i := 33) rfl rfl ?_
        refine hy_cV0e (i := 34) rfl mj_T_fault (by decide) rfl (Nat.le_of_ble_eq_true rfl) rfl rfl rfl (c_T_fault) ?_
        refine hy_ireturn (i := 35) rfl rfl ?_
        exact ⟨rfl, rfl⟩
      · omega
    | succ m ih =>
      intro k t1 hn h1 he
      by_cases hd : tp_next t1 = 59
      · have h2 := rx_step_ok h1 (by omega)
        have e : rk_loop (m + 1) t1 = rk_loop m (rk_clause (tp_step t1)) := by simp only [rk_loop]; rw [if_pos hd]
        rw [e] at he
        refine hy_iload (i := 14) rfl rfl ?_
        refine hy_const (i := 15) rfl (by decide) ?_
        refine hy_ic_ge (i := 16) (tt := 29) rfl (fun zc1 => ?_) (fun zc1 => ?_)
        · omega
        · refine hy_aload (i := 17) rfl rfl ?_
          refine hy_getr (i := 18) rfl rfl ?_
          refine hy_cV0e (i := 19) rfl mj_T_next (by decide) rfl (Nat.le_of_ble_eq_true rfl) rfl rfl rfl (c_T_next (tp_ok.e (And.left (show lp_ok _ by assumption)))) ?_
          refine hy_const (i := 20) rfl (by decide) ?_
          refine hy_ic_ne (i := 21) (tt := 29) rfl (fun zc2 => ?_) (fun zc2 => ?_)
          · omega
          · refine hy_aload (i := 22) rfl rfl ?_
            refine hy_getr (i := 23) rfl rfl ?_
            refine hy_cV0v (i := 24) rfl mj_T_step (by decide) rfl (Nat.le_of_ble_eq_true rfl) rfl rfl rfl (c_T_step (by have := tp_ok.p (And.left (show lp_ok _ by assumption)); omega)) ?_
            refine hy_aload (i := 25) rfl rfl ?_
            refine hy_cV0v (i := 26) rfl mj_L_readClause (by decide) rfl (Nat.le_of_ble_eq_true rfl) rfl rfl rfl (c_L_readClause (by assumption)) ?_
            refine hy_iinc (i := 27) rfl rfl (by omega) ?_
            refine hy_goto (i := 28) (tt := 14) rfl ?_
            exact ih (k + 1) _ (by omega) (rk_clause_s h2).1 he
      · have e : rk_loop (m + 1) t1 = t1 := by simp only [rk_loop]; rw [if_neg hd]
        rw [e] at he
        rw [← he]
        refine hy_iload (i := 14) rfl rfl ?_
        refine hy_const (i := 15) rfl (by decide) ?_
        refine hy_ic_ge (i := 16) (tt := 29) rfl (fun zc1 => ?_) (fun zc1 => ?_)
        · omega
        · refine hy_aload (i := 17) rfl rfl ?_
          refine hy_getr (i := 18) rfl rfl ?_
          refine hy_cV0e (i := 19) rfl mj_T_next (by decide) rfl (Nat.le_of_ble_eq_true rfl) rfl rfl rfl (c_T_next (tp_ok.e (And.left (show lp_ok _ by assumption)))) ?_
          refine hy_const (i := 20) rfl (by decide) ?_
          refine hy_ic_ne (i := 21) (tt := 29) rfl (fun zc2 => ?_) (fun zc2 => ?_)
          · refine hy_aload (i := 29) rfl rfl ?_
            refine hy_getr (i := 30) rfl rfl ?_
            refine hy_cV0v (i := 31) rfl mj_T_finish (by decide) rfl (Nat.le_of_ble_eq_true rfl) rfl rfl rfl (c_T_finish (by have := h1.1.p; omega)) ?_
            refine hy_aload (i := 32) rfl rfl ?_
            refine hy_getr (i := 33) rfl rfl ?_
            refine hy_cV0e (i := 34) rfl mj_T_fault (by decide) rfl (Nat.le_of_ble_eq_true rfl) rfl rfl rfl (c_T_fault) ?_
            refine hy_ireturn (i := 35) rfl rfl ?_
            exact ⟨rfl, rfl⟩
          · omega
  have h0 := rk_init_s h n
  refine hy_aload (i := 0) rfl rfl ?_
  refine hy_getr (i := 1) rfl rfl ?_
  refine hy_iload (i := 2) rfl rfl ?_
  refine hy_cV1v (i := 3) rfl mj_T_start (by decide) rfl (Nat.le_of_ble_eq_true rfl) rfl rfl rfl (c_T_start) ?_
  refine hy_aload (i := 4) rfl rfl ?_
  refine hy_const (i := 5) rfl (by decide) ?_
  refine hy_put (i := 6) (fk := 7) rfl rfl rfl rfl ?_
  refine hy_aload (i := 7) rfl rfl ?_
  refine hy_const (i := 8) rfl (by decide) ?_
  refine hy_put (i := 9) (fk := 3) rfl rfl rfl rfl ?_
  refine hy_aload (i := 10) rfl rfl ?_
  refine hy_cV0v (i := 11) rfl mj_L_readClause (by decide) rfl (Nat.le_of_ble_eq_true rfl) rfl rfl rfl (c_L_readClause h0) ?_
  refine hy_const (i := 12) rfl (by decide) ?_
  refine hy_istore (i := 13) rfl ?_
  exact loop 16 0 _ rfl (rk_clause_s h0).1 rfl
end RKC
