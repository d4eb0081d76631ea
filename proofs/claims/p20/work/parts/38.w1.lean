/-! the class's own methods: what is told, seen, kept -/
section WA
variable {sc : List Int32} {t : hy_T}
abbrev wf_plain (t : hy_T) (c : Int) : Bool := sp_told (t 5 2) c && !sp_told (t 5 3) c
theorem c_W_colour {c f s : Int} : hy_Ct sc hm_W_colour 3 [.inr (some 2), .inl c, .inl f, .inl s] t (hy_e (some (hy_b (sp_tellable (t 5 2) c f s))) (if sp_tellable (t 5 2) c f s = true then sp_tellC t c f s else t)) := by
  refine hy_mk_ct ok_W_colour ck_W_colour (Nat.le_of_ble_eq_true rfl) ?_
  refine hy_aload (i := 0) rfl rfl ?_
  refine hy_getr (i := 1) rfl rfl ?_
  refine hy_iload (i := 2) rfl rfl ?_
  refine hy_iload (i := 3) rfl rfl ?_
  refine hy_iload (i := 4) rfl rfl ?_
  refine hy_cV3e (i := 5) rfl mj_P_tell (by decide) rfl (Nat.le_of_ble_eq_true rfl) rfl rfl rfl (c_P_tell) ?_
  refine hy_zreturn (i := 6) rfl rfl (by first | decide | exact hy_b01 _) ?_
  exact ⟨rfl, rfl⟩
def wf_have (t : hy_T) (c q e : Int) : Bool := wf_plain t c && decide ((0 ≤ q ∧ q < 4) ∧ 0 ≤ e ∧ e < 64)
theorem c_W_have {c q e : Int} : hy_Ct sc hm_W_have 3 [.inr (some 2), .inl c, .inl q, .inl e] t (hy_e (some (hy_b (wf_have t c q e))) (if wf_have t c q e = true then sp_setH 33 t c q e else t)) := by
  refine hy_mk_ct ok_W_have ck_W_have (Nat.le_of_ble_eq_true rfl) ?_
  by_cases hq : wf_have t c q e = true
  · have h2 := hq
    simp only [wf_have, Bool.and_eq_true, decide_eq_true_eq] at h2
    rw [hq, if_pos rfl]
    refine hy_aload (i := 0) rfl rfl ?_
    refine hy_getr (i := 1) rfl rfl ?_
    refine hy_iload (i := 2) rfl rfl ?_
    refine hy_cV1e (i := 3) rfl mj_P_isPlain (by decide) rfl (Nat.le_of_ble_eq_true rfl) rfl rfl rfl (c_P_isPlain) ?_
    refine hy_ib_eq (i := 4) (tt := 13) rfl (fun zc1 => ?_) (fun zc1 => ?_)
    · simp_all
    · refine hy_iload (i := 5) rfl rfl ?_
      refine hy_cS1e (i := 6) rfl (by decide) mj_W_isQuarter (by decide) rfl (Nat.le_of_ble_eq_true rfl) (c_W_isQuarter) ?_
      refine hy_ib_eq (i := 7) (tt := 13) rfl (fun zc2 => ?_) (fun zc2 => ?_)
      · simp at zc2; omega
      · refine hy_iload (i := 8) rfl rfl ?_
        refine hy_if_lt (i := 9) (tt := 13) rfl (fun zc3 => ?_) (fun zc3 => ?_)
        · omega
        · refine hy_iload (i := 10) rfl rfl ?_
          refine hy_const (i := 11) rfl (by decide) ?_
          refine hy_ic_lt (i := 12) (tt := 15) rfl (fun zc4 => ?_) (fun zc4 => ?_)
          · refine hy_aload (i := 15) rfl rfl ?_
            refine hy_getr (i := 16) rfl rfl ?_
            refine hy_iload (i := 17) rfl rfl ?_
            refine hy_iload (i := 18) rfl rfl ?_
            refine hy_iload (i := 19) rfl rfl ?_
            refine hy_cV3v (i := 20) rfl mj_S_setHavers (by decide) rfl (Nat.le_of_ble_eq_true rfl) rfl rfl rfl (c_S_setHavers_33) ?_
            refine hy_const (i := 21) rfl (by decide) ?_
            refine hy_zreturn (i := 22) rfl rfl (by first | decide | exact hy_b01 _) ?_
            exact ⟨rfl, rfl⟩
          · omega
  · rw [Bool.not_eq_true] at hq
    have h2 := hq
    rw [hq, if_neg (by decide)]
    refine hy_aload (i := 0) rfl rfl ?_
    refine hy_getr (i := 1) rfl rfl ?_
    refine hy_iload (i := 2) rfl rfl ?_
    refine hy_cV1e (i := 3) rfl mj_P_isPlain (by decide) rfl (Nat.le_of_ble_eq_true rfl) rfl rfl rfl (c_P_isPlain) ?_
    refine hy_ib_eq (i := 4) (tt := 13) rfl (fun zc1 => ?_) (fun zc1 => ?_)
    · refine hy_const (i := 13) rfl (by decide) ?_
      refine hy_zreturn (i := 14) rfl rfl (by first | decide | exact hy_b01 _) ?_
      exact ⟨rfl, rfl⟩
    · refine hy_iload (i := 5) rfl rfl ?_
      refine hy_cS1e (i := 6) rfl (by decide) mj_W_isQuarter (by decide) rfl (Nat.le_of_ble_eq_true rfl) (c_W_isQuarter) ?_
      refine hy_ib_eq (i := 7) (tt := 13) rfl (fun zc2 => ?_) (fun zc2 => ?_)
      · refine hy_const (i := 13) rfl (by decide) ?_
        refine hy_zreturn (i := 14) rfl rfl (by first | decide | exact hy_b01 _) ?_
        exact ⟨rfl, rfl⟩
      · refine hy_iload (i := 8) rfl rfl ?_
        refine hy_if_lt (i := 9) (tt := 13) rfl (fun zc3 => ?_) (fun zc3 => ?_)
        · refine hy_const (i := 13) rfl (by decide) ?_
          refine hy_zreturn (i := 14) rfl rfl (by first | decide | exact hy_b01 _) ?_
          exact ⟨rfl, rfl⟩
        · refine hy_iload (i := 10) rfl rfl ?_
          refine hy_const (i := 11) rfl (by decide) ?_
          refine hy_ic_lt (i := 12) (tt := 15) rfl (fun zc4 => ?_) (fun zc4 => ?_)
          · exfalso; simp only [wf_have, wf_plain] at h2; rw [zc1, Bool.true_and] at h2; simp at h2 zc2; omega
          · refine hy_const (i := 13) rfl (by decide) ?_
            refine hy_zreturn (i := 14) rfl rfl (by first | decide | exact hy_b01 _) ?_
            exact ⟨rfl, rfl⟩
def wf_owner (x y e : Int) : Bool := decide (((0 ≤ x ∧ x < 8) ∧ 0 ≤ y ∧ y < 8) ∧ 0 ≤ e ∧ e ≤ 6)
theorem c_W_owner {x y e : Int} : hy_Ct sc hm_W_owner 2 [.inr (some 2), .inl x, .inl y, .inl e] t (hy_e (some (hy_b (wf_owner x y e))) (if wf_owner x y e = true then hy_up t 35 (8 * y + x).toNat e else t)) := by
  refine hy_mk_ct ok_W_owner ck_W_owner (Nat.le_of_ble_eq_true rfl) ?_
  by_cases hq : wf_owner x y e = true
  · have h2 := hq
    simp only [wf_owner, decide_eq_true_eq] at h2
    rw [hq, if_pos rfl]
    refine hy_iload (i := 0) rfl rfl ?_
    refine hy_iload (i := 1) rfl rfl ?_
    refine hy_cS2e (i := 2) rfl (by decide) mj_W_isPlace (by decide) rfl (Nat.le_of_ble_eq_true rfl) (c_W_isPlace) ?_
    refine hy_ib_eq (i := 3) (tt := 9) rfl (fun zc1 => ?_) (fun zc1 => ?_)
    · simp at zc1; omega
    · refine hy_iload (i := 4) rfl rfl ?_
      refine hy_if_lt (i := 5) (tt := 9) rfl (fun zc2 => ?_) (fun zc2 => ?_)
      · omega
      · refine hy_iload (i := 6) rfl rfl ?_
        refine hy_const (i := 7) rfl (by decide) ?_
        refine hy_ic_le (i := 8) (tt := 11) rfl (fun zc3 => ?_) (fun zc3 => ?_)
        · refine hy_aload (i := 11) rfl rfl ?_
          refine hy_getr (i := 12) rfl rfl ?_
          refine hy_const (i := 13) rfl (by decide) ?_
          refine hy_iload (i := 14) rfl rfl ?_
          refine hy_imul (i := 15) rfl (by omega) ?_
          refine hy_iload (i := 16) rfl rfl ?_
          refine hy_iadd (i := 17) rfl (by omega) ?_
          refine hy_iload (i := 18) rfl rfl ?_
          refine hy_cV2v (i := 19) rfl mj_S_setOwner (by decide) rfl (Nat.le_of_ble_eq_true rfl) rfl rfl rfl (c_S_setOwner_33) ?_
          refine hy_const (i := 20) rfl (by decide) ?_
          refine hy_zreturn (i := 21) rfl rfl (by first | decide | exact hy_b01 _) ?_
          exact ⟨rfl, by rw [if_pos (by omega)]⟩
        · omega
  · rw [Bool.not_eq_true] at hq
    have h2 := hq
    simp only [wf_owner, decide_eq_false_iff_not] at h2
    rw [hq, if_neg (by decide)]
    refine hy_iload (i := 0) rfl rfl ?_
    refine hy_iload (i := 1) rfl rfl ?_
    refine hy_cS2e (i := 2) rfl (by decide) mj_W_isPlace (by decide) rfl (Nat.le_of_ble_eq_true rfl) (c_W_isPlace) ?_
    refine hy_ib_eq (i := 3) (tt := 9) rfl (fun zc1 => ?_) (fun zc1 => ?_)
    · refine hy_const (i := 9) rfl (by decide) ?_
      refine hy_zreturn (i := 10) rfl rfl (by first | decide | exact hy_b01 _) ?_
      exact ⟨rfl, rfl⟩
    · refine hy_iload (i := 4) rfl rfl ?_
      refine hy_if_lt (i := 5) (tt := 9) rfl (fun zc2 => ?_) (fun zc2 => ?_)
      · refine hy_const (i := 9) rfl (by decide) ?_
        refine hy_zreturn (i := 10) rfl rfl (by first | decide | exact hy_b01 _) ?_
        exact ⟨rfl, rfl⟩
      · refine hy_iload (i := 6) rfl rfl ?_
        refine hy_const (i := 7) rfl (by decide) ?_
        refine hy_ic_le (i := 8) (tt := 11) rfl (fun zc3 => ?_) (fun zc3 => ?_)
        · simp at zc1; omega
        · refine hy_const (i := 9) rfl (by decide) ?_
          refine hy_zreturn (i := 10) rfl rfl (by first | decide | exact hy_b01 _) ?_
          exact ⟨rfl, rfl⟩
def wf_feed (t : hy_T) (a b c d e : Int) : hy_T := tp_add (tp_add (tp_add (tp_add (tp_add t a) b) c) d) e
theorem tp_add1_l {t : hy_T} {v : Int} (h : t 3 1 < 260) : tp_add1 t v 3 1 = t 3 1 + 1 := by
  unfold tp_add1
  rw [if_pos h]
  rfl
theorem tp_add_l {t : hy_T} {w : Int} (h : t 3 1 ≤ 256) : tp_add t w 3 1 = t 3 1 + 4 := by
  unfold tp_add
  have h1 := tp_add1_l (t := t) (v := tp_byte w 24) (by omega)
  have h2 := tp_add1_l (t := tp_add1 t (tp_byte w 24)) (v := tp_byte w 16) (by omega)
  have h3 := tp_add1_l (t := tp_add1 (tp_add1 t (tp_byte w 24)) (tp_byte w 16)) (v := tp_byte w 8) (by omega)
  have h4 := tp_add1_l (t := tp_add1 (tp_add1 (tp_add1 t (tp_byte w 24)) (tp_byte w 16)) (tp_byte w 8)) (v := tp_byte w 0) (by omega)
  omega
theorem c_W_feed {a b c d e : Int} (hl : 0 ≤ t 3 1 ∧ t 3 1 ≤ 260) : hy_Ct sc hm_W_feed 1 [.inr (some 2), .inl a, .inl b, .inl c, .inl d, .inl e] t (hy_e (some (if t 3 1 ≤ 240 then t 3 1 + 20 else -1)) (if t 3 1 ≤ 240 then wf_feed t a b c d e else t)) := by
  refine hy_mk_ct ok_W_feed ck_W_feed (Nat.le_of_ble_eq_true rfl) ?_
  by_cases hq : t 3 1 ≤ 240
  · rw [if_pos hq, if_pos hq]
    have h1 := tp_add_l (t := t) (w := a) (by omega)
    have h2 := tp_add_l (t := tp_add t a) (w := b) (by omega)
    have h3 := tp_add_l (t := tp_add (tp_add t a) b) (w := c) (by omega)
    have h4 := tp_add_l (t := tp_add (tp_add (tp_add t a) b) c) (w := d) (by omega)
    have h5 := tp_add_l (t := tp_add (tp_add (tp_add (tp_add t a) b) c) d) (w := e) (by omega)
    refine hy_aload (i := 0) rfl rfl ?_
    refine hy_getr (i := 1) rfl rfl ?_
    refine hy_cV0e (i := 2) rfl mj_T_length (by decide) rfl (Nat.le_of_ble_eq_true rfl) rfl rfl rfl (c_T_length) ?_
    refine hy_const (i := 3) rfl (by decide) ?_
    refine hy_iadd (i := 4) rfl (by omega) ?_
    refine hy_const (i := 5) rfl (by decide) ?_
    refine hy_ic_le (i := 6) (tt := 9) rfl (fun zc1 => ?_) (fun zc1 => ?_)
    · refine hy_aload (i := 9) rfl rfl ?_
      refine hy_getr (i := 10) rfl rfl ?_
      refine hy_iload (i := 11) rfl rfl ?_
      refine hy_cV1v (i := 12) rfl mj_T_add (by decide) rfl (Nat.le_of_ble_eq_true rfl) rfl rfl rfl (c_T_add (by omega)) ?_
      refine hy_aload (i := 13) rfl rfl ?_
      refine hy_getr (i := 14) rfl rfl ?_
      refine hy_iload (i := 15) rfl rfl ?_
      refine hy_cV1v (i := 16) rfl mj_T_add (by decide) rfl (Nat.le_of_ble_eq_true rfl) rfl rfl rfl (c_T_add (by omega)) ?_
      refine hy_aload (i := 17) rfl rfl ?_
      refine hy_getr (i := 18) rfl rfl ?_
      refine hy_iload (i := 19) rfl rfl ?_
      refine hy_cV1v (i := 20) rfl mj_T_add (by decide) rfl (Nat.le_of_ble_eq_true rfl) rfl rfl rfl (c_T_add (by omega)) ?_
      refine hy_aload (i := 21) rfl rfl ?_
      refine hy_getr (i := 22) rfl rfl ?_
      refine hy_iload (i := 23) rfl rfl ?_
      refine hy_cV1v (i := 24) rfl mj_T_add (by decide) rfl (Nat.le_of_ble_eq_true rfl) rfl rfl rfl (c_T_add (by omega)) ?_
      refine hy_aload (i := 25) rfl rfl ?_
      refine hy_getr (i := 26) rfl rfl ?_
      refine hy_iload (i := 27) rfl rfl ?_
      refine hy_cV1v (i := 28) rfl mj_T_add (by decide) rfl (Nat.le_of_ble_eq_true rfl) rfl rfl rfl (c_T_add (by omega)) ?_
      refine hy_aload (i := 29) rfl rfl ?_
      refine hy_getr (i := 30) rfl rfl ?_
      refine hy_cV0e (i := 31) rfl mj_T_length (by decide) rfl (Nat.le_of_ble_eq_true rfl) rfl rfl rfl (c_T_length) ?_
      refine hy_ireturn (i := 32) rfl rfl ?_
      exact ⟨congrArg some (by omega), rfl⟩
    · omega
  · rw [if_neg hq, if_neg hq]
    refine hy_aload (i := 0) rfl rfl ?_
    refine hy_getr (i := 1) rfl rfl ?_
    refine hy_cV0e (i := 2) rfl mj_T_length (by decide) rfl (Nat.le_of_ble_eq_true rfl) rfl rfl rfl (c_T_length) ?_
    refine hy_const (i := 3) rfl (by decide) ?_
    refine hy_iadd (i := 4) rfl (by omega) ?_
    refine hy_const (i := 5) rfl (by decide) ?_
    refine hy_ic_le (i := 6) (tt := 9) rfl (fun zc1 => ?_) (fun zc1 => ?_)
    · omega
    · refine hy_const (i := 7) rfl (by decide) ?_
      refine hy_ireturn (i := 8) rfl rfl ?_
      exact ⟨rfl, rfl⟩
theorem c_W_isOnTape {n m : Int} : hy_Ct sc hm_W_isOnTape 1 [.inr (some 2), .inl n, .inl m] t (hy_e (some (hy_b (decide (1 ≤ n ∧ n ≤ m ∧ n ≤ t 3 1)))) t) := by
  refine hy_mk_ct ok_W_isOnTape ck_W_isOnTape (Nat.le_of_ble_eq_true rfl) ?_
  refine hy_iload (i := 0) rfl rfl ?_
  refine hy_const (i := 1) rfl (by decide) ?_
  refine hy_ic_lt (i := 2) (tt := 13) rfl (fun zc1 => ?_) (fun zc1 => ?_)
  · refine hy_const (i := 13) rfl (by decide) ?_
    refine hy_zreturn (i := 14) rfl rfl (by first | decide | exact hy_b01 _) ?_
    exact ⟨congrArg some (by first | (rw [decide_eq_true (by omega)]; rfl) | (rw [decide_eq_false (by omega)]; rfl)), rfl⟩
  · refine hy_iload (i := 3) rfl rfl ?_
    refine hy_iload (i := 4) rfl rfl ?_
    refine hy_ic_gt (i := 5) (tt := 13) rfl (fun zc2 => ?_) (fun zc2 => ?_)
    · refine hy_const (i := 13) rfl (by decide) ?_
      refine hy_zreturn (i := 14) rfl rfl (by first | decide | exact hy_b01 _) ?_
      exact ⟨congrArg some (by first | (rw [decide_eq_true (by omega)]; rfl) | (rw [decide_eq_false (by omega)]; rfl)), rfl⟩
    · refine hy_iload (i := 6) rfl rfl ?_
      refine hy_aload (i := 7) rfl rfl ?_
      refine hy_getr (i := 8) rfl rfl ?_
      refine hy_cV0e (i := 9) rfl mj_T_length (by decide) rfl (Nat.le_of_ble_eq_true rfl) rfl rfl rfl (c_T_length) ?_
      refine hy_ic_gt (i := 10) (tt := 13) rfl (fun zc3 => ?_) (fun zc3 => ?_)
      · refine hy_const (i := 13) rfl (by decide) ?_
        refine hy_zreturn (i := 14) rfl rfl (by first | decide | exact hy_b01 _) ?_
        exact ⟨congrArg some (by first | (rw [decide_eq_true (by omega)]; rfl) | (rw [decide_eq_false (by omega)]; rfl)), rfl⟩
      · refine hy_const (i := 11) rfl (by decide) ?_
        refine hy_goto (i := 12) (tt := 14) rfl ?_
        refine hy_zreturn (i := 14) rfl rfl (by first | decide | exact hy_b01 _) ?_
        exact ⟨congrArg some (by first | (rw [decide_eq_true (by omega)]; rfl) | (rw [decide_eq_false (by omega)]; rfl)), rfl⟩
def wf_law (t : hy_T) (n : Int) : Int × hy_T :=
  if 1 ≤ n ∧ n ≤ 240 ∧ n ≤ t 3 1 then (if rk_read t n 3 4 = 0 then (lp_lawcp (hy_up (rk_read t n) 3 1 0) 11 7, lp_lawcp (hy_up (rk_read t n) 3 1 0)) else (rk_read t n 3 4, hy_up (rk_read t n) 3 1 0)) else (-1, t)
theorem c_W_law {n : Int} (h : tp_ok t) : hy_Ct sc hm_W_law 63 [.inr (some 2), .inl n] t (hy_e (some (wf_law t n).1) (wf_law t n).2) := by
  refine hy_mk_ct ok_W_law ck_W_law (Nat.le_of_ble_eq_true rfl) ?_
  by_cases hq : 1 ≤ n ∧ n ≤ 240 ∧ n ≤ t 3 1
  · by_cases hf : rk_read t n 3 4 = 0
    · have e : wf_law t n = (lp_lawcp (hy_up (rk_read t n) 3 1 0) 11 7, lp_lawcp (hy_up (rk_read t n) 3 1 0)) := by unfold wf_law; rw [if_pos hq, if_pos hf]
      rw [e]
      refine hy_aload (i := 0) rfl rfl ?_
      refine hy_iload (i := 1) rfl rfl ?_
      refine hy_const (i := 2) rfl (by decide) ?_
      refine hy_cV2e (i := 3) rfl mj_W_isOnTape (by decide) rfl (Nat.le_of_ble_eq_true rfl) rfl rfl rfl (c_W_isOnTape) ?_
      refine hy_ib_ne (i := 4) (tt := 7) rfl (fun zc1 => ?_) (fun zc1 => ?_)
      · refine hy_aload (i := 7) rfl rfl ?_
        refine hy_getr (i := 8) rfl rfl ?_
        refine hy_iload (i := 9) rfl rfl ?_
        refine hy_cV1e (i := 10) rfl mj_L_read (by decide) rfl (Nat.le_of_ble_eq_true rfl) rfl rfl rfl (c_L_read (by assumption)) ?_
        refine hy_istore (i := 11) rfl ?_
        refine hy_aload (i := 12) rfl rfl ?_
        refine hy_getr (i := 13) rfl rfl ?_
        refine hy_cV0v (i := 14) rfl mj_T_clear (by decide) rfl (Nat.le_of_ble_eq_true rfl) rfl rfl rfl (c_T_clear) ?_
        refine hy_iload (i := 15) rfl rfl ?_
        refine hy_if_eq (i := 16) (tt := 19) rfl (fun zc2 => ?_) (fun zc2 => ?_)
        · refine hy_aload (i := 19) rfl rfl ?_
          refine hy_getr (i := 20) rfl rfl ?_
          refine hy_aload (i := 21) rfl rfl ?_
          refine hy_getr (i := 22) rfl rfl ?_
          refine hy_cV1v (i := 23) rfl mj_L_copyFrom (by decide) rfl (Nat.le_of_ble_eq_true rfl) rfl rfl rfl (c_L_copyFrom) ?_
          refine hy_aload (i := 24) rfl rfl ?_
          refine hy_getr (i := 25) rfl rfl ?_
          refine hy_cV0e (i := 26) rfl mj_L_clauses (by decide) rfl (Nat.le_of_ble_eq_true rfl) rfl rfl rfl (c_L_clauses) ?_
          refine hy_ireturn (i := 27) rfl rfl ?_
          exact ⟨rfl, rfl⟩
        · omega
      · simp at zc1; omega
    · have e : wf_law t n = (rk_read t n 3 4, hy_up (rk_read t n) 3 1 0) := by unfold wf_law; rw [if_pos hq, if_neg hf]
      rw [e]
      refine hy_aload (i := 0) rfl rfl ?_
      refine hy_iload (i := 1) rfl rfl ?_
      refine hy_const (i := 2) rfl (by decide) ?_
      refine hy_cV2e (i := 3) rfl mj_W_isOnTape (by decide) rfl (Nat.le_of_ble_eq_true rfl) rfl rfl rfl (c_W_isOnTape) ?_
      refine hy_ib_ne (i := 4) (tt := 7) rfl (fun zc1 => ?_) (fun zc1 => ?_)
      · refine hy_aload (i := 7) rfl rfl ?_
        refine hy_getr (i := 8) rfl rfl ?_
        refine hy_iload (i := 9) rfl rfl ?_
        refine hy_cV1e (i := 10) rfl mj_L_read (by decide) rfl (Nat.le_of_ble_eq_true rfl) rfl rfl rfl (c_L_read (by assumption)) ?_
        refine hy_istore (i := 11) rfl ?_
        refine hy_aload (i := 12) rfl rfl ?_
        refine hy_getr (i := 13) rfl rfl ?_
        refine hy_cV0v (i := 14) rfl mj_T_clear (by decide) rfl (Nat.le_of_ble_eq_true rfl) rfl rfl rfl (c_T_clear) ?_
        refine hy_iload (i := 15) rfl rfl ?_
        refine hy_if_eq (i := 16) (tt := 19) rfl (fun zc2 => ?_) (fun zc2 => ?_)
        · omega
        · refine hy_iload (i := 17) rfl rfl ?_
          refine hy_ireturn (i := 18) rfl rfl ?_
          exact ⟨rfl, rfl⟩
      · simp at zc1; omega
  · have e : wf_law t n = (-1, t) := by unfold wf_law; rw [if_neg hq]
    rw [e]
    refine hy_aload (i := 0) rfl rfl ?_
    refine hy_iload (i := 1) rfl rfl ?_
    refine hy_const (i := 2) rfl (by decide) ?_
    refine hy_cV2e (i := 3) rfl mj_W_isOnTape (by decide) rfl (Nat.le_of_ble_eq_true rfl) rfl rfl rfl (c_W_isOnTape) ?_
    refine hy_ib_ne (i := 4) (tt := 7) rfl (fun zc1 => ?_) (fun zc1 => ?_)
    · simp at zc1; omega
    · refine hy_const (i := 5) rfl (by decide) ?_
      refine hy_ireturn (i := 6) rfl rfl ?_
      exact ⟨rfl, rfl⟩
def wf_land (t : hy_T) (n : Int) : Int × hy_T :=
  if 1 ≤ n ∧ n ≤ 160 ∧ n ≤ t 3 1 then (if gd_read t n 3 4 = 0 then (sp_paintedN (hy_up (gd_read t n) 3 1 0) 64, hy_up (gd_read t n) 3 1 0) else (gd_read t n 3 4, hy_up (gd_read t n) 3 1 0)) else (-1, t)
theorem c_W_land {n : Int} (h : tp_ok t) : hy_Ct sc hm_W_land 5 [.inr (some 2), .inl n] t (hy_e (some (wf_land t n).1) (wf_land t n).2) := by
  refine hy_mk_ct ok_W_land ck_W_land (Nat.le_of_ble_eq_true rfl) ?_
  by_cases hq : 1 ≤ n ∧ n ≤ 160 ∧ n ≤ t 3 1
  · by_cases hf : gd_read t n 3 4 = 0
    · have e : wf_land t n = (sp_paintedN (hy_up (gd_read t n) 3 1 0) 64, hy_up (gd_read t n) 3 1 0) := by unfold wf_land; rw [if_pos hq, if_pos hf]
      rw [e]
      refine hy_aload (i := 0) rfl rfl ?_
      refine hy_iload (i := 1) rfl rfl ?_
      refine hy_const (i := 2) rfl (by decide) ?_
      refine hy_cV2e (i := 3) rfl mj_W_isOnTape (by decide) rfl (Nat.le_of_ble_eq_true rfl) rfl rfl rfl (c_W_isOnTape) ?_
      refine hy_ib_ne (i := 4) (tt := 7) rfl (fun zc1 => ?_) (fun zc1 => ?_)
      · refine hy_aload (i := 7) rfl rfl ?_
        refine hy_getr (i := 8) rfl rfl ?_
        refine hy_iload (i := 9) rfl rfl ?_
        refine hy_cV1e (i := 10) rfl mj_G_read (by decide) rfl (Nat.le_of_ble_eq_true rfl) rfl rfl rfl (c_G_read (by assumption)) ?_
        refine hy_istore (i := 11) rfl ?_
        refine hy_aload (i := 12) rfl rfl ?_
        refine hy_getr (i := 13) rfl rfl ?_
        refine hy_cV0v (i := 14) rfl mj_T_clear (by decide) rfl (Nat.le_of_ble_eq_true rfl) rfl rfl rfl (c_T_clear) ?_
        refine hy_iload (i := 15) rfl rfl ?_
        refine hy_if_eq (i := 16) (tt := 19) rfl (fun zc2 => ?_) (fun zc2 => ?_)
        · refine hy_aload (i := 19) rfl rfl ?_
          refine hy_getr (i := 20) rfl rfl ?_
          refine hy_cV0e (i := 21) rfl mj_G_painted (by decide) rfl (Nat.le_of_ble_eq_true rfl) rfl rfl rfl (c_G_painted) ?_
          refine hy_ireturn (i := 22) rfl rfl ?_
          exact ⟨rfl, rfl⟩
        · omega
      · simp at zc1; omega
    · have e : wf_land t n = (gd_read t n 3 4, hy_up (gd_read t n) 3 1 0) := by unfold wf_land; rw [if_pos hq, if_neg hf]
      rw [e]
      refine hy_aload (i := 0) rfl rfl ?_
      refine hy_iload (i := 1) rfl rfl ?_
      refine hy_const (i := 2) rfl (by decide) ?_
      refine hy_cV2e (i := 3) rfl mj_W_isOnTape (by decide) rfl (Nat.le_of_ble_eq_true rfl) rfl rfl rfl (c_W_isOnTape) ?_
      refine hy_ib_ne (i := 4) (tt := 7) rfl (fun zc1 => ?_) (fun zc1 => ?_)
      · refine hy_aload (i := 7) rfl rfl ?_
        refine hy_getr (i := 8) rfl rfl ?_
        refine hy_iload (i := 9) rfl rfl ?_
        refine hy_cV1e (i := 10) rfl mj_G_read (by decide) rfl (Nat.le_of_ble_eq_true rfl) rfl rfl rfl (c_G_read (by assumption)) ?_
        refine hy_istore (i := 11) rfl ?_
        refine hy_aload (i := 12) rfl rfl ?_
        refine hy_getr (i := 13) rfl rfl ?_
        refine hy_cV0v (i := 14) rfl mj_T_clear (by decide) rfl (Nat.le_of_ble_eq_true rfl) rfl rfl rfl (c_T_clear) ?_
        refine hy_iload (i := 15) rfl rfl ?_
        refine hy_if_eq (i := 16) (tt := 19) rfl (fun zc2 => ?_) (fun zc2 => ?_)
        · omega
        · refine hy_iload (i := 17) rfl rfl ?_
          refine hy_goto (i := 18) (tt := 22) rfl ?_
          refine hy_ireturn (i := 22) rfl rfl ?_
          exact ⟨rfl, rfl⟩
      · simp at zc1; omega
  · have e : wf_land t n = (-1, t) := by unfold wf_land; rw [if_neg hq]
    rw [e]
    refine hy_aload (i := 0) rfl rfl ?_
    refine hy_iload (i := 1) rfl rfl ?_
    refine hy_const (i := 2) rfl (by decide) ?_
    refine hy_cV2e (i := 3) rfl mj_W_isOnTape (by decide) rfl (Nat.le_of_ble_eq_true rfl) rfl rfl rfl (c_W_isOnTape) ?_
    refine hy_ib_ne (i := 4) (tt := 7) rfl (fun zc1 => ?_) (fun zc1 => ?_)
    · simp at zc1; omega
    · refine hy_const (i := 5) rfl (by decide) ?_
      refine hy_ireturn (i := 6) rfl rfl ?_
      exact ⟨rfl, rfl⟩
def wf_seed (x : Int) : Bool := decide (0 ≤ x ∧ x ≤ 65535)
theorem c_W_seed {x : Int} : hy_Ct sc hm_W_seed 1 [.inr (some 2), .inl x] t (hy_e (some (hy_b (wf_seed x))) (if wf_seed x = true then hy_up t 33 5 x else t)) := by
  refine hy_mk_ct ok_W_seed ck_W_seed (Nat.le_of_ble_eq_true rfl) ?_
  by_cases hq : wf_seed x = true
  · have h2 := hq
    simp only [wf_seed, decide_eq_true_eq] at h2
    rw [hq, if_pos rfl]
    refine hy_iload (i := 0) rfl rfl ?_
    refine hy_if_lt (i := 1) (tt := 5) rfl (fun zc1 => ?_) (fun zc1 => ?_)
    · omega
    · refine hy_iload (i := 2) rfl rfl ?_
      refine hy_const (i := 3) rfl (by decide) ?_
      refine hy_ic_le (i := 4) (tt := 7) rfl (fun zc2 => ?_) (fun zc2 => ?_)
      · refine hy_aload (i := 7) rfl rfl ?_
        refine hy_getr (i := 8) rfl rfl ?_
        refine hy_iload (i := 9) rfl rfl ?_
        refine hy_cV1v (i := 10) rfl mj_S_setDraw (by decide) rfl (Nat.le_of_ble_eq_true rfl) rfl rfl rfl (c_S_setDraw_33) ?_
        refine hy_const (i := 11) rfl (by decide) ?_
        refine hy_zreturn (i := 12) rfl rfl (by first | decide | exact hy_b01 _) ?_
        exact ⟨rfl, rfl⟩
      · omega
  · rw [Bool.not_eq_true] at hq
    have h2 := hq
    simp only [wf_seed, decide_eq_false_iff_not] at h2
    rw [hq, if_neg (by decide)]
    refine hy_iload (i := 0) rfl rfl ?_
    refine hy_if_lt (i := 1) (tt := 5) rfl (fun zc1 => ?_) (fun zc1 => ?_)
    · refine hy_const (i := 5) rfl (by decide) ?_
      refine hy_zreturn (i := 6) rfl rfl (by first | decide | exact hy_b01 _) ?_
      exact ⟨rfl, rfl⟩
    · refine hy_iload (i := 2) rfl rfl ?_
      refine hy_const (i := 3) rfl (by decide) ?_
      refine hy_ic_le (i := 4) (tt := 7) rfl (fun zc2 => ?_) (fun zc2 => ?_)
      · omega
      · refine hy_const (i := 5) rfl (by decide) ?_
        refine hy_zreturn (i := 6) rfl rfl (by first | decide | exact hy_b01 _) ?_
        exact ⟨rfl, rfl⟩
theorem c_W_treatyIs {i w : Int} (hc : 0 ≤ t 33 3 ∧ t 33 3 ≤ 16) : hy_Ct sc hm_W_treatyIs 2 [.inr (some 2), .inl i, .inl w] t (hy_e (some (if (0 ≤ i ∧ i < t 33 3) ∧ 0 ≤ w ∧ w < 6 then t 36 (6 * i + w).toNat else -1)) t) := by
  refine hy_mk_ct ok_W_treatyIs ck_W_treatyIs (Nat.le_of_ble_eq_true rfl) ?_
  by_cases hq : (0 ≤ i ∧ i < t 33 3) ∧ 0 ≤ w ∧ w < 6
  · rw [if_pos hq]
    refine hy_iload (i := 0) rfl rfl ?_
    refine hy_if_lt (i := 1) (tt := 11) rfl (fun zc1 => ?_) (fun zc1 => ?_)
    · omega
    · refine hy_iload (i := 2) rfl rfl ?_
      refine hy_aload (i := 3) rfl rfl ?_
      refine hy_getr (i := 4) rfl rfl ?_
      refine hy_cV0e (i := 5) rfl mj_S_treatyCount (by decide) rfl (Nat.le_of_ble_eq_true rfl) rfl rfl rfl (c_S_treatyCount_33) ?_
      refine hy_ic_ge (i := 6) (tt := 11) rfl (fun zc2 => ?_) (fun zc2 => ?_)
      · omega
      · refine hy_iload (i := 7) rfl rfl ?_
        refine hy_const (i := 8) rfl (by decide) ?_
        refine hy_cS2e (i := 9) rfl (by decide) mj_W_isAmong (by decide) rfl (Nat.le_of_ble_eq_true rfl) (c_W_isAmong) ?_
        refine hy_ib_ne (i := 10) (tt := 13) rfl (fun zc3 => ?_) (fun zc3 => ?_)
        · refine hy_aload (i := 13) rfl rfl ?_
          refine hy_getr (i := 14) rfl rfl ?_
          refine hy_iload (i := 15) rfl rfl ?_
          refine hy_iload (i := 16) rfl rfl ?_
          refine hy_cV2e (i := 17) rfl mj_S_part (by decide) rfl (Nat.le_of_ble_eq_true rfl) rfl rfl rfl (c_S_part_33 (by assumption)) ?_
          refine hy_ireturn (i := 18) rfl rfl ?_
          exact ⟨congrArg some (by unfold sp_part; rw [if_pos hq]), rfl⟩
        · simp at zc3; omega
  · rw [if_neg hq]
    refine hy_iload (i := 0) rfl rfl ?_
    refine hy_if_lt (i := 1) (tt := 11) rfl (fun zc1 => ?_) (fun zc1 => ?_)
    · refine hy_const (i := 11) rfl (by decide) ?_
      refine hy_ireturn (i := 12) rfl rfl ?_
      exact ⟨rfl, rfl⟩
    · refine hy_iload (i := 2) rfl rfl ?_
      refine hy_aload (i := 3) rfl rfl ?_
      refine hy_getr (i := 4) rfl rfl ?_
      refine hy_cV0e (i := 5) rfl mj_S_treatyCount (by decide) rfl (Nat.le_of_ble_eq_true rfl) rfl rfl rfl (c_S_treatyCount_33) ?_
      refine hy_ic_ge (i := 6) (tt := 11) rfl (fun zc2 => ?_) (fun zc2 => ?_)
      · refine hy_const (i := 11) rfl (by decide) ?_
        refine hy_ireturn (i := 12) rfl rfl ?_
        exact ⟨rfl, rfl⟩
      · refine hy_iload (i := 7) rfl rfl ?_
        refine hy_const (i := 8) rfl (by decide) ?_
        refine hy_cS2e (i := 9) rfl (by decide) mj_W_isAmong (by decide) rfl (Nat.le_of_ble_eq_true rfl) (c_W_isAmong) ?_
        refine hy_ib_ne (i := 10) (tt := 13) rfl (fun zc3 => ?_) (fun zc3 => ?_)
        · simp at zc3; omega
        · refine hy_const (i := 11) rfl (by decide) ?_
          refine hy_ireturn (i := 12) rfl rfl ?_
          exact ⟨rfl, rfl⟩
theorem c_W_keep : hy_Ct sc hm_W_keep 1 [.inr (some 2)] t (hy_e (some (t 33 3)) (hy_up (sp_scopy t 33 37) 2 9 1)) := by
  refine hy_mk_ct ok_W_keep ck_W_keep (Nat.le_of_ble_eq_true rfl) ?_
  refine hy_aload (i := 0) rfl rfl ?_
  refine hy_getr (i := 1) rfl rfl ?_
  refine hy_aload (i := 2) rfl rfl ?_
  refine hy_getr (i := 3) rfl rfl ?_
  refine hy_cV1v (i := 4) rfl mj_S_copyFrom (by decide) rfl (Nat.le_of_ble_eq_true rfl) rfl rfl rfl (c_S_copyFrom_33_37) ?_
  refine hy_aload (i := 5) rfl rfl ?_
  refine hy_const (i := 6) rfl (by decide) ?_
  refine hy_putz (i := 7) (fk := 9) rfl rfl rfl rfl (by decide) ?_
  refine hy_aload (i := 8) rfl rfl ?_
  refine hy_getr (i := 9) rfl rfl ?_
  refine hy_cV0e (i := 10) rfl mj_S_treatyCount (by decide) rfl (Nat.le_of_ble_eq_true rfl) rfl rfl rfl (c_S_treatyCount_33) ?_
  refine hy_ireturn (i := 11) rfl rfl ?_
  exact ⟨rfl, rfl⟩
theorem c_W_undo : hy_Ct sc hm_W_undo 1 [.inr (some 2)] t (hy_e (some (if t 2 9 = 0 then 0 else 1)) (if t 2 9 = 0 then t else sp_scopy t 37 33)) := by
  refine hy_mk_ct ok_W_undo ck_W_undo (Nat.le_of_ble_eq_true rfl) ?_
  refine hy_aload (i := 0) rfl rfl ?_
  refine hy_get (i := 1) (fk := 9) rfl rfl rfl ?_
  refine hy_if_ne (i := 2) (tt := 5) rfl (fun zc1 => ?_) (fun zc1 => ?_)
  · refine hy_aload (i := 5) rfl rfl ?_
    refine hy_getr (i := 6) rfl rfl ?_
    refine hy_aload (i := 7) rfl rfl ?_
    refine hy_getr (i := 8) rfl rfl ?_
    refine hy_cV1v (i := 9) rfl mj_S_copyFrom (by decide) rfl (Nat.le_of_ble_eq_true rfl) rfl rfl rfl (c_S_copyFrom_37_33) ?_
    refine hy_const (i := 10) rfl (by decide) ?_
    refine hy_zreturn (i := 11) rfl rfl (by first | decide | exact hy_b01 _) ?_
    first | (rw [if_neg zc1, if_neg zc1]; exact ⟨rfl, rfl⟩) | (rw [if_pos (by omega), if_pos (by omega)]; exact ⟨rfl, rfl⟩)
  · refine hy_const (i := 3) rfl (by decide) ?_
    refine hy_zreturn (i := 4) rfl rfl (by first | decide | exact hy_b01 _) ?_
    first | (rw [if_neg zc1, if_neg zc1]; exact ⟨rfl, rfl⟩) | (rw [if_pos (by omega), if_pos (by omega)]; exact ⟨rfl, rfl⟩)
theorem c_W_days {n : Int} (hs : st_ok 33 t) (hk : lc_ok t) : hy_Ct sc hm_W_days 6 [.inr (some 2), .inl n] t (fun r t' => if 1 ≤ n ∧ n ≤ 99 then r = some (t 33 3 - sp_days 33 t n 33 3) ∧ hy_F eX (sp_days 33 t n) t' else r = some (-1) ∧ t' = t) := by
  refine hy_mk_ct ok_W_days ck_W_days (Nat.le_of_ble_eq_true rfl) ?_
  by_cases hq : 1 ≤ n ∧ n ≤ 99
  · simp only [if_pos hq]
    refine hy_iload (i := 0) rfl rfl ?_
    refine hy_cS1e (i := 1) rfl (by decide) mj_W_isDays (by decide) rfl (Nat.le_of_ble_eq_true rfl) (c_W_isDays) ?_
    refine hy_ib_eq (i := 2) (tt := 10) rfl (fun zc1 => ?_) (fun zc1 => ?_)
    · simp at zc1; omega
    · refine hy_aload (i := 3) rfl rfl ?_
      refine hy_getr (i := 4) rfl rfl ?_
      refine hy_aload (i := 5) rfl rfl ?_
      refine hy_getr (i := 6) rfl rfl ?_
      refine hy_iload (i := 7) rfl rfl ?_
      refine hy_cV2 (i := 8) rfl mj_S_goBy (by decide) rfl (Nat.le_of_ble_eq_true rfl) rfl rfl rfl (c_S_goBy_33 (by omega) hs hk) (fun r2_ t2_ h2 => ?_)
      obtain ⟨rfl, hF2⟩ := h2
      dsimp only [hy_st, List.cons_append, List.nil_append]
      refine hy_goto (i := 9) (tt := 11) rfl ?_
      refine hy_ireturn (i := 11) rfl rfl ?_
      exact ⟨rfl, hF2⟩
  · simp only [if_neg hq]
    refine hy_iload (i := 0) rfl rfl ?_
    refine hy_cS1e (i := 1) rfl (by decide) mj_W_isDays (by decide) rfl (Nat.le_of_ble_eq_true rfl) (c_W_isDays) ?_
    refine hy_ib_eq (i := 2) (tt := 10) rfl (fun zc1 => ?_) (fun zc1 => ?_)
    · refine hy_const (i := 10) rfl (by decide) ?_
      refine hy_ireturn (i := 11) rfl rfl ?_
      exact ⟨rfl, rfl⟩
    · simp at zc1; omega
end WA
