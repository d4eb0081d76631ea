/-! what was wanting of the class: battle, treaties, judged -/
abbrev tyX (b : Nat) : Nat → Nat → Bool := fun r j => lnX r j || (r == 3 && j == 1) || mkX b r j
section CT
variable {sc : List Int32} {t : hy_T}
theorem c_W_battle {a b q w : Int} (hk : lc_ok t) : hy_Ct sc hm_W_battle 6 [.inr (some 2), .inl a, .inl b, .inl q, .inl w] t (fun r t' => (∃ x : Int, r = some x) ∧ hy_F fX t t') := by
  refine hy_mk_ct ok_W_battle ck_W_battle (Nat.le_of_ble_eq_true rfl) ?_
  refine hy_iload (i := 0) rfl rfl ?_
  refine hy_cS1e (i := 1) rfl (by decide) mj_W_isEmpire (by decide) rfl (Nat.le_of_ble_eq_true rfl) (c_W_isEmpire) ?_
  refine hy_ib_eq (i := 2) (tt := 16) rfl (fun zc1 => ?_) (fun zc1 => ?_)
  · refine hy_const (i := 16) rfl (by decide) ?_
    refine hy_ireturn (i := 17) rfl rfl ?_
    first | exact ⟨⟨_, rfl⟩, hy_F.rf⟩ | exact ⟨⟨_, rfl⟩, by assumption⟩
  · refine hy_iload (i := 3) rfl rfl ?_
    refine hy_cS1e (i := 4) rfl (by decide) mj_W_isEmpire (by decide) rfl (Nat.le_of_ble_eq_true rfl) (c_W_isEmpire) ?_
    refine hy_ib_eq (i := 5) (tt := 16) rfl (fun zc2 => ?_) (fun zc2 => ?_)
    · refine hy_const (i := 16) rfl (by decide) ?_
      refine hy_ireturn (i := 17) rfl rfl ?_
      first | exact ⟨⟨_, rfl⟩, hy_F.rf⟩ | exact ⟨⟨_, rfl⟩, by assumption⟩
    · refine hy_iload (i := 6) rfl rfl ?_
      refine hy_iload (i := 7) rfl rfl ?_
      refine hy_ic_eq (i := 8) (tt := 16) rfl (fun zc3 => ?_) (fun zc3 => ?_)
      · refine hy_const (i := 16) rfl (by decide) ?_
        refine hy_ireturn (i := 17) rfl rfl ?_
        first | exact ⟨⟨_, rfl⟩, hy_F.rf⟩ | exact ⟨⟨_, rfl⟩, by assumption⟩
      · refine hy_iload (i := 9) rfl rfl ?_
        refine hy_cS1e (i := 10) rfl (by decide) mj_W_isQuarter (by decide) rfl (Nat.le_of_ble_eq_true rfl) (c_W_isQuarter) ?_
        refine hy_ib_eq (i := 11) (tt := 16) rfl (fun zc4 => ?_) (fun zc4 => ?_)
        · refine hy_const (i := 16) rfl (by decide) ?_
          refine hy_ireturn (i := 17) rfl rfl ?_
          first | exact ⟨⟨_, rfl⟩, hy_F.rf⟩ | exact ⟨⟨_, rfl⟩, by assumption⟩
        · refine hy_iload (i := 12) rfl rfl ?_
          refine hy_const (i := 13) rfl (by decide) ?_
          refine hy_cS2e (i := 14) rfl (by decide) mj_W_isAmong (by decide) rfl (Nat.le_of_ble_eq_true rfl) (c_W_isAmong) ?_
          refine hy_ib_ne (i := 15) (tt := 18) rfl (fun zc5 => ?_) (fun zc5 => ?_)
          · refine hy_aload (i := 18) rfl rfl ?_
            refine hy_getr (i := 19) rfl rfl ?_
            refine hy_iload (i := 20) rfl rfl ?_
            refine hy_iload (i := 21) rfl rfl ?_
            refine hy_iload (i := 22) rfl rfl ?_
            refine hy_cV3 (i := 23) rfl mj_D_fight (by decide) rfl (Nat.le_of_ble_eq_true rfl) rfl rfl rfl (c_D_fight hk) (fun r5_ t5_ h5 => ?_)
            obtain ⟨rfl, hF5, -⟩ := h5
            dsimp only [hy_st, List.nil_append]
            refine hy_iload (i := 24) rfl rfl ?_
            by_cases zq6 : w = 0
            · refine hy_lsw (i := 25) (tt := 26) rfl (by rw [zq6]; rfl) ?_
              refine hy_aload (i := 26) rfl rfl ?_
              refine hy_getr (i := 27) rfl rfl ?_
              refine hy_cV0e (i := 28) rfl mj_D_twos (by decide) rfl (Nat.le_of_ble_eq_true rfl) rfl rfl rfl (c_D_twos) ?_
              refine hy_ireturn (i := 29) rfl rfl ?_
              first | exact ⟨⟨_, rfl⟩, hy_F.rf⟩ | exact ⟨⟨_, rfl⟩, by assumption⟩
            · skip
              by_cases zq6 : w = 1
              · refine hy_lsw (i := 25) (tt := 30) rfl (by rw [zq6]; rfl) ?_
                refine hy_aload (i := 30) rfl rfl ?_
                refine hy_getr (i := 31) rfl rfl ?_
                refine hy_cV0e (i := 32) rfl mj_D_firstOfA (by decide) rfl (Nat.le_of_ble_eq_true rfl) rfl rfl rfl (c_D_firstOfA) ?_
                refine hy_ireturn (i := 33) rfl rfl ?_
                first | exact ⟨⟨_, rfl⟩, hy_F.rf⟩ | exact ⟨⟨_, rfl⟩, by assumption⟩
              · skip
                refine hy_lsw (i := 25) (tt := 34) rfl (by simp [hx_look]; omega) ?_
                refine hy_aload (i := 34) rfl rfl ?_
                refine hy_getr (i := 35) rfl rfl ?_
                refine hy_cV0e (i := 36) rfl mj_D_firstOfB (by decide) rfl (Nat.le_of_ble_eq_true rfl) rfl rfl rfl (c_D_firstOfB) ?_
                refine hy_ireturn (i := 37) rfl rfl ?_
                first | exact ⟨⟨_, rfl⟩, hy_F.rf⟩ | exact ⟨⟨_, rfl⟩, by assumption⟩
          · refine hy_const (i := 16) rfl (by decide) ?_
            refine hy_ireturn (i := 17) rfl rfl ?_
            first | exact ⟨⟨_, rfl⟩, hy_F.rf⟩ | exact ⟨⟨_, rfl⟩, by assumption⟩
theorem c_W_treaties {n : Int} (h : tp_ok t) (hn : ln_ok t) (hs : st_ok 33 t) : hy_Ct sc hm_W_treaties 5 [.inr (some 2), .inl n] t (fun r t' => (∃ x : Int, r = some x) ∧ hy_F (tyX 33) t t' ∧ st_ok 33 t' ∧ ln_ok t' ∧ tp_ok t' ∧ t' 3 1 = if 1 ≤ n ∧ n ≤ 120 ∧ n ≤ t 3 1 then 0 else t 3 1) := by
  refine hy_mk_ct ok_W_treaties ck_W_treaties (Nat.le_of_ble_eq_true rfl) ?_
  obtain ⟨a1, a2, a3, a4⟩ := rd_lines_s h n
  have a5 := rd_lines_n h hn n
  by_cases hq : 1 ≤ n ∧ n ≤ 120 ∧ n ≤ t 3 1
  · simp only [if_pos hq]
    have loop : ∀ (m : Nat), ∀ (k : Nat) (c : Int) (t1 : hy_T) (v2 : hy_V), (m : Int) + k = t1 27 6 → (0 ≤ c ∧ c ≤ k) → hy_F (tyX 33) t t1 → st_ok 33 t1 → ln_ok t1 → tp_ok t1 → t1 27 6 ≤ 8 → t1 3 1 = 0 → hy_W sc hm_W_treaties 5 23 [.inr (some 2), .inl n, v2, .inl c, .inl (k : Int)] [] t1 (fun r t' => (∃ x : Int, r = some x) ∧ hy_F (tyX 33) t t' ∧ st_ok 33 t' ∧ ln_ok t' ∧ tp_ok t' ∧ t' 3 1 = 0) := by
      intro m
      induction m with
      | zero =>
        intro k c t1 v2 hm hc hF hs1 hn1 ht1 h8 h3
        refine hy_iload (i := 23) rfl rfl ?_
        refine hy_aload (i := 24) rfl rfl ?_
        refine hy_getr (i := 25) rfl rfl ?_
        refine hy_cV0e (i := 26) rfl mj_N_length (by decide) rfl (Nat.le_of_ble_eq_true rfl) rfl rfl rfl (c_N_length) ?_
        refine hy_ic_ge (i := 27) (tt := 37) rfl (fun zc1 => ?_) (fun zc1 => ?_)
        · refine hy_iload (i := 37) rfl rfl ?_
          refine hy_ireturn (i := 38) rfl rfl ?_
          exact ⟨⟨_, rfl⟩, hF, hs1, hn1, ht1, h3⟩
        · omega
      | succ m ih =>
        intro k c t1 v2 hm hc hF hs1 hn1 ht1 h8 h3
        obtain ⟨s2, f2⟩ := wf_make_s hs1 hn1 h8 (k : Int)
        have e27 : wf_make 33 t1 k 27 6 = t1 27 6 := f2 27 6 rfl
        have g2 := hF.tr' (f2.w (fun r j q => (Bool.or_eq_false_iff.mp q).2))
        have n2 := ln_ok_F f2 (fun _ => rfl) (fun _ => rfl) (fun _ => rfl) (fun _ => rfl) hn1
        have p2 := tp_ok_F f2 (fun _ => rfl) (fun _ => rfl) ht1
        have z2 : wf_make 33 t1 k 3 1 = 0 := (f2 3 1 rfl).trans h3
        refine hy_iload (i := 23) rfl rfl ?_
        refine hy_aload (i := 24) rfl rfl ?_
        refine hy_getr (i := 25) rfl rfl ?_
        refine hy_cV0e (i := 26) rfl mj_N_length (by decide) rfl (Nat.le_of_ble_eq_true rfl) rfl rfl rfl (c_N_length) ?_
        refine hy_ic_ge (i := 27) (tt := 37) rfl (fun zc1 => ?_) (fun zc1 => ?_)
        · omega
        · refine hy_aload (i := 28) rfl rfl ?_
          refine hy_aload (i := 29) rfl rfl ?_
          refine hy_getr (i := 30) rfl rfl ?_
          refine hy_iload (i := 31) rfl rfl ?_
          refine hy_cV2e (i := 32) rfl mj_W_isMade (by decide) rfl (Nat.le_of_ble_eq_true rfl) rfl rfl rfl (c_W_isMade_33 h8 hs1.c) ?_
          refine hy_ib_eq (i := 33) (tt := 35) rfl (fun zc2 => ?_) (fun zc2 => ?_)
          · refine hy_iinc (i := 35) rfl rfl (by omega) ?_
            refine hy_goto (i := 36) (tt := 23) rfl ?_
            exact ih (k + 1) _ _ _ (by omega) (by omega) g2 s2 n2 p2 (by omega) z2
          · refine hy_iinc (i := 34) rfl rfl (by omega) ?_
            refine hy_iinc (i := 35) rfl rfl (by omega) ?_
            refine hy_goto (i := 36) (tt := 23) rfl ?_
            exact ih (k + 1) _ _ _ (by omega) (by omega) g2 s2 n2 p2 (by omega) z2
    have ps : ∀ (t1 : hy_T), t1 = hy_up (rd_lines t n) 3 1 0 → hy_F (tyX 33) t t1 ∧ st_ok 33 t1 ∧ ln_ok t1 ∧ tp_ok t1 ∧ (0 ≤ t1 27 6 ∧ t1 27 6 ≤ 8) ∧ t1 3 1 = 0 := by
      intro t1 ht1
      have f1 : hy_F (fun r j => lnX r j || (r == 3 && j == 1)) t t1 := by rw [ht1]; exact (a2.w (fun r j q => (Bool.or_eq_false_iff.mp q).1)).up rfl
      refine ⟨f1.w (fun r j q => (Bool.or_eq_false_iff.mp q).1), ?_, ?_, ?_, ?_, by rw [ht1]; rfl⟩
      · exact ⟨by rw [f1 33 3 rfl]; exact hs.c, by rw [f1 33 4 rfl]; exact hs.d, by rw [f1 33 5 rfl]; exact hs.w, fun j hj => by rw [f1 (33 + 3) j rfl]; exact hs.t j hj⟩
      · rw [ht1]; exact ln_o (by decide) (by decide) (by decide) (by decide) a5
      · rw [ht1]; exact ⟨a1.b, hz_0260, a1.e, a1.p⟩
      · rw [ht1]; exact ⟨a3, a4⟩
    by_cases hf : rd_lines t n 3 4 = 0
    · obtain ⟨g1, g2, g3, g4, g5, g6⟩ := ps _ rfl
      refine hy_aload (i := 0) rfl rfl ?_
      refine hy_iload (i := 1) rfl rfl ?_
      refine hy_const (i := 2) rfl (by decide) ?_
      refine hy_cV2e (i := 3) rfl mj_W_isOnTape (by decide) rfl (Nat.le_of_ble_eq_true rfl) rfl rfl rfl (c_W_isOnTape) ?_
      refine hy_ib_ne (i := 4) (tt := 7) rfl (fun zc1 => ?_) (fun zc1 => ?_)
      · refine hy_aload (i := 7) rfl rfl ?_
        refine hy_getr (i := 8) rfl rfl ?_
        refine hy_iload (i := 9) rfl rfl ?_
        refine hy_cV1e (i := 10) rfl mj_N_read (by decide) rfl (Nat.le_of_ble_eq_true rfl) rfl rfl rfl (c_N_read (by assumption)) ?_
        refine hy_istore (i := 11) rfl ?_
        refine hy_aload (i := 12) rfl rfl ?_
        refine hy_getr (i := 13) rfl rfl ?_
        refine hy_cV0v (i := 14) rfl mj_T_clear (by decide) rfl (Nat.le_of_ble_eq_true rfl) rfl rfl rfl (c_T_clear) ?_
        refine hy_iload (i := 15) rfl rfl ?_
        refine hy_if_eq (i := 16) (tt := 19) rfl (fun zc2 => ?_) (fun zc2 => ?_)
        · refine hy_const (i := 19) rfl (by decide) ?_
          refine hy_istore (i := 20) rfl ?_
          refine hy_const (i := 21) rfl (by decide) ?_
          refine hy_istore (i := 22) rfl ?_
          exact loop (hy_up (rd_lines t n) 3 1 0 27 6).toNat 0 0 _ _ (by omega) (by decide) g1 g2 g3 g4 g5.2 g6
        · omega
      · simp at zc1; omega
    · obtain ⟨g1, g2, g3, g4, g5, g6⟩ := ps _ rfl
      refine hy_aload (i := 0) rfl rfl ?_
      refine hy_iload (i := 1) rfl rfl ?_
      refine hy_const (i := 2) rfl (by decide) ?_
      refine hy_cV2e (i := 3) rfl mj_W_isOnTape (by decide) rfl (Nat.le_of_ble_eq_true rfl) rfl rfl rfl (c_W_isOnTape) ?_
      refine hy_ib_ne (i := 4) (tt := 7) rfl (fun zc1 => ?_) (fun zc1 => ?_)
      · refine hy_aload (i := 7) rfl rfl ?_
        refine hy_getr (i := 8) rfl rfl ?_
        refine hy_iload (i := 9) rfl rfl ?_
        refine hy_cV1e (i := 10) rfl mj_N_read (by decide) rfl (Nat.le_of_ble_eq_true rfl) rfl rfl rfl (c_N_read (by assumption)) ?_
        refine hy_istore (i := 11) rfl ?_
        refine hy_aload (i := 12) rfl rfl ?_
        refine hy_getr (i := 13) rfl rfl ?_
        refine hy_cV0v (i := 14) rfl mj_T_clear (by decide) rfl (Nat.le_of_ble_eq_true rfl) rfl rfl rfl (c_T_clear) ?_
        refine hy_iload (i := 15) rfl rfl ?_
        refine hy_if_eq (i := 16) (tt := 19) rfl (fun zc2 => ?_) (fun zc2 => ?_)
        · omega
        · refine hy_iload (i := 17) rfl rfl ?_
          refine hy_ireturn (i := 18) rfl rfl ?_
          exact ⟨⟨_, rfl⟩, g1, g2, g3, g4, g6⟩
      · simp at zc1; omega
  · simp only [if_neg hq]
    refine hy_aload (i := 0) rfl rfl ?_
    refine hy_iload (i := 1) rfl rfl ?_
    refine hy_const (i := 2) rfl (by decide) ?_
    refine hy_cV2e (i := 3) rfl mj_W_isOnTape (by decide) rfl (Nat.le_of_ble_eq_true rfl) rfl rfl rfl (c_W_isOnTape) ?_
    refine hy_ib_ne (i := 4) (tt := 7) rfl (fun zc1 => ?_) (fun zc1 => ?_)
    · simp at zc1; omega
    · refine hy_const (i := 5) rfl (by decide) ?_
      refine hy_ireturn (i := 6) rfl rfl ?_
      exact ⟨⟨_, rfl⟩, hy_F.rf, hs, hn, h, rfl⟩
abbrev jyX : Nat → Nat → Bool := fun r j => lnX r j || (r == 3 && j == 1) || trX r j
theorem c_W_judged {n : Int} (h : tp_ok t) (hn : ln_ok t) (hs : st_ok 33 t) : hy_Ct sc hm_W_judged 5 [.inr (some 2), .inl n] t (fun r t' => (∃ x : Int, r = some x) ∧ hy_F jyX t t' ∧ ln_ok t' ∧ tp_ok t' ∧ t' 3 1 = if 1 ≤ n ∧ n ≤ 120 ∧ n ≤ t 3 1 then 0 else t 3 1) := by
  refine hy_mk_ct ok_W_judged ck_W_judged (Nat.le_of_ble_eq_true rfl) ?_
  obtain ⟨a1, a2, a3, a4⟩ := rd_lines_s h n
  have a5 := rd_lines_n h hn n
  by_cases hq : 1 ≤ n ∧ n ≤ 120 ∧ n ≤ t 3 1
  · simp only [if_pos hq]
    have loop : ∀ (m : Nat), ∀ (k : Nat) (t1 : hy_T) (v2 : hy_V), (m : Int) + k = t1 27 6 → hy_F jyX t t1 → st_ok 41 t1 → ln_ok t1 → tp_ok t1 → t1 27 6 ≤ 8 → t1 3 1 = 0 → hy_W sc hm_W_judged 5 26 [.inr (some 2), .inl n, v2, .inl (k : Int)] [] t1 (fun r t' => (∃ x : Int, r = some x) ∧ hy_F jyX t t' ∧ ln_ok t' ∧ tp_ok t' ∧ t' 3 1 = 0) := by
      intro m
      induction m with
      | zero =>
        intro k t1 v2 hm hF hs1 hn1 ht1 h8 h3
        refine hy_iload (i := 26) rfl rfl ?_
        refine hy_aload (i := 27) rfl rfl ?_
        refine hy_getr (i := 28) rfl rfl ?_
        refine hy_cV0e (i := 29) rfl mj_N_length (by decide) rfl (Nat.le_of_ble_eq_true rfl) rfl rfl rfl (c_N_length) ?_
        refine hy_ic_ge (i := 30) (tt := 39) rfl (fun zc1 => ?_) (fun zc1 => ?_)
        · refine hy_iload (i := 39) rfl rfl ?_
          refine hy_ireturn (i := 40) rfl rfl ?_
          exact ⟨⟨_, rfl⟩, hF, hn1, ht1, h3⟩
        · omega
      | succ m ih =>
        intro k t1 v2 hm hF hs1 hn1 ht1 h8 h3
        obtain ⟨s2, f2⟩ := wf_make_s hs1 hn1 h8 (k : Int)
        have e27 : wf_make 41 t1 k 27 6 = t1 27 6 := f2 27 6 rfl
        have g2 := hF.tr' (f2.w (fun r j q => by revert q; simp only [jyX, lnX, trX, mkX, Bool.or_eq_false_iff, Bool.and_eq_false_iff, beq_eq_false_iff_ne]; omega))
        have n2 := ln_ok_F f2 (fun _ => rfl) (fun _ => rfl) (fun _ => rfl) (fun _ => rfl) hn1
        have p2 := tp_ok_F f2 (fun _ => rfl) (fun _ => rfl) ht1
        have z2 : wf_make 41 t1 k 3 1 = 0 := (f2 3 1 rfl).trans h3
        refine hy_iload (i := 26) rfl rfl ?_
        refine hy_aload (i := 27) rfl rfl ?_
        refine hy_getr (i := 28) rfl rfl ?_
        refine hy_cV0e (i := 29) rfl mj_N_length (by decide) rfl (Nat.le_of_ble_eq_true rfl) rfl rfl rfl (c_N_length) ?_
        refine hy_ic_ge (i := 30) (tt := 39) rfl (fun zc1 => ?_) (fun zc1 => ?_)
        · omega
        · refine hy_aload (i := 31) rfl rfl ?_
          refine hy_aload (i := 32) rfl rfl ?_
          refine hy_getr (i := 33) rfl rfl ?_
          refine hy_iload (i := 34) rfl rfl ?_
          refine hy_cV2e (i := 35) rfl mj_W_isMade (by decide) rfl (Nat.le_of_ble_eq_true rfl) rfl rfl rfl (c_W_isMade_41 h8 hs1.c) ?_
          refine hy_ib_eq (i := 36) (tt := 39) rfl (fun zc2 => ?_) (fun zc2 => ?_)
          · refine hy_iload (i := 39) rfl rfl ?_
            refine hy_ireturn (i := 40) rfl rfl ?_
            exact ⟨⟨_, rfl⟩, g2, n2, p2, z2⟩
          · refine hy_iinc (i := 37) rfl rfl (by omega) ?_
            refine hy_goto (i := 38) (tt := 26) rfl ?_
            exact ih (k + 1) _ _ (by omega) g2 s2 n2 p2 (by omega) z2
    have ps : ∀ (t1 : hy_T), t1 = hy_up (rd_lines t n) 3 1 0 → hy_F jyX t t1 ∧ st_ok 33 t1 ∧ ln_ok t1 ∧ tp_ok t1 ∧ (0 ≤ t1 27 6 ∧ t1 27 6 ≤ 8) ∧ t1 3 1 = 0 := by
      intro t1 ht1
      have f1 : hy_F (fun r j => lnX r j || (r == 3 && j == 1)) t t1 := by rw [ht1]; exact (a2.w (fun r j q => (Bool.or_eq_false_iff.mp q).1)).up rfl
      refine ⟨f1.w (fun r j q => (Bool.or_eq_false_iff.mp q).1), ?_, ?_, ?_, ?_, by rw [ht1]; rfl⟩
      · exact ⟨by rw [f1 33 3 rfl]; exact hs.c, by rw [f1 33 4 rfl]; exact hs.d, by rw [f1 33 5 rfl]; exact hs.w, fun j hj => by rw [f1 (33 + 3) j rfl]; exact hs.t j hj⟩
      · rw [ht1]; exact ln_o (by decide) (by decide) (by decide) (by decide) a5
      · rw [ht1]; exact ⟨a1.b, hz_0260, a1.e, a1.p⟩
      · rw [ht1]; exact ⟨a3, a4⟩
    obtain ⟨g1, g2, g3, g4, g5, g6⟩ := ps _ rfl
    by_cases hf : rd_lines t n 3 4 = 0
    · have fc := sp_scopy41_F (hy_up (rd_lines t n) 3 1 0)
      have e27 : sp_scopy (hy_up (rd_lines t n) 3 1 0) 33 41 27 6 = hy_up (rd_lines t n) 3 1 0 27 6 := fc 27 6 rfl
      refine hy_aload (i := 0) rfl rfl ?_
      refine hy_iload (i := 1) rfl rfl ?_
      refine hy_const (i := 2) rfl (by decide) ?_
      refine hy_cV2e (i := 3) rfl mj_W_isOnTape (by decide) rfl (Nat.le_of_ble_eq_true rfl) rfl rfl rfl (c_W_isOnTape) ?_
      refine hy_ib_ne (i := 4) (tt := 7) rfl (fun zc1 => ?_) (fun zc1 => ?_)
      · refine hy_aload (i := 7) rfl rfl ?_
        refine hy_getr (i := 8) rfl rfl ?_
        refine hy_iload (i := 9) rfl rfl ?_
        refine hy_cV1e (i := 10) rfl mj_N_read (by decide) rfl (Nat.le_of_ble_eq_true rfl) rfl rfl rfl (c_N_read (by assumption)) ?_
        refine hy_istore (i := 11) rfl ?_
        refine hy_aload (i := 12) rfl rfl ?_
        refine hy_getr (i := 13) rfl rfl ?_
        refine hy_cV0v (i := 14) rfl mj_T_clear (by decide) rfl (Nat.le_of_ble_eq_true rfl) rfl rfl rfl (c_T_clear) ?_
        refine hy_iload (i := 15) rfl rfl ?_
        refine hy_if_eq (i := 16) (tt := 19) rfl (fun zc2 => ?_) (fun zc2 => ?_)
        · refine hy_aload (i := 19) rfl rfl ?_
          refine hy_getr (i := 20) rfl rfl ?_
          refine hy_aload (i := 21) rfl rfl ?_
          refine hy_getr (i := 22) rfl rfl ?_
          refine hy_cV1v (i := 23) rfl mj_S_copyFrom (by decide) rfl (Nat.le_of_ble_eq_true rfl) rfl rfl rfl (c_S_copyFrom_33_41) ?_
          refine hy_const (i := 24) rfl (by decide) ?_
          refine hy_istore (i := 25) rfl ?_
          exact loop (hy_up (rd_lines t n) 3 1 0 27 6).toNat 0 _ _ (by omega) (g1.tr' (fc.w (fun r j q => (Bool.or_eq_false_iff.mp q).2))) (sp_scopy41_ok g2) (ln_ok_F fc (fun _ => rfl) (fun _ => rfl) (fun _ => rfl) (fun _ => rfl) g3) (tp_ok_F fc (fun _ => rfl) (fun _ => rfl) g4) (by omega) ((fc 3 1 rfl).trans g6)
        · omega
      · simp at zc1; omega
    · skip
      refine hy_aload (i := 0) rfl rfl ?_
      refine hy_iload (i := 1) rfl rfl ?_
      refine hy_const (i := 2) rfl (by decide) ?_
      refine hy_cV2e (i := 3) rfl mj_W_isOnTape (by decide) rfl (Nat.le_of_ble_eq_true rfl) rfl rfl rfl (c_W_isOnTape) ?_
      refine hy_ib_ne (i := 4) (tt := 7) rfl (fun zc1 => ?_) (fun zc1 => ?_)
      · refine hy_aload (i := 7) rfl rfl ?_
        refine hy_getr (i := 8) rfl rfl ?_
        refine hy_iload (i := 9) rfl rfl ?_
        refine hy_cV1e (i := 10) rfl mj_N_read (by decide) rfl (Nat.le_of_ble_eq_true rfl) rfl rfl rfl (c_N_read (by assumption)) ?_
        refine hy_istore (i := 11) rfl ?_
        refine hy_aload (i := 12) rfl rfl ?_
        refine hy_getr (i := 13) rfl rfl ?_
        refine hy_cV0v (i := 14) rfl mj_T_clear (by decide) rfl (Nat.le_of_ble_eq_true rfl) rfl rfl rfl (c_T_clear) ?_
        refine hy_iload (i := 15) rfl rfl ?_
        refine hy_if_eq (i := 16) (tt := 19) rfl (fun zc2 => ?_) (fun zc2 => ?_)
        · omega
        · refine hy_iload (i := 17) rfl rfl ?_
          refine hy_ireturn (i := 18) rfl rfl ?_
          exact ⟨⟨_, rfl⟩, g1, g3, g4, g6⟩
      · simp at zc1; omega
  · simp only [if_neg hq]
    refine hy_aload (i := 0) rfl rfl ?_
    refine hy_iload (i := 1) rfl rfl ?_
    refine hy_const (i := 2) rfl (by decide) ?_
    refine hy_cV2e (i := 3) rfl mj_W_isOnTape (by decide) rfl (Nat.le_of_ble_eq_true rfl) rfl rfl rfl (c_W_isOnTape) ?_
    refine hy_ib_ne (i := 4) (tt := 7) rfl (fun zc1 => ?_) (fun zc1 => ?_)
    · simp at zc1; omega
    · refine hy_const (i := 5) rfl (by decide) ?_
      refine hy_ireturn (i := 6) rfl rfl ?_
      exact ⟨⟨_, rfl⟩, hy_F.rf, hn, h, rfl⟩
end CT
