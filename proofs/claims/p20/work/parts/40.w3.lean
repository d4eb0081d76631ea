/-! the class's own methods: tried, painting, battle, count, and refusals -/
abbrev dzX (b : Nat) : Nat → Nat → Bool := fun r j => r == b + 1 || r == b + 3 || (r == b && (j == 3 || j == 4 || j == 5 || j == 6 || j == 7))
theorem dzX_dy {b : Nat} {t t1 : hy_T} (h : hy_F (dyX b) t t1) : hy_F (dzX b) t t1 := h.w (fun r j q => by revert q; simp [dyX, dzX]; omega)
theorem sp_daysN_s (b : Nat) : ∀ (n : Nat) {t : hy_T}, st_ok b t → st_ok b (sp_daysN b n t) ∧ hy_F (dzX b) t (sp_daysN b n t) ∧ sp_daysN b n t b 3 ≤ t b 3
  | 0, t, h => ⟨h, hy_F.rf, Int.le_refl _⟩
  | n + 1, t, h => by
    have hc := h.c
    simp only [sp_daysN]
    split
    · next h4 =>
      obtain ⟨a1, a2, a3⟩ := sp_dayN_s b (t b 3).toNat (i := 0) h (by omega) (by omega)
      obtain ⟨b1, b2⟩ := st_next_ok h h4
      obtain ⟨c1, c2, c3⟩ := sp_daysN_s b n b1
      exact ⟨c1, ((dzX_dy a2).up (by simp [dzX])).tr' c2, by omega⟩
    · exact ⟨h, hy_F.rf, Int.le_refl _⟩
theorem sp_days_s (b : Nat) {t : hy_T} (h : st_ok b t) (n : Int) : st_ok b (sp_days b t n) ∧ hy_F (dzX b) t (sp_days b t n) ∧ sp_days b t n b 3 ≤ t b 3 := by
  have h0 : st_ok b (hy_up (hy_up t b 6 (-2)) b 7 (-2)) := by
    refine ⟨by simpa [hy_up] using h.c, by simpa [hy_up] using h.d, by simpa [hy_up] using h.w, fun j hj => ?_⟩
    have := h.t j hj
    simpa [hy_up] using this
  obtain ⟨a1, a2, a3⟩ := sp_daysN_s b n.toNat h0
  exact ⟨a1, ((hy_F.rf.up (by simp [dzX])).up (by simp [dzX])).tr' a2, by unfold sp_days; simpa [hy_up] using a3⟩
abbrev trX : Nat → Nat → Bool := fun r _ => r == 17 || r == 18 || r == 41 || r == 42 || r == 43 || r == 44
theorem sp_scopy41_F (t : hy_T) : hy_F trX t (sp_scopy t 33 41) := by
  intro r j q
  simp only [trX, Bool.or_eq_false_iff, beq_eq_false_iff_ne] at q
  simp only [sp_scopy, hy_up, hy_cp]
  repeat (rw [if_neg (by omega)])
theorem sp_scopy41_ok {t : hy_T} (h : st_ok 33 t) : st_ok 41 (sp_scopy t 33 41) := by
  refine ⟨h.c, h.d, h.w, fun j hj => ?_⟩
  have := h.t j hj
  simpa [sp_scopy, hy_up, hy_cp, hj] using this
theorem lc_ok_tr {t t1 : hy_T} (h : hy_F trX t t1) (hk : lc_ok t) : lc_ok t1 := lc_ok_same (lc_same_of h (fun r j q => by revert q; simp [lawX, trX]; omega)) hk
abbrev wf_w10 (w : Int) : Int := (Int32.ofInt (w - 10)).toInt
abbrev wf_tryable (t : hy_T) (n w : Int) : Prop := (1 ≤ n ∧ n ≤ 99) ∧ ((0 ≤ w ∧ w < 3) ∨ wf_plain t (wf_w10 w) = true)
def wf_told (p : hy_T) (n w : Int) : Int :=
  if w = 0 then p 41 3 - sp_days 41 p n 41 3 else if w = 1 then sp_days 41 p n 41 6 else if w = 2 then sp_days 41 p n 41 7 else sp_qh (sp_days 41 p n 42) (wf_w10 w) 4
def wf_tried (t : hy_T) (n w : Int) : Int := if wf_tryable t n w then wf_told (sp_scopy t 33 41) n w else -1
section WCC
variable {sc : List Int32} {t : hy_T}
theorem c_D_twos : hy_Ct sc hm_D_twos 0 [.inr (some 49)] t (hy_e (some (t 49 6)) t) := by
  refine hy_mk_ct ok_D_twos ck_D_twos (Nat.le_of_ble_eq_true rfl) ?_
  refine hy_aload (i := 0) rfl rfl ?_
  refine hy_get (i := 1) (fk := 6) rfl rfl rfl ?_
  refine hy_ireturn (i := 2) rfl rfl ?_
  exact ⟨rfl, rfl⟩
theorem c_D_firstOfA : hy_Ct sc hm_D_firstOfA 0 [.inr (some 49)] t (hy_e (some (t 49 7)) t) := by
  refine hy_mk_ct ok_D_firstOfA ck_D_firstOfA (Nat.le_of_ble_eq_true rfl) ?_
  refine hy_aload (i := 0) rfl rfl ?_
  refine hy_get (i := 1) (fk := 7) rfl rfl rfl ?_
  refine hy_ireturn (i := 2) rfl rfl ?_
  exact ⟨rfl, rfl⟩
theorem c_D_firstOfB : hy_Ct sc hm_D_firstOfB 0 [.inr (some 49)] t (hy_e (some (t 49 8)) t) := by
  refine hy_mk_ct ok_D_firstOfB ck_D_firstOfB (Nat.le_of_ble_eq_true rfl) ?_
  refine hy_aload (i := 0) rfl rfl ?_
  refine hy_get (i := 1) (fk := 8) rfl rfl rfl ?_
  refine hy_ireturn (i := 2) rfl rfl ?_
  exact ⟨rfl, rfl⟩
theorem c_W_tried {n w : Int} (hs : st_ok 33 t) (hk : lc_ok t) : hy_Ct sc hm_W_tried 6 [.inr (some 2), .inl n, .inl w] t (fun r t' => r = some (wf_tried t n w) ∧ hy_F trX t t') := by
  refine hy_mk_ct ok_W_tried ck_W_tried (Nat.le_of_ble_eq_true rfl) ?_
  have hs1 := sp_scopy41_ok hs
  have hF0 := sp_scopy41_F t
  have hk1 := lc_ok_tr hF0 hk
  by_cases hq : wf_tryable t n w
  · have ea : wf_tried t n w = wf_told (sp_scopy t 33 41) n w := if_pos hq
    rw [ea]
    have fin : ∀ v3 : hy_V, hy_W sc hm_W_tried 6 18 [.inr (some 2), .inl n, .inl w, v3, .inr none] [] t (fun r t' => r = some (wf_told (sp_scopy t 33 41) n w) ∧ hy_F trX t t') := by
      intro v3
      have hG : hy_F trX t (sp_days 41 (sp_scopy t 33 41) n) := hF0.tr' ((sp_days_s 41 hs1 n).2.1.w (fun r j q => by revert q; simp [trX, dzX]; omega))
      refine hy_aload (i := 18) rfl rfl ?_
      refine hy_getr (i := 19) rfl rfl ?_
      refine hy_aload (i := 20) rfl rfl ?_
      refine hy_getr (i := 21) rfl rfl ?_
      refine hy_cV1v (i := 22) rfl mj_S_copyFrom (by decide) rfl (Nat.le_of_ble_eq_true rfl) rfl rfl rfl (c_S_copyFrom_33_41) ?_
      refine hy_aload (i := 23) rfl rfl ?_
      refine hy_getr (i := 24) rfl rfl ?_
      refine hy_aload (i := 25) rfl rfl ?_
      refine hy_getr (i := 26) rfl rfl ?_
      refine hy_iload (i := 27) rfl rfl ?_
      refine hy_cV2 (i := 28) rfl mj_S_goBy (by decide) rfl (Nat.le_of_ble_eq_true rfl) rfl rfl rfl (c_S_goBy_41 (by omega) hs1 hk1) (fun r2_ t2_ h2 => ?_)
      obtain ⟨rfl, hF2⟩ := h2
      dsimp only [hy_st, List.cons_append, List.nil_append]
      refine hy_istore (i := 29) rfl ?_
      refine hy_iload (i := 30) rfl rfl ?_
      by_cases zq1 : w = 0
      · refine hy_tsw (i := 31) (tt := 32) rfl (by rw [zq1]; rfl) ?_
        refine hy_iload (i := 32) rfl rfl ?_
        refine hy_ireturn (i := 33) rfl rfl ?_
        refine ⟨congrArg some ?_, hG.tr' (hF2.w (fun r j q => by revert q; simp [trX, eX]; omega))⟩
        unfold wf_told
        rw [if_pos (by assumption)]
      · skip
        by_cases zq1 : w = 1
        · refine hy_tsw (i := 31) (tt := 34) rfl (by rw [zq1]; rfl) ?_
          refine hy_aload (i := 34) rfl rfl ?_
          refine hy_getr (i := 35) rfl rfl ?_
          refine hy_cV0e (i := 36) rfl mj_S_firstBreakDay (by decide) rfl (Nat.le_of_ble_eq_true rfl) rfl rfl rfl (c_S_firstBreakDay_41) ?_
          refine hy_ireturn (i := 37) rfl rfl ?_
          refine ⟨congrArg some ?_, hG.tr' (hF2.w (fun r j q => by revert q; simp [trX, eX]; omega))⟩
          unfold wf_told
          rw [if_neg (by omega), if_pos (by assumption)]
          exact hF2 41 6 rfl
        · skip
          by_cases zq1 : w = 2
          · refine hy_tsw (i := 31) (tt := 38) rfl (by rw [zq1]; rfl) ?_
            refine hy_aload (i := 38) rfl rfl ?_
            refine hy_getr (i := 39) rfl rfl ?_
            refine hy_cV0e (i := 40) rfl mj_S_firstBreaker (by decide) rfl (Nat.le_of_ble_eq_true rfl) rfl rfl rfl (c_S_firstBreaker_41) ?_
            refine hy_ireturn (i := 41) rfl rfl ?_
            refine ⟨congrArg some ?_, hG.tr' (hF2.w (fun r j q => by revert q; simp [trX, eX]; omega))⟩
            unfold wf_told
            rw [if_neg (by omega), if_neg (by omega), if_pos (by assumption)]
            exact hF2 41 7 rfl
          · skip
            refine hy_tsw (i := 31) (tt := 42) rfl (by rcases (show w < 0 ∨ 2 < w by omega) with hh | hh <;> first | (rw [if_pos (by omega)]; rfl) | (rw [hh]; rfl)) ?_
            refine hy_aload (i := 42) rfl rfl ?_
            refine hy_getr (i := 43) rfl rfl ?_
            refine hy_iload (i := 44) rfl rfl ?_
            refine hy_const (i := 45) rfl (by decide) ?_
            refine hy_isubw (i := 46) rfl ?_
            refine hy_cV1e (i := 47) rfl mj_S_quartersHad (by decide) rfl (Nat.le_of_ble_eq_true rfl) rfl rfl rfl (c_S_quartersHad_41) ?_
            refine hy_ireturn (i := 48) rfl rfl ?_
            refine ⟨congrArg some ?_, hG.tr' (hF2.w (fun r j q => by revert q; simp [trX, eX]; omega))⟩
            unfold wf_told
            rw [if_neg (by omega), if_neg (by omega), if_neg (by omega), show t2_ 42 = sp_days 41 (sp_scopy t 33 41) n 42 from funext fun j => hF2 42 j rfl]
    refine hy_aload (i := 0) rfl rfl ?_
    refine hy_getr (i := 1) rfl rfl ?_
    refine hy_iload (i := 2) rfl rfl ?_
    refine hy_const (i := 3) rfl (by decide) ?_
    refine hy_isubw (i := 4) rfl ?_
    refine hy_cV1e (i := 5) rfl mj_P_isPlain (by decide) rfl (Nat.le_of_ble_eq_true rfl) rfl rfl rfl (c_P_isPlain) ?_
    refine hy_istore (i := 6) rfl ?_
    refine hy_iload (i := 7) rfl rfl ?_
    refine hy_cS1e (i := 8) rfl (by decide) mj_W_isDays (by decide) rfl (Nat.le_of_ble_eq_true rfl) (c_W_isDays) ?_
    refine hy_ib_eq (i := 9) (tt := 16) rfl (fun zc1 => ?_) (fun zc1 => ?_)
    · simp at zc1; omega
    · refine hy_iload (i := 10) rfl rfl ?_
      refine hy_const (i := 11) rfl (by decide) ?_
      refine hy_cS2e (i := 12) rfl (by decide) mj_W_isAmong (by decide) rfl (Nat.le_of_ble_eq_true rfl) (c_W_isAmong) ?_
      refine hy_ib_ne (i := 13) (tt := 18) rfl (fun zc2 => ?_) (fun zc2 => ?_)
      · exact fin _
      · refine hy_iload (i := 14) rfl rfl ?_
        refine hy_ib_ne (i := 15) (tt := 18) rfl (fun zc3 => ?_) (fun zc3 => ?_)
        · exact fin _
        · exfalso; rcases hq.2 with h | h
          · simp at zc2; omega
          · simp_all
  · have ea : wf_tried t n w = -1 := if_neg hq
    rw [ea]
    refine hy_aload (i := 0) rfl rfl ?_
    refine hy_getr (i := 1) rfl rfl ?_
    refine hy_iload (i := 2) rfl rfl ?_
    refine hy_const (i := 3) rfl (by decide) ?_
    refine hy_isubw (i := 4) rfl ?_
    refine hy_cV1e (i := 5) rfl mj_P_isPlain (by decide) rfl (Nat.le_of_ble_eq_true rfl) rfl rfl rfl (c_P_isPlain) ?_
    refine hy_istore (i := 6) rfl ?_
    refine hy_iload (i := 7) rfl rfl ?_
    refine hy_cS1e (i := 8) rfl (by decide) mj_W_isDays (by decide) rfl (Nat.le_of_ble_eq_true rfl) (c_W_isDays) ?_
    refine hy_ib_eq (i := 9) (tt := 16) rfl (fun zc1 => ?_) (fun zc1 => ?_)
    · refine hy_const (i := 16) rfl (by decide) ?_
      refine hy_ireturn (i := 17) rfl rfl ?_
      exact ⟨rfl, hy_F.rf⟩
    · refine hy_iload (i := 10) rfl rfl ?_
      refine hy_const (i := 11) rfl (by decide) ?_
      refine hy_cS2e (i := 12) rfl (by decide) mj_W_isAmong (by decide) rfl (Nat.le_of_ble_eq_true rfl) (c_W_isAmong) ?_
      refine hy_ib_ne (i := 13) (tt := 18) rfl (fun zc2 => ?_) (fun zc2 => ?_)
      · exfalso; simp at zc1 zc2; exact hq ⟨zc1, .inl zc2⟩
      · refine hy_iload (i := 14) rfl rfl ?_
        refine hy_ib_ne (i := 15) (tt := 18) rfl (fun zc3 => ?_) (fun zc3 => ?_)
        · exfalso; simp only [decide_eq_true_eq] at zc1; exact hq ⟨zc1, .inr zc3⟩
        · refine hy_const (i := 16) rfl (by decide) ?_
          refine hy_ireturn (i := 17) rfl rfl ?_
          exact ⟨rfl, hy_F.rf⟩
def wf_paintN (t : hy_T) (cs : Int) : Nat → Int × Int
  | 0 => (0, -2)
  | n + 1 => if hz_iand cs (hz_ixor (sp_seen t ((n : Int) / 4) ((n : Int) % 4)) (-1)) = 0 then ((wf_paintN t cs n).1 + 1, if (wf_paintN t cs n).2 < 0 then (n : Int) else (wf_paintN t cs n).2) else wf_paintN t cs n
theorem wf_paintN_in (t : hy_T) (cs : Int) : ∀ n : Nat, (0 ≤ (wf_paintN t cs n).1 ∧ (wf_paintN t cs n).1 ≤ n) ∧ -2 ≤ (wf_paintN t cs n).2 ∧ (wf_paintN t cs n).2 < n + 0
  | 0 => by simp [wf_paintN]
  | n + 1 => by
    have h := wf_paintN_in t cs n
    by_cases hc : hz_iand cs (hz_ixor (sp_seen t ((n : Int) / 4) ((n : Int) % 4)) (-1)) = 0
    · simp only [wf_paintN, if_pos hc]
      refine ⟨by omega, ?_⟩
      split <;> omega
    · simp only [wf_paintN, if_neg hc]
      omega
def wf_painting (t : hy_T) (cs w : Int) : Int :=
  if hz_iand cs (hz_ixor (t 5 2) (-1)) = 0 ∧ 0 ≤ w ∧ w < 3 then (let p := wf_paintN t cs 24; if w = 0 then p.1 else if p.2 < 0 then -2 else if w = 1 then p.2 / 4 else p.2 % 4) else -1
theorem c_W_painting {cs w : Int} (hk : lc_ok t) : hy_Ct sc hm_W_painting 5 [.inr (some 2), .inl cs, .inl w] t (fun r t' => r = some (wf_painting t cs w) ∧ hy_F eX t t') := by
  refine hy_mk_ct ok_W_painting ck_W_painting (Nat.le_of_ble_eq_true rfl) ?_
  by_cases hq : hz_iand cs (hz_ixor (t 5 2) (-1)) = 0 ∧ 0 ≤ w ∧ w < 3
  · have ea : wf_painting t cs w = if w = 0 then (wf_paintN t cs 24).1 else if (wf_paintN t cs 24).2 < 0 then -2 else if w = 1 then (wf_paintN t cs 24).2 / 4 else (wf_paintN t cs 24).2 % 4 := if_pos hq
    rw [ea]
    have loop : ∀ (m : Nat), ∀ (k : Nat) (t1 : hy_T) (a b : Int), m + k = 24 → hy_F eX t t1 → a = (wf_paintN t cs k).1 → b = (wf_paintN t cs k).2 → hy_W sc hm_W_painting 5 17 [.inr (some 2), .inl cs, .inl w, .inl a, .inl b, .inl (k : Int)] [] t1 (fun r t' => r = some (if w = 0 then (wf_paintN t cs 24).1 else if (wf_paintN t cs 24).2 < 0 then -2 else if w = 1 then (wf_paintN t cs 24).2 / 4 else (wf_paintN t cs 24).2 % 4) ∧ hy_F eX t t') := by
      intro m
      induction m with
      | zero =>
        intro k t1 a b hm hF ha hb
        obtain rfl : k = 24 := by omega
        rw [← ha, ← hb]
        refine hy_iload (i := 17) rfl rfl ?_
        refine hy_const (i := 18) rfl (by decide) ?_
        refine hy_ic_ge (i := 19) (tt := 43) rfl (fun zc1 => ?_) (fun zc1 => ?_)
        · refine hy_iload (i := 43) rfl rfl ?_
          refine hy_if_eq (i := 44) (tt := 47) rfl (fun zc2 => ?_) (fun zc2 => ?_)
          · refine hy_iload (i := 47) rfl rfl ?_
            refine hy_if_ne (i := 48) (tt := 51) rfl (fun zc3 => ?_) (fun zc3 => ?_)
            · refine hy_const (i := 51) rfl (by decide) ?_
              refine hy_ireturn (i := 52) rfl rfl ?_
              refine ⟨congrArg some ?_, hF⟩
              first | (rw [if_pos (by omega)]; done) | (rw [if_neg (by omega), if_pos (by omega)]; done) | (rw [if_neg (by omega), if_neg (by omega), if_pos (by omega)]; done) | (rw [if_neg (by omega), if_neg (by omega), if_neg (by omega)]; done)
            · refine hy_iload (i := 49) rfl rfl ?_
              refine hy_goto (i := 50) (tt := 52) rfl ?_
              refine hy_ireturn (i := 52) rfl rfl ?_
              refine ⟨congrArg some ?_, hF⟩
              first | (rw [if_pos (by omega)]; done) | (rw [if_neg (by omega), if_pos (by omega)]; done) | (rw [if_neg (by omega), if_neg (by omega), if_pos (by omega)]; done) | (rw [if_neg (by omega), if_neg (by omega), if_neg (by omega)]; done)
          · refine hy_iload (i := 45) rfl rfl ?_
            refine hy_if_ge (i := 46) (tt := 53) rfl (fun zc3 => ?_) (fun zc3 => ?_)
            · refine hy_iload (i := 53) rfl rfl ?_
              refine hy_const (i := 54) rfl (by decide) ?_
              refine hy_ic_ne (i := 55) (tt := 60) rfl (fun zc4 => ?_) (fun zc4 => ?_)
              · refine hy_iload (i := 60) rfl rfl ?_
                refine hy_const (i := 61) rfl (by decide) ?_
                refine hy_irem (i := 62) rfl (by omega) (by omega) ?_
                refine hy_ireturn (i := 63) rfl rfl ?_
                refine ⟨congrArg some ?_, hF⟩
                first | (rw [if_pos (by omega)]; done) | (rw [if_neg (by omega), if_pos (by omega)]; done) | (rw [if_neg (by omega), if_neg (by omega), if_pos (by omega)]; done) | (rw [if_neg (by omega), if_neg (by omega), if_neg (by omega)]; done)
              · refine hy_iload (i := 56) rfl rfl ?_
                refine hy_const (i := 57) rfl (by decide) ?_
                refine hy_idiv (i := 58) rfl (by omega) (by omega) ?_
                refine hy_goto (i := 59) (tt := 63) rfl ?_
                refine hy_ireturn (i := 63) rfl rfl ?_
                refine ⟨congrArg some ?_, hF⟩
                first | (rw [if_pos (by omega)]; done) | (rw [if_neg (by omega), if_pos (by omega)]; done) | (rw [if_neg (by omega), if_neg (by omega), if_pos (by omega)]; done) | (rw [if_neg (by omega), if_neg (by omega), if_neg (by omega)]; done)
            · refine hy_iload (i := 47) rfl rfl ?_
              refine hy_if_ne (i := 48) (tt := 51) rfl (fun zc4 => ?_) (fun zc4 => ?_)
              · refine hy_const (i := 51) rfl (by decide) ?_
                refine hy_ireturn (i := 52) rfl rfl ?_
                refine ⟨congrArg some ?_, hF⟩
                first | (rw [if_pos (by omega)]; done) | (rw [if_neg (by omega), if_pos (by omega)]; done) | (rw [if_neg (by omega), if_neg (by omega), if_pos (by omega)]; done) | (rw [if_neg (by omega), if_neg (by omega), if_neg (by omega)]; done)
              · refine hy_iload (i := 49) rfl rfl ?_
                refine hy_goto (i := 50) (tt := 52) rfl ?_
                refine hy_ireturn (i := 52) rfl rfl ?_
                refine ⟨congrArg some ?_, hF⟩
                first | (rw [if_pos (by omega)]; done) | (rw [if_neg (by omega), if_pos (by omega)]; done) | (rw [if_neg (by omega), if_neg (by omega), if_pos (by omega)]; done) | (rw [if_neg (by omega), if_neg (by omega), if_neg (by omega)]; done)
        · omega
      | succ m ih =>
        intro k t1 a b hm hF ha hb
        have hin := wf_paintN_in t cs k
        have hk1 := lc_ok_same (eX_law hF) hk
        by_cases hc : hz_iand cs (hz_ixor (sp_seen t ((k : Int) / 4) ((k : Int) % 4)) (-1)) = 0
        · have e1 : (wf_paintN t cs (k + 1)).1 = a + 1 := by simp only [wf_paintN]; rw [if_pos hc, ha]
          by_cases hb0 : b < 0
          · have e2 : (wf_paintN t cs (k + 1)).2 = k := by simp only [wf_paintN]; rw [if_pos hc]; dsimp only; rw [← hb, if_pos hb0]
            refine hy_iload (i := 17) rfl rfl ?_
            refine hy_const (i := 18) rfl (by decide) ?_
            refine hy_ic_ge (i := 19) (tt := 43) rfl (fun zc1 => ?_) (fun zc1 => ?_)
            · omega
            · refine hy_iload (i := 20) rfl rfl ?_
              refine hy_aload (i := 21) rfl rfl ?_
              refine hy_getr (i := 22) rfl rfl ?_
              refine hy_iload (i := 23) rfl rfl ?_
              refine hy_const (i := 24) rfl (by decide) ?_
              refine hy_idiv (i := 25) rfl (by omega) (by omega) ?_
              refine hy_iload (i := 26) rfl rfl ?_
              refine hy_const (i := 27) rfl (by decide) ?_
              refine hy_irem (i := 28) rfl (by omega) (by omega) ?_
              refine hy_cV2 (i := 29) rfl mj_E_seen (by decide) rfl (Nat.le_of_ble_eq_true rfl) rfl rfl rfl (c_E_seen hk1) (fun r1_ t1_ h1 => ?_)
              obtain ⟨rfl, hF1⟩ := h1
              dsimp only [hy_st, List.cons_append, List.nil_append]
              rw [sp_seen_F hF]
              have hG := hF.tr' hF1
              refine hy_const (i := 30) rfl (by decide) ?_
              refine hy_ixor (i := 31) rfl ?_
              refine hy_iand (i := 32) rfl ?_
              refine hy_if_ne (i := 33) (tt := 41) rfl (fun zc2 => ?_) (fun zc2 => ?_)
              · exact absurd hc (by assumption)
              · refine hy_iinc (i := 34) rfl rfl (by omega) ?_
                refine hy_iload (i := 35) rfl rfl ?_
                refine hy_if_ge (i := 36) (tt := 39) rfl (fun zc3 => ?_) (fun zc3 => ?_)
                · omega
                · refine hy_iload (i := 37) rfl rfl ?_
                  refine hy_goto (i := 38) (tt := 40) rfl ?_
                  refine hy_istore (i := 40) rfl ?_
                  refine hy_iinc (i := 41) rfl rfl (by omega) ?_
                  refine hy_goto (i := 42) (tt := 17) rfl ?_
                  exact ih (k + 1) _ _ _ (by omega) hG e1.symm e2.symm
          · have e2 : (wf_paintN t cs (k + 1)).2 = b := by simp only [wf_paintN]; rw [if_pos hc]; dsimp only; rw [← hb, if_neg hb0]
            refine hy_iload (i := 17) rfl rfl ?_
            refine hy_const (i := 18) rfl (by decide) ?_
            refine hy_ic_ge (i := 19) (tt := 43) rfl (fun zc1 => ?_) (fun zc1 => ?_)
            · omega
            · refine hy_iload (i := 20) rfl rfl ?_
              refine hy_aload (i := 21) rfl rfl ?_
              refine hy_getr (i := 22) rfl rfl ?_
              refine hy_iload (i := 23) rfl rfl ?_
              refine hy_const (i := 24) rfl (by decide) ?_
              refine hy_idiv (i := 25) rfl (by omega) (by omega) ?_
              refine hy_iload (i := 26) rfl rfl ?_
              refine hy_const (i := 27) rfl (by decide) ?_
              refine hy_irem (i := 28) rfl (by omega) (by omega) ?_
              refine hy_cV2 (i := 29) rfl mj_E_seen (by decide) rfl (Nat.le_of_ble_eq_true rfl) rfl rfl rfl (c_E_seen hk1) (fun r1_ t1_ h1 => ?_)
              obtain ⟨rfl, hF1⟩ := h1
              dsimp only [hy_st, List.cons_append, List.nil_append]
              rw [sp_seen_F hF]
              have hG := hF.tr' hF1
              refine hy_const (i := 30) rfl (by decide) ?_
              refine hy_ixor (i := 31) rfl ?_
              refine hy_iand (i := 32) rfl ?_
              refine hy_if_ne (i := 33) (tt := 41) rfl (fun zc2 => ?_) (fun zc2 => ?_)
              · exact absurd hc (by assumption)
              · refine hy_iinc (i := 34) rfl rfl (by omega) ?_
                refine hy_iload (i := 35) rfl rfl ?_
                refine hy_if_ge (i := 36) (tt := 39) rfl (fun zc3 => ?_) (fun zc3 => ?_)
                · refine hy_iload (i := 39) rfl rfl ?_
                  refine hy_istore (i := 40) rfl ?_
                  refine hy_iinc (i := 41) rfl rfl (by omega) ?_
                  refine hy_goto (i := 42) (tt := 17) rfl ?_
                  exact ih (k + 1) _ _ _ (by omega) hG e1.symm e2.symm
                · omega
        · have e : wf_paintN t cs (k + 1) = wf_paintN t cs k := by simp only [wf_paintN]; rw [if_neg hc]
          refine hy_iload (i := 17) rfl rfl ?_
          refine hy_const (i := 18) rfl (by decide) ?_
          refine hy_ic_ge (i := 19) (tt := 43) rfl (fun zc1 => ?_) (fun zc1 => ?_)
          · omega
          · refine hy_iload (i := 20) rfl rfl ?_
            refine hy_aload (i := 21) rfl rfl ?_
            refine hy_getr (i := 22) rfl rfl ?_
            refine hy_iload (i := 23) rfl rfl ?_
            refine hy_const (i := 24) rfl (by decide) ?_
            refine hy_idiv (i := 25) rfl (by omega) (by omega) ?_
            refine hy_iload (i := 26) rfl rfl ?_
            refine hy_const (i := 27) rfl (by decide) ?_
            refine hy_irem (i := 28) rfl (by omega) (by omega) ?_
            refine hy_cV2 (i := 29) rfl mj_E_seen (by decide) rfl (Nat.le_of_ble_eq_true rfl) rfl rfl rfl (c_E_seen hk1) (fun r1_ t1_ h1 => ?_)
            obtain ⟨rfl, hF1⟩ := h1
            dsimp only [hy_st, List.cons_append, List.nil_append]
            rw [sp_seen_F hF]
            have hG := hF.tr' hF1
            refine hy_const (i := 30) rfl (by decide) ?_
            refine hy_ixor (i := 31) rfl ?_
            refine hy_iand (i := 32) rfl ?_
            refine hy_if_ne (i := 33) (tt := 41) rfl (fun zc2 => ?_) (fun zc2 => ?_)
            · refine hy_iinc (i := 41) rfl rfl (by omega) ?_
              refine hy_goto (i := 42) (tt := 17) rfl ?_
              exact ih (k + 1) _ _ _ (by omega) hG (by rw [e, ha]) (by rw [e, hb])
            · exact absurd (by first | assumption | omega) hc
    refine hy_aload (i := 0) rfl rfl ?_
    refine hy_getr (i := 1) rfl rfl ?_
    refine hy_iload (i := 2) rfl rfl ?_
    refine hy_cV1e (i := 3) rfl mj_P_areTold (by decide) rfl (Nat.le_of_ble_eq_true rfl) rfl rfl rfl (c_P_areTold) ?_
    refine hy_ib_eq (i := 4) (tt := 9) rfl (fun zc1 => ?_) (fun zc1 => ?_)
    · simp at zc1; omega
    · refine hy_iload (i := 5) rfl rfl ?_
      refine hy_const (i := 6) rfl (by decide) ?_
      refine hy_cS2e (i := 7) rfl (by decide) mj_W_isAmong (by decide) rfl (Nat.le_of_ble_eq_true rfl) (c_W_isAmong) ?_
      refine hy_ib_ne (i := 8) (tt := 11) rfl (fun zc2 => ?_) (fun zc2 => ?_)
      · refine hy_const (i := 11) rfl (by decide) ?_
        refine hy_istore (i := 12) rfl ?_
        refine hy_const (i := 13) rfl (by decide) ?_
        refine hy_istore (i := 14) rfl ?_
        refine hy_const (i := 15) rfl (by decide) ?_
        refine hy_istore (i := 16) rfl ?_
        exact loop 24 0 t _ _ rfl hy_F.rf rfl rfl
      · simp at zc2; omega
  · have ea : wf_painting t cs w = -1 := if_neg hq
    rw [ea]
    refine hy_aload (i := 0) rfl rfl ?_
    refine hy_getr (i := 1) rfl rfl ?_
    refine hy_iload (i := 2) rfl rfl ?_
    refine hy_cV1e (i := 3) rfl mj_P_areTold (by decide) rfl (Nat.le_of_ble_eq_true rfl) rfl rfl rfl (c_P_areTold) ?_
    refine hy_ib_eq (i := 4) (tt := 9) rfl (fun zc1 => ?_) (fun zc1 => ?_)
    · refine hy_const (i := 9) rfl (by decide) ?_
      refine hy_ireturn (i := 10) rfl rfl ?_
      exact ⟨rfl, hy_F.rf⟩
    · refine hy_iload (i := 5) rfl rfl ?_
      refine hy_const (i := 6) rfl (by decide) ?_
      refine hy_cS2e (i := 7) rfl (by decide) mj_W_isAmong (by decide) rfl (Nat.le_of_ble_eq_true rfl) (c_W_isAmong) ?_
      refine hy_ib_ne (i := 8) (tt := 11) rfl (fun zc2 => ?_) (fun zc2 => ?_)
      · exfalso; simp at zc1 zc2; exact hq ⟨zc1, zc2⟩
      · refine hy_const (i := 9) rfl (by decide) ?_
        refine hy_ireturn (i := 10) rfl rfl ?_
        exact ⟨rfl, hy_F.rf⟩
/-- the battle's twos, where no one has anything -/
theorem c_W_battle0 {a b q w : Int} (hk : lc_ok t) (h0 : ∀ e, sp_hadN (t 34) e q 12 = 0) : hy_Ct sc hm_W_battle 6 [.inr (some 2), .inl a, .inl b, .inl q, .inl w] t (fun r t' => r = some (if (((0 ≤ a ∧ a < 6) ∧ 0 ≤ b ∧ b < 6) ∧ a ≠ b) ∧ (0 ≤ q ∧ q < 4) ∧ 0 ≤ w ∧ w < 3 then (if w = 0 then 0 else -2) else -1) ∧ hy_F fX t t') := by
  refine hy_mk_ct ok_W_battle ck_W_battle (Nat.le_of_ble_eq_true rfl) ?_
  by_cases hq : (((0 ≤ a ∧ a < 6) ∧ 0 ≤ b ∧ b < 6) ∧ a ≠ b) ∧ (0 ≤ q ∧ q < 4) ∧ 0 ≤ w ∧ w < 3
  · rw [if_pos hq]
    have nog : ∀ (t2 : hy_T), t2 49 4 = 0 → ∀ n : Nat, dl_twos t2 n = 0 := by
      intro t2 h4 n
      induction n with
      | zero => rfl
      | succ n ih =>
        simp only [dl_twos]
        rw [if_neg (by
          unfold dl_good dl_chosen
          rw [h4, show ∀ x, hz_iand 0 x = 0 from fun x => by unfold hz_iand; rw [show Int32.ofInt 0 = 0 from rfl, Int32.zero_and]; rfl]
          simp)]
        exact ih
    refine hy_iload (i := 0) rfl rfl ?_
    refine hy_cS1e (i := 1) rfl (by decide) mj_W_isEmpire (by decide) rfl (Nat.le_of_ble_eq_true rfl) (c_W_isEmpire) ?_
    refine hy_ib_eq (i := 2) (tt := 16) rfl (fun zc1 => ?_) (fun zc1 => ?_)
    · simp at zc1; omega
    · refine hy_iload (i := 3) rfl rfl ?_
      refine hy_cS1e (i := 4) rfl (by decide) mj_W_isEmpire (by decide) rfl (Nat.le_of_ble_eq_true rfl) (c_W_isEmpire) ?_
      refine hy_ib_eq (i := 5) (tt := 16) rfl (fun zc2 => ?_) (fun zc2 => ?_)
      · simp at zc2; omega
      · refine hy_iload (i := 6) rfl rfl ?_
        refine hy_iload (i := 7) rfl rfl ?_
        refine hy_ic_eq (i := 8) (tt := 16) rfl (fun zc3 => ?_) (fun zc3 => ?_)
        · omega
        · refine hy_iload (i := 9) rfl rfl ?_
          refine hy_cS1e (i := 10) rfl (by decide) mj_W_isQuarter (by decide) rfl (Nat.le_of_ble_eq_true rfl) (c_W_isQuarter) ?_
          refine hy_ib_eq (i := 11) (tt := 16) rfl (fun zc4 => ?_) (fun zc4 => ?_)
          · simp at zc4; omega
          · refine hy_iload (i := 12) rfl rfl ?_
            refine hy_const (i := 13) rfl (by decide) ?_
            refine hy_cS2e (i := 14) rfl (by decide) mj_W_isAmong (by decide) rfl (Nat.le_of_ble_eq_true rfl) (c_W_isAmong) ?_
            refine hy_ib_ne (i := 15) (tt := 18) rfl (fun zc5 => ?_) (fun zc5 => ?_)
            · refine hy_aload (i := 18) rfl rfl ?_
              refine hy_getr (i := 19) rfl rfl ?_
              refine hy_iload (i := 20) rfl rfl ?_
              refine hy_iload (i := 21) rfl rfl ?_
              refine hy_iload (i := 22) rfl rfl ?_
              refine hy_cV3 (i := 23) rfl mj_D_fight (by decide) rfl (Nat.le_of_ble_eq_true rfl) rfl rfl rfl (c_D_fight hk) (fun r5_ t5_ h5 => ?_)
              obtain ⟨rfl, hF5, t2, e4, e5, hw, w6, w7, w8⟩ := h5
              dsimp only [hy_st, List.nil_append]
              rw [h0, show hz_iand 0 (hz_ixor (sp_hadN (t 34) a q 12) (-1)) = 0 by unfold hz_iand; rw [show Int32.ofInt 0 = 0 from rfl, Int32.zero_and]; rfl] at e4
              have hn := nog t2 e4 144
              have hf := (dl_first_none t2 144).mpr hn
              rw [hn] at w6
              rw [hf] at w7 w8
              refine hy_iload (i := 24) rfl rfl ?_
              by_cases zq6 : w = 0
              · refine hy_lsw (i := 25) (tt := 26) rfl (by rw [zq6]; rfl) ?_
                refine hy_aload (i := 26) rfl rfl ?_
                refine hy_getr (i := 27) rfl rfl ?_
                refine hy_cV0e (i := 28) rfl mj_D_twos (by decide) rfl (Nat.le_of_ble_eq_true rfl) rfl rfl rfl (c_D_twos) ?_
                refine hy_ireturn (i := 29) rfl rfl ?_
                exact ⟨by rw [if_pos (by assumption)]; exact congrArg some w6, hF5⟩
              · skip
                by_cases zq6 : w = 1
                · refine hy_lsw (i := 25) (tt := 30) rfl (by rw [zq6]; rfl) ?_
                  refine hy_aload (i := 30) rfl rfl ?_
                  refine hy_getr (i := 31) rfl rfl ?_
                  refine hy_cV0e (i := 32) rfl mj_D_firstOfA (by decide) rfl (Nat.le_of_ble_eq_true rfl) rfl rfl rfl (c_D_firstOfA) ?_
                  refine hy_ireturn (i := 33) rfl rfl ?_
                  exact ⟨by rw [if_neg (by omega)]; exact congrArg some w7, hF5⟩
                · skip
                  refine hy_lsw (i := 25) (tt := 34) rfl (by simp [hx_look]; omega) ?_
                  refine hy_aload (i := 34) rfl rfl ?_
                  refine hy_getr (i := 35) rfl rfl ?_
                  refine hy_cV0e (i := 36) rfl mj_D_firstOfB (by decide) rfl (Nat.le_of_ble_eq_true rfl) rfl rfl rfl (c_D_firstOfB) ?_
                  refine hy_ireturn (i := 37) rfl rfl ?_
                  exact ⟨by rw [if_neg (by omega)]; exact congrArg some w8, hF5⟩
            · simp at zc5; omega
  · rw [if_neg hq]
    refine hy_iload (i := 0) rfl rfl ?_
    refine hy_cS1e (i := 1) rfl (by decide) mj_W_isEmpire (by decide) rfl (Nat.le_of_ble_eq_true rfl) (c_W_isEmpire) ?_
    refine hy_ib_eq (i := 2) (tt := 16) rfl (fun zc1 => ?_) (fun zc1 => ?_)
    · refine hy_const (i := 16) rfl (by decide) ?_
      refine hy_ireturn (i := 17) rfl rfl ?_
      exact ⟨rfl, hy_F.rf⟩
    · refine hy_iload (i := 3) rfl rfl ?_
      refine hy_cS1e (i := 4) rfl (by decide) mj_W_isEmpire (by decide) rfl (Nat.le_of_ble_eq_true rfl) (c_W_isEmpire) ?_
      refine hy_ib_eq (i := 5) (tt := 16) rfl (fun zc2 => ?_) (fun zc2 => ?_)
      · refine hy_const (i := 16) rfl (by decide) ?_
        refine hy_ireturn (i := 17) rfl rfl ?_
        exact ⟨rfl, hy_F.rf⟩
      · refine hy_iload (i := 6) rfl rfl ?_
        refine hy_iload (i := 7) rfl rfl ?_
        refine hy_ic_eq (i := 8) (tt := 16) rfl (fun zc3 => ?_) (fun zc3 => ?_)
        · refine hy_const (i := 16) rfl (by decide) ?_
          refine hy_ireturn (i := 17) rfl rfl ?_
          exact ⟨rfl, hy_F.rf⟩
        · refine hy_iload (i := 9) rfl rfl ?_
          refine hy_cS1e (i := 10) rfl (by decide) mj_W_isQuarter (by decide) rfl (Nat.le_of_ble_eq_true rfl) (c_W_isQuarter) ?_
          refine hy_ib_eq (i := 11) (tt := 16) rfl (fun zc4 => ?_) (fun zc4 => ?_)
          · refine hy_const (i := 16) rfl (by decide) ?_
            refine hy_ireturn (i := 17) rfl rfl ?_
            exact ⟨rfl, hy_F.rf⟩
          · refine hy_iload (i := 12) rfl rfl ?_
            refine hy_const (i := 13) rfl (by decide) ?_
            refine hy_cS2e (i := 14) rfl (by decide) mj_W_isAmong (by decide) rfl (Nat.le_of_ble_eq_true rfl) (c_W_isAmong) ?_
            refine hy_ib_ne (i := 15) (tt := 18) rfl (fun zc5 => ?_) (fun zc5 => ?_)
            · exfalso; simp at zc1 zc2 zc4 zc5; exact hq ⟨⟨⟨zc1, zc2⟩, zc3⟩, zc4, zc5⟩
            · refine hy_const (i := 16) rfl (by decide) ?_
              refine hy_ireturn (i := 17) rfl rfl ?_
              exact ⟨rfl, hy_F.rf⟩
end WCC
