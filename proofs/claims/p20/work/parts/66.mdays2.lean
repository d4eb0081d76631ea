/-! the model's days -/
theorem lw_bit : ∀ w : Nat, w < 16 → 1 ≤ w → sp_lowN (w : Int) 4 0 < 4 := by decide +kernel
section ND
variable {sc : List Int32} {t : hy_T}
theorem c_M_lowest {w : Int} (h4 : sp_lowN w 4 0 < 4) : hy_Ct sc hm_M_lowest 1 [.inl w] t (hy_e (some (sp_lowN w 4 0)) t) := by
  refine hy_mk_ct ok_M_lowest ck_M_lowest (Nat.le_of_ble_eq_true rfl) ?_
  generalize hG : sp_lowN w 4 0 = G at h4
  have loop : ∀ (n : Nat), ∀ (q : Int), 0 ≤ q → n + q = 4 → sp_lowN w n q = G → hy_W sc hm_M_lowest 1 2 [.inl w, .inl q] [] t (hy_e (some G) t) := by
    intro n
    induction n with
    | zero =>
      intro q h0 h1 h2
      simp only [sp_lowN] at h2
      omega
    | succ n ih =>
      intro q h0 h1 h2
      simp only [sp_lowN] at h2
      by_cases hb : hz_b w q = false
      · rw [if_pos ⟨by omega, hb⟩] at h2
        refine hy_iload (i := 2) rfl rfl ?_
        refine hy_iload (i := 3) rfl rfl ?_
        refine hy_cS2e (i := 4) rfl (by decide) mj_M_has (by decide) rfl (Nat.le_of_ble_eq_true rfl) (c_M_has) ?_
        refine hy_ib_ne (i := 5) (tt := 11) rfl (fun zc1 => ?_) (fun zc1 => ?_)
        · exact bb_abs (by assumption) hb
        · refine hy_iload (i := 6) rfl rfl ?_
          refine hy_const (i := 7) rfl (by decide) ?_
          refine hy_iadd (i := 8) rfl (by omega) ?_
          refine hy_istore (i := 9) rfl ?_
          refine hy_goto (i := 10) (tt := 2) rfl ?_
          exact ih (q + 1) (by omega) (by omega) h2
      · rw [if_neg (fun h => hb h.2)] at h2
        refine hy_iload (i := 2) rfl rfl ?_
        refine hy_iload (i := 3) rfl rfl ?_
        refine hy_cS2e (i := 4) rfl (by decide) mj_M_has (by decide) rfl (Nat.le_of_ble_eq_true rfl) (c_M_has) ?_
        refine hy_ib_ne (i := 5) (tt := 11) rfl (fun zc1 => ?_) (fun zc1 => ?_)
        · refine hy_iload (i := 11) rfl rfl ?_
          refine hy_ireturn (i := 12) rfl rfl ?_
          exact ⟨congrArg some h2, rfl⟩
        · exact absurd (by assumption) hb
  refine hy_const (i := 0) rfl (by decide) ?_
  refine hy_istore (i := 1) rfl ?_
  exact loop 4 0 (by omega) (by omega) hG
theorem c_M_breaksBy {i : Nat} (hk : ml_ok t) (hi : i < 16) (hr : tr_row t i) (hd : 0 ≤ t 59 2 ∧ t 59 2 ≤ 9999) : hy_Ct sc hm_M_breaksBy 4 [.inr (some 59), .inl (i : Int)] t (fun r t' => r = some (mb_br t i) ∧ hy_F mvX t t') := by
  refine hy_mk_ct ok_M_breaksBy ck_M_breaksBy (Nat.le_of_ble_eq_true rfl) ?_
  obtain ⟨r1, r2, r3, r4, r5, r6⟩ := hr
  have hl := lw_in' r2
  have hl4 := hl.2
  refine hy_aload (i := 0) rfl rfl ?_
  refine hy_aload (i := 1) rfl rfl ?_
  refine hy_getr (i := 2) rfl rfl ?_
  refine hy_iload (i := 3) rfl rfl ?_
  refine hy_iald (i := 4) rfl rfl (by omega) (k := i) (by omega) ?_
  refine hy_aload (i := 5) rfl rfl ?_
  refine hy_getr (i := 6) rfl rfl ?_
  refine hy_iload (i := 7) rfl rfl ?_
  refine hy_iald (i := 8) rfl rfl (by omega) (k := i) (by omega) ?_
  refine hy_aload (i := 9) rfl rfl ?_
  refine hy_getr (i := 10) rfl rfl ?_
  refine hy_iload (i := 11) rfl rfl ?_
  refine hy_iald (i := 12) rfl rfl (by omega) (k := i) (by omega) ?_
  refine hy_cS1e (i := 13) rfl (by decide) mj_M_lowest (by decide) rfl (Nat.le_of_ble_eq_true rfl) (c_M_lowest (by assumption)) ?_
  refine hy_cV3 (i := 14) rfl mj_M_feels (by decide) rfl (Nat.le_of_ble_eq_true rfl) rfl rfl rfl (c_M_feels (by omega) (by omega)) (fun r2_ t2_ h2 => ?_)
  obtain ⟨rfl, hF2, hV2⟩ := h2
  dsimp only [hy_st, List.nil_append]
  have g2 : t2_ 59 2 = t 59 2 := hF2 59 2 rfl
  have g90 : t2_ 90 i = t 90 i := hF2 90 i rfl
  refine hy_aload (i := 15) rfl rfl ?_
  refine hy_getr (i := 16) rfl rfl ?_
  refine hy_const (i := 17) rfl (by decide) ?_
  refine hy_aload (i := 18) rfl rfl ?_
  refine hy_get (i := 19) (fk := 2) rfl rfl rfl ?_
  refine hy_aload (i := 20) rfl rfl ?_
  refine hy_getr (i := 21) rfl rfl ?_
  refine hy_iload (i := 22) rfl rfl ?_
  refine hy_iald (i := 23) rfl rfl (by omega) (k := i) (by omega) ?_
  rw [g2, g90]
  refine hy_isub (i := 24) rfl (by omega) ?_
  refine hy_iast (i := 25) rfl rfl (by omega) (show _ = 9 from rfl) ?_
  refine hy_aload (i := 26) rfl rfl ?_
  refine hy_const (i := 27) rfl (by decide) ?_
  refine hy_const (i := 28) rfl (by decide) ?_
  have hk3 := ml_ok_F (hF2.up (r := 78) (j := 9) (v := t 59 2 - t 90 i) rfl) (fun r j h => by revert h; simp [mlawX]; omega) hk
  refine hy_cV2 (i := 29) rfl mj_M_byLaw (by decide) rfl (Nat.le_of_ble_eq_true rfl) rfl rfl rfl (c_M_byLaw hk3 (.inl rfl)) (fun r3_ t3_ h3 => ?_)
  obtain ⟨rfl, hF3⟩ := h3
  dsimp only [hy_st, List.cons_append, List.nil_append]
  refine hy_ireturn (i := 30) rfl rfl ?_
  exact ⟨congrArg some (mq_tellO hk hF2 hV2 _ 98 10 (.inl rfl)), (mv_78 (hF2.up rfl)).tr' (ml_mv (by assumption))⟩
theorem c_M_ends {i : Nat} (ht : tr_ok t) (hi : (i : Int) < t 59 34) (hb : 0 ≤ t 59 58 ∧ t 59 58 ≤ 100) : hy_Ct sc hm_M_ends 2 [.inr (some 59), .inl (i : Int)] t (hy_e none (me_end t i)) := by
  refine hy_mk_ct ok_M_ends ck_M_ends (Nat.le_of_ble_eq_true rfl) ?_
  obtain ⟨t1, t2, t3, t4⟩ := id ht
  have hr := t4 i hi
  have a := me_e1_F t i
  have r1 : ∀ r j, r ≠ 59 → me_e1 t i r j = t r j := fun r j h => a r j (by simp; omega)
  have b1 : 0 ≤ me_e1 t i 85 i ∧ me_e1 t i 85 i < 12 := by rw [r1 85 i (by decide)]; exact hr.1
  have b : hy_F hvX (me_e1 t i) (me_e2 (me_e1 t i) i) := mf_chN_F b1 _ 4 (by omega)
  have c1 : 0 ≤ me_e2 (me_e1 t i) i 85 i ∧ me_e2 (me_e1 t i) i 85 i < 12 := by rw [b 85 i rfl]; exact b1
  have c : hy_F hvX (me_e2 (me_e1 t i) i) (me_e3 (me_e2 (me_e1 t i) i) i) := mf_chN_F c1 _ 4 (by omega)
  have d34 : me_e3 (me_e2 (me_e1 t i) i) i 59 34 = t 59 34 := by rw [c 59 34 rfl, b 59 34 rfl, a 59 34 rfl]
  have loop : ∀ (m : Nat), ∀ (k : Nat) (u : hy_T), u 59 34 = t 59 34 - 1 → m + k = (t 59 34).toNat - 1 → me_shN m k u = me_end t i → hy_W sc hm_M_ends 2 57 [.inr (some 59), .inl (i : Int), .inl (k : Int)] [] u (hy_e none (me_end t i)) := by
    intro m
    induction m with
    | zero =>
      intro k u hu hm hv
      refine hy_iload (i := 57) rfl rfl ?_
      refine hy_aload (i := 58) rfl rfl ?_
      refine hy_get (i := 59) (fk := 34) rfl rfl rfl ?_
      refine hy_ic_ge (i := 60) (tt := 123) rfl (fun zc1 => ?_) (fun zc1 => ?_)
      · refine hy_return (i := 123) rfl rfl ?_
        exact ⟨rfl, hv⟩
      · omega
    | succ m ih =>
      intro k u hu hm hv
      refine hy_iload (i := 57) rfl rfl ?_
      refine hy_aload (i := 58) rfl rfl ?_
      refine hy_get (i := 59) (fk := 34) rfl rfl rfl ?_
      refine hy_ic_ge (i := 60) (tt := 123) rfl (fun zc1 => ?_) (fun zc1 => ?_)
      · omega
      · refine hy_aload (i := 61) rfl rfl ?_
        refine hy_getr (i := 62) rfl rfl ?_
        refine hy_iload (i := 63) rfl rfl ?_
        refine hy_aload (i := 64) rfl rfl ?_
        refine hy_getr (i := 65) rfl rfl ?_
        refine hy_iload (i := 66) rfl rfl ?_
        refine hy_const (i := 67) rfl (by decide) ?_
        refine hy_iadd (i := 68) rfl (by omega) ?_
        refine hy_iald (i := 69) rfl rfl (by omega) (k := k + 1) (by omega) ?_
        refine hy_iast (i := 70) rfl rfl (by omega) (k := k) (by omega) ?_
        refine hy_aload (i := 71) rfl rfl ?_
        refine hy_getr (i := 72) rfl rfl ?_
        refine hy_iload (i := 73) rfl rfl ?_
        refine hy_aload (i := 74) rfl rfl ?_
        refine hy_getr (i := 75) rfl rfl ?_
        refine hy_iload (i := 76) rfl rfl ?_
        refine hy_const (i := 77) rfl (by decide) ?_
        refine hy_iadd (i := 78) rfl (by omega) ?_
        refine hy_iald (i := 79) rfl rfl (by omega) (k := k + 1) (by omega) ?_
        refine hy_iast (i := 80) rfl rfl (by omega) (k := k) (by omega) ?_
        refine hy_aload (i := 81) rfl rfl ?_
        refine hy_getr (i := 82) rfl rfl ?_
        refine hy_iload (i := 83) rfl rfl ?_
        refine hy_aload (i := 84) rfl rfl ?_
        refine hy_getr (i := 85) rfl rfl ?_
        refine hy_iload (i := 86) rfl rfl ?_
        refine hy_const (i := 87) rfl (by decide) ?_
        refine hy_iadd (i := 88) rfl (by omega) ?_
        refine hy_iald (i := 89) rfl rfl (by omega) (k := k + 1) (by omega) ?_
        refine hy_iast (i := 90) rfl rfl (by omega) (k := k) (by omega) ?_
        refine hy_aload (i := 91) rfl rfl ?_
        refine hy_getr (i := 92) rfl rfl ?_
        refine hy_iload (i := 93) rfl rfl ?_
        refine hy_aload (i := 94) rfl rfl ?_
        refine hy_getr (i := 95) rfl rfl ?_
        refine hy_iload (i := 96) rfl rfl ?_
        refine hy_const (i := 97) rfl (by decide) ?_
        refine hy_iadd (i := 98) rfl (by omega) ?_
        refine hy_iald (i := 99) rfl rfl (by omega) (k := k + 1) (by omega) ?_
        refine hy_iast (i := 100) rfl rfl (by omega) (k := k) (by omega) ?_
        refine hy_aload (i := 101) rfl rfl ?_
        refine hy_getr (i := 102) rfl rfl ?_
        refine hy_iload (i := 103) rfl rfl ?_
        refine hy_aload (i := 104) rfl rfl ?_
        refine hy_getr (i := 105) rfl rfl ?_
        refine hy_iload (i := 106) rfl rfl ?_
        refine hy_const (i := 107) rfl (by decide) ?_
        refine hy_iadd (i := 108) rfl (by omega) ?_
        refine hy_iald (i := 109) rfl rfl (by omega) (k := k + 1) (by omega) ?_
        refine hy_iast (i := 110) rfl rfl (by omega) (k := k) (by omega) ?_
        refine hy_aload (i := 111) rfl rfl ?_
        refine hy_getr (i := 112) rfl rfl ?_
        refine hy_iload (i := 113) rfl rfl ?_
        refine hy_aload (i := 114) rfl rfl ?_
        refine hy_getr (i := 115) rfl rfl ?_
        refine hy_iload (i := 116) rfl rfl ?_
        refine hy_const (i := 117) rfl (by decide) ?_
        refine hy_iadd (i := 118) rfl (by omega) ?_
        refine hy_iald (i := 119) rfl rfl (by omega) (k := k + 1) (by omega) ?_
        refine hy_iast (i := 120) rfl rfl (by omega) (k := k) (by omega) ?_
        refine hy_iinc (i := 121) rfl rfl (by omega) ?_
        refine hy_goto (i := 122) (tt := 57) rfl ?_
        exact ih (k + 1) _ hu (by omega) hv
  have mid : ∀ u, u = me_e0 t i → hy_W sc hm_M_ends 2 13 [.inr (some 59), .inl (i : Int), .inr none] [] u (hy_e none (me_end t i)) := by
    intro u hu
    have e58 : u 59 58 = t 59 58 := by rw [hu]; exact me_e0_F t i 59 58 rfl
    refine hy_aload (i := 13) rfl rfl ?_
    refine hy_aload (i := 14) rfl rfl ?_
    refine hy_get (i := 15) (fk := 58) rfl rfl rfl ?_
    refine hy_const (i := 16) rfl (by decide) ?_
    refine hy_iadd (i := 17) rfl (by omega) ?_
    refine hy_put (i := 18) (fk := 58) rfl rfl rfl rfl ?_
    rw [show hy_up u 59 58 (u 59 58 + 1) = me_e1 t i by rw [hu]; rfl]
    refine hy_aload (i := 19) rfl rfl ?_
    refine hy_aload (i := 20) rfl rfl ?_
    refine hy_getr (i := 21) rfl rfl ?_
    refine hy_iload (i := 22) rfl rfl ?_
    refine hy_iald (i := 23) rfl rfl (by omega) (k := i) (by omega) ?_
    refine hy_aload (i := 24) rfl rfl ?_
    refine hy_getr (i := 25) rfl rfl ?_
    refine hy_iload (i := 26) rfl rfl ?_
    refine hy_iald (i := 27) rfl rfl (by omega) (k := i) (by omega) ?_
    refine hy_aload (i := 28) rfl rfl ?_
    refine hy_getr (i := 29) rfl rfl ?_
    refine hy_iload (i := 30) rfl rfl ?_
    refine hy_iald (i := 31) rfl rfl (by omega) (k := i) (by omega) ?_
    refine hy_const (i := 32) rfl (by decide) ?_
    refine hy_cV4v (i := 33) rfl mj_M_changes (by decide) rfl (Nat.le_of_ble_eq_true rfl) rfl rfl rfl (c_M_changes (by omega)) ?_
    rw [show mf_chN (me_e1 t i) (me_e1 t i 85 i) (me_e1 t i 86 i) (me_e1 t i 88 i) 0 4 = me_e2 (me_e1 t i) i from rfl]
    refine hy_aload (i := 34) rfl rfl ?_
    refine hy_aload (i := 35) rfl rfl ?_
    refine hy_getr (i := 36) rfl rfl ?_
    refine hy_iload (i := 37) rfl rfl ?_
    refine hy_iald (i := 38) rfl rfl (by omega) (k := i) (by omega) ?_
    refine hy_aload (i := 39) rfl rfl ?_
    refine hy_getr (i := 40) rfl rfl ?_
    refine hy_iload (i := 41) rfl rfl ?_
    refine hy_iald (i := 42) rfl rfl (by omega) (k := i) (by omega) ?_
    refine hy_aload (i := 43) rfl rfl ?_
    refine hy_getr (i := 44) rfl rfl ?_
    refine hy_iload (i := 45) rfl rfl ?_
    refine hy_iald (i := 46) rfl rfl (by omega) (k := i) (by omega) ?_
    refine hy_const (i := 47) rfl (by decide) ?_
    refine hy_cV4v (i := 48) rfl mj_M_changes (by decide) rfl (Nat.le_of_ble_eq_true rfl) rfl rfl rfl (c_M_changes (by omega)) ?_
    rw [show mf_chN (me_e2 (me_e1 t i) i) (me_e2 (me_e1 t i) i 85 i) (me_e2 (me_e1 t i) i 86 i) (me_e2 (me_e1 t i) i 87 i) 1 4 = me_e3 (me_e2 (me_e1 t i) i) i from rfl]
    refine hy_aload (i := 49) rfl rfl ?_
    refine hy_aload (i := 50) rfl rfl ?_
    refine hy_get (i := 51) (fk := 34) rfl rfl rfl ?_
    refine hy_const (i := 52) rfl (by decide) ?_
    refine hy_isub (i := 53) rfl (by omega) ?_
    refine hy_put (i := 54) (fk := 34) rfl rfl rfl rfl ?_
    refine hy_iload (i := 55) rfl rfl ?_
    refine hy_istore (i := 56) rfl ?_
    exact loop ((t 59 34).toNat - 1 - i) i _ (by show me_e3 (me_e2 (me_e1 t i) i) i 59 34 - 1 = _; rw [d34]) (by omega) rfl
  by_cases h58 : t 59 58 = 0
  · have m1 := mid _ (show hy_up (hy_up t 59 59 (t 59 2)) 59 60 (t 87 i) = me_e0 t i by unfold me_e0; rw [if_pos h58])
    refine hy_aload (i := 0) rfl rfl ?_
    refine hy_get (i := 1) (fk := 58) rfl rfl rfl ?_
    refine hy_if_ne (i := 2) (tt := 13) rfl (fun zc1 => ?_) (fun zc1 => ?_)
    · exact absurd h58 zc1
    · refine hy_aload (i := 3) rfl rfl ?_
      refine hy_aload (i := 4) rfl rfl ?_
      refine hy_get (i := 5) (fk := 2) rfl rfl rfl ?_
      refine hy_put (i := 6) (fk := 59) rfl rfl rfl rfl ?_
      refine hy_aload (i := 7) rfl rfl ?_
      refine hy_aload (i := 8) rfl rfl ?_
      refine hy_getr (i := 9) rfl rfl ?_
      refine hy_iload (i := 10) rfl rfl ?_
      refine hy_iald (i := 11) rfl rfl (by omega) (k := i) (by omega) ?_
      refine hy_put (i := 12) (fk := 60) rfl rfl rfl rfl ?_
      exact m1
  · have m1 := mid _ (show t = me_e0 t i by unfold me_e0; rw [if_neg h58])
    refine hy_aload (i := 0) rfl rfl ?_
    refine hy_get (i := 1) (fk := 58) rfl rfl rfl ?_
    refine hy_if_ne (i := 2) (tt := 13) rfl (fun zc1 => ?_) (fun zc1 => ?_)
    · exact m1
    · exact absurd zc1 h58
theorem c_M_daysGo {n : Int} (hk : ml_ok t) (ht : tr_ok t) (hn : n ≤ 99) : hy_Ct sc hm_M_daysGo 5 [.inr (some 59), .inl n] t (fun r t' => r = none ∧ hy_F mvX (md_days t n) t') := by
  refine hy_mk_ct ok_M_daysGo ck_M_daysGo (Nat.le_of_ble_eq_true rfl) ?_
  have inner : ∀ (kk : Int) (Q : Option Int → hy_T → Prop) (m : Nat), ∀ (i : Nat) (u v : hy_T), md_ok u → ml_ok u → hy_F mvX u v → (u 59 34 - i : Int) < m → (∀ v', hy_F mvX (md_turnN m u i) v' → ∀ x3, hy_W sc hm_M_daysGo 5 51 [.inr (some 59), .inl n, .inl kk, x3] [] v' Q) → hy_W sc hm_M_daysGo 5 20 [.inr (some 59), .inl n, .inl kk, .inl (i : Int)] [] v Q := by
    intro kk Q m
    induction m with
    | zero =>
      intro i u v hu hl hF hm hQ
      have e34 : v 59 34 = u 59 34 := hF 59 34 rfl
      have h34 := hu.1.1
      refine hy_iload (i := 20) rfl rfl ?_
      refine hy_aload (i := 21) rfl rfl ?_
      refine hy_get (i := 22) (fk := 34) rfl rfl rfl ?_
      refine hy_ic_ge (i := 23) (tt := 51) rfl (fun zc1 => ?_) (fun zc1 => ?_)
      · exact hQ _ hF _
      · omega
    | succ m ih =>
      intro i u v hu hl hF hm hQ
      have e34 : v 59 34 = u 59 34 := hF 59 34 rfl
      obtain ⟨u1, u2, u3⟩ := id hu
      obtain ⟨w1, w2, w3, w4⟩ := id u1
      simp only [md_turnN] at hQ
      by_cases hc : (i : Int) < u 59 34
      · rw [if_pos hc] at hQ
        obtain ⟨x1, x2⟩ := md_x_s u1
        have hx : md_ok (md_x u) := ⟨x1, u2, u3⟩
        have hlx : ml_ok (md_x u) := ml_ok_F x2 dsX_law hl
        have hFx : hy_F mvX (md_x u) (hy_up v 59 1 ((25173 * v 59 1 + 13849) % 65536)) := hF_up hF 59 1 (by rw [hF 59 1 rfl])
        have ev1 : v 59 1 = u 59 1 := hF 59 1 rfl
        have hlv := ml_ok_F hFx (meq_law mvX_meq) hlx
        have htv := tr_mv hFx x1
        have hrv := htv.2.2.2 i (by show (i : Int) < v 59 34; omega)
        have hdv : 0 ≤ hy_up v 59 1 ((25173 * v 59 1 + 13849) % 65536) 59 2 ∧ hy_up v 59 1 ((25173 * v 59 1 + 13849) % 65536) 59 2 ≤ 9999 := htv.2.1
        have ex : md_x u 59 1 = (25173 * v 59 1 + 13849) % 65536 := by rw [ev1]; rfl
        have eb := mb_br_E hFx i
        rw [ex] at hQ
        refine hy_iload (i := 20) rfl rfl ?_
        refine hy_aload (i := 21) rfl rfl ?_
        refine hy_get (i := 22) (fk := 34) rfl rfl rfl ?_
        refine hy_ic_ge (i := 23) (tt := 51) rfl (fun zc1 => ?_) (fun zc1 => ?_)
        · omega
        · refine hy_aload (i := 24) rfl rfl ?_
          refine hy_const (i := 25) rfl (by decide) ?_
          refine hy_aload (i := 26) rfl rfl ?_
          refine hy_get (i := 27) (fk := 1) rfl rfl rfl ?_
          refine hy_imul (i := 28) rfl (by omega) ?_
          refine hy_const (i := 29) rfl (by decide) ?_
          refine hy_iadd (i := 30) rfl (by omega) ?_
          refine hy_const (i := 31) rfl (by decide) ?_
          refine hy_irem (i := 32) rfl (by omega) (by omega) ?_
          refine hy_put (i := 33) (fk := 1) rfl rfl rfl rfl ?_
          refine hy_aload (i := 34) rfl rfl ?_
          refine hy_get (i := 35) (fk := 1) rfl rfl rfl ?_
          refine hy_const (i := 36) rfl (by decide) ?_
          rw [show hy_up v 59 1 ((25173 * v 59 1 + 13849) % 65536) 59 1 = (25173 * v 59 1 + 13849) % 65536 from rfl]
          refine hy_irem (i := 37) rfl (by omega) (by omega) ?_
          refine hy_aload (i := 38) rfl rfl ?_
          refine hy_iload (i := 39) rfl rfl ?_
          refine hy_cV1 (i := 40) rfl mj_M_breaksBy (by decide) rfl (Nat.le_of_ble_eq_true rfl) rfl rfl rfl (c_M_breaksBy (i := i) hlv (by omega) hrv hdv) (fun r1_ t1_ h1 => ?_)
          obtain ⟨rfl, hF1⟩ := h1
          dsimp only [hy_st, List.cons_append, List.nil_append]
          rw [eb]
          refine hy_ic_ge (i := 41) (tt := 46) rfl (fun zc2 => ?_) (fun zc2 => ?_)
          · refine hy_iload (i := 46) rfl rfl ?_
            refine hy_const (i := 47) rfl (by decide) ?_
            refine hy_iadd (i := 48) rfl (by omega) ?_
            refine hy_istore (i := 49) rfl ?_
            refine hy_goto (i := 50) (tt := 20) rfl ?_
            first | (rw [if_pos (by omega)] at hQ; obtain ⟨f1, f2, f3, f4⟩ := me_end_s (i := i) x1 hc (by show 0 ≤ u 59 58 ∧ u 59 58 ≤ 100; omega); have q34 : md_x u 59 34 = u 59 34 := rfl; have q58 : md_x u 59 58 = u 59 58 := rfl; exact ih i (me_end (md_x u) i) _ ⟨f2, by omega, by omega⟩ (ml_ok_F f1 (fun r j h => by revert h; simp [mlawX, enX, hvX, mftX]; omega) hlx) (me_end_E (hFx.tr' hF1) i) (by omega) hQ) | (rw [if_neg (by omega)] at hQ; exact ih (i + 1) (md_x u) _ hx hlx (hFx.tr' hF1) (by show u 59 34 - ((i + 1 : Nat) : Int) < _; omega) hQ)
          · refine hy_aload (i := 42) rfl rfl ?_
            refine hy_iload (i := 43) rfl rfl ?_
            refine hy_cV1v (i := 44) rfl mj_M_ends (by decide) rfl (Nat.le_of_ble_eq_true rfl) rfl rfl rfl (c_M_ends (i := i) (tr_mv hF1 htv) (by rw [hF1 59 34 rfl]; show (i : Int) < v 59 34; omega) (by rw [hF1 59 58 rfl]; show 0 ≤ v 59 58 ∧ v 59 58 ≤ 100; rw [hF 59 58 rfl]; omega)) ?_
            refine hy_goto (i := 45) (tt := 20) rfl ?_
            first | (rw [if_pos (by omega)] at hQ; obtain ⟨f1, f2, f3, f4⟩ := me_end_s (i := i) x1 hc (by show 0 ≤ u 59 58 ∧ u 59 58 ≤ 100; omega); have q34 : md_x u 59 34 = u 59 34 := rfl; have q58 : md_x u 59 58 = u 59 58 := rfl; exact ih i (me_end (md_x u) i) _ ⟨f2, by omega, by omega⟩ (ml_ok_F f1 (fun r j h => by revert h; simp [mlawX, enX, hvX, mftX]; omega) hlx) (me_end_E (hFx.tr' hF1) i) (by omega) hQ) | (rw [if_neg (by omega)] at hQ; exact ih (i + 1) (md_x u) _ hx hlx (hFx.tr' hF1) (by show u 59 34 - ((i + 1 : Nat) : Int) < _; omega) hQ)
      · rw [if_neg hc] at hQ
        refine hy_iload (i := 20) rfl rfl ?_
        refine hy_aload (i := 21) rfl rfl ?_
        refine hy_get (i := 22) (fk := 34) rfl rfl rfl ?_
        refine hy_ic_ge (i := 23) (tt := 51) rfl (fun zc1 => ?_) (fun zc1 => ?_)
        · exact hQ _ hF _
        · omega
  have loop : ∀ (m : Nat), ∀ (k : Nat) (u v : hy_T) (x3 : hy_V), m + k = n.toNat → md_ok u → ml_ok u → hy_F mvX u v → md_daysN m u = md_days t n → hy_W sc hm_M_daysGo 5 11 [.inr (some 59), .inl n, .inl (k : Int), x3] [] v (fun r t' => r = none ∧ hy_F mvX (md_days t n) t') := by
    intro m
    induction m with
    | zero =>
      intro k u v x3 hm hu hl hF hv
      refine hy_iload (i := 11) rfl rfl ?_
      refine hy_iload (i := 12) rfl rfl ?_
      refine hy_ic_ge (i := 13) (tt := 59) rfl (fun zc1 => ?_) (fun zc1 => ?_)
      · refine hy_return (i := 59) rfl rfl ?_
        exact ⟨rfl, by rw [← hv]; exact hF⟩
      · omega
    | succ m ih =>
      intro k u v x3 hm hu hl hF hv
      have e2 : v 59 2 = u 59 2 := hF 59 2 rfl
      have h16 := hu.1.1
      simp only [md_daysN] at hv
      by_cases hd : u 59 2 < 9999
      · rw [if_pos hd] at hv
        obtain ⟨a1, a2⟩ := md_day_s hu hd
        obtain ⟨c1, c2, c3⟩ := md_turnN_s 17 0 hu
        have hd2 := hu.1.2.1
        have la := ml_ok_F a2 dsX_law hl
        have nx : ∀ v', hy_F mvX (md_turnN 17 u 0) v' → ∀ x3, hy_W sc hm_M_daysGo 5 51 [.inr (some 59), .inl n, .inl (k : Int), x3] [] v' (fun r t' => r = none ∧ hy_F mvX (md_days t n) t') := by
          intro v' hv' x3
          have e3 : v' 59 2 = u 59 2 := (hv' 59 2 rfl).trans c3
          refine hy_aload (i := 51) rfl rfl ?_
          refine hy_aload (i := 52) rfl rfl ?_
          refine hy_get (i := 53) (fk := 2) rfl rfl rfl ?_
          refine hy_const (i := 54) rfl (by decide) ?_
          refine hy_iadd (i := 55) rfl (by omega) ?_
          refine hy_put (i := 56) (fk := 2) rfl rfl rfl rfl ?_
          refine hy_iinc (i := 57) rfl rfl (by omega) ?_
          refine hy_goto (i := 58) (tt := 11) rfl ?_
          exact ih (k + 1) (md_day u) _ _ (by omega) a1 la (hF_up hv' 59 2 (by rw [hv' 59 2 rfl])) hv
        refine hy_iload (i := 11) rfl rfl ?_
        refine hy_iload (i := 12) rfl rfl ?_
        refine hy_ic_ge (i := 13) (tt := 59) rfl (fun zc1 => ?_) (fun zc1 => ?_)
        · omega
        · refine hy_aload (i := 14) rfl rfl ?_
          refine hy_get (i := 15) (fk := 2) rfl rfl rfl ?_
          refine hy_const (i := 16) rfl (by decide) ?_
          refine hy_ic_ge (i := 17) (tt := 59) rfl (fun zc2 => ?_) (fun zc2 => ?_)
          · omega
          · refine hy_const (i := 18) rfl (by decide) ?_
            refine hy_istore (i := 19) rfl ?_
            exact inner _ _ 17 0 u v hu hl hF (by omega) nx
      · rw [if_neg hd] at hv
        refine hy_iload (i := 11) rfl rfl ?_
        refine hy_iload (i := 12) rfl rfl ?_
        refine hy_ic_ge (i := 13) (tt := 59) rfl (fun zc1 => ?_) (fun zc1 => ?_)
        · refine hy_return (i := 59) rfl rfl ?_
          exact ⟨rfl, by rw [← hv]; exact hF⟩
        · refine hy_aload (i := 14) rfl rfl ?_
          refine hy_get (i := 15) (fk := 2) rfl rfl rfl ?_
          refine hy_const (i := 16) rfl (by decide) ?_
          refine hy_ic_ge (i := 17) (tt := 59) rfl (fun zc2 => ?_) (fun zc2 => ?_)
          · refine hy_return (i := 59) rfl rfl ?_
            exact ⟨rfl, by rw [← hv]; exact hF⟩
          · omega
  obtain ⟨a1, a2⟩ := md_t0_s ht
  refine hy_aload (i := 0) rfl rfl ?_
  refine hy_const (i := 1) rfl (by decide) ?_
  refine hy_put (i := 2) (fk := 58) rfl rfl rfl rfl ?_
  refine hy_aload (i := 3) rfl rfl ?_
  refine hy_const (i := 4) rfl (by decide) ?_
  refine hy_put (i := 5) (fk := 59) rfl rfl rfl rfl ?_
  refine hy_aload (i := 6) rfl rfl ?_
  refine hy_const (i := 7) rfl (by decide) ?_
  refine hy_put (i := 8) (fk := 60) rfl rfl rfl rfl ?_
  refine hy_const (i := 9) rfl (by decide) ?_
  refine hy_istore (i := 10) rfl ?_
  exact loop n.toNat 0 (md_t0 t) _ _ rfl a1 (ml_ok_F a2 dsX_law hk) hy_F.rf rfl
theorem c_M_days {n : Int} (hk : ml_ok t) (ht : tr_ok t) : hy_Ct sc hm_M_days 6 [.inr (some 59), .inl n] t (fun r t' => r = some (if 1 ≤ n ∧ n ≤ 99 then md_days t n 59 58 else -1) ∧ hy_F mvX (if 1 ≤ n ∧ n ≤ 99 then md_days t n else t) t') := by
  refine hy_mk_ct ok_M_days ck_M_days (Nat.le_of_ble_eq_true rfl) ?_
  by_cases hq : 1 ≤ n ∧ n ≤ 99
  · rw [if_pos hq]
    simp only [if_pos hq]
    refine hy_iload (i := 0) rfl rfl ?_
    refine hy_const (i := 1) rfl (by decide) ?_
    refine hy_const (i := 2) rfl (by decide) ?_
    refine hy_cS3e (i := 3) rfl (by decide) mj_M_in (by decide) rfl (Nat.le_of_ble_eq_true rfl) (c_M_in) ?_
    refine hy_ib_ne (i := 4) (tt := 7) rfl (fun zc1 => ?_) (fun zc1 => ?_)
    · refine hy_aload (i := 7) rfl rfl ?_
      refine hy_iload (i := 8) rfl rfl ?_
      refine hy_cV1 (i := 9) rfl mj_M_daysGo (by decide) rfl (Nat.le_of_ble_eq_true rfl) rfl rfl rfl (c_M_daysGo (by assumption) (by assumption) (by omega)) (fun r2_ t2_ h2 => ?_)
      obtain ⟨rfl, hF2⟩ := h2
      dsimp only [hy_st, List.cons_append, List.nil_append]
      refine hy_aload (i := 10) rfl rfl ?_
      refine hy_get (i := 11) (fk := 58) rfl rfl rfl ?_
      refine hy_ireturn (i := 12) rfl rfl ?_
      exact ⟨congrArg some (hF2 59 58 rfl), hF2⟩
    · simp only [decide_eq_false_iff_not] at zc1; omega
  · rw [if_neg hq]
    simp only [if_neg hq]
    refine hy_iload (i := 0) rfl rfl ?_
    refine hy_const (i := 1) rfl (by decide) ?_
    refine hy_const (i := 2) rfl (by decide) ?_
    refine hy_cS3e (i := 3) rfl (by decide) mj_M_in (by decide) rfl (Nat.le_of_ble_eq_true rfl) (c_M_in) ?_
    refine hy_ib_ne (i := 4) (tt := 7) rfl (fun zc1 => ?_) (fun zc1 => ?_)
    · simp only [decide_eq_true_eq] at zc1; omega
    · refine hy_const (i := 5) rfl (by decide) ?_
      refine hy_ireturn (i := 6) rfl rfl ?_
      exact ⟨rfl, hy_F.rf⟩
def md_w10 (w : Int) : Int := (Int32.ofInt (w - 10)).toInt
abbrev md_trc (t : hy_T) (n w : Int) : Prop := (1 ≤ n ∧ n ≤ 99) ∧ ((0 ≤ w ∧ w ≤ 2) ∨ mf_plain t (md_w10 w) = true)
def md_tried (u : hy_T) (w : Int) : Int := if w = 0 then u 59 58 else if w = 1 then u 59 59 else if w = 2 then u 59 60 else mf_hadN u (md_w10 w) 4
abbrev tdX : Nat → Nat → Bool := fun r j => mfaX r j || mvX r j || (r == 59 && (j == 58 || j == 59 || j == 60))
theorem mf_hadN_F {X : Nat → Nat → Bool} {t t1 : hy_T} (h : hy_F X t t1) (hX : ∀ j, X 62 j = false) (c : Int) : ∀ n, mf_hadN t1 c n = mf_hadN t c n
  | 0 => rfl
  | n + 1 => by simp only [mf_hadN, mf_hadN_F h hX c n, h 62 _ (hX _)]
theorem c_M_tried {n w : Int} (hk : ml_ok t) (ht : tr_ok t) : hy_Ct sc hm_M_tried 6 [.inr (some 59), .inl n, .inl w] t (fun r t' => r = some (if md_trc t n w then md_tried (md_days (mf_begins t) n) w else -1) ∧ hy_F tdX t t') := by
  refine hy_mk_ct ok_M_tried ck_M_tried (Nat.le_of_ble_eq_true rfl) ?_
  by_cases hq : md_trc t n w
  · rw [if_pos hq]
    obtain ⟨ha, hB⟩ := begins_as t
    have hkb := ml_ok_F hB (fun r j h => by revert h; simp [mlawX, mfaX]; omega) hk
    have htb := tr_ok_F hB (fun r j h => by revert h; simp [stX, mfaX]; omega) ht
    obtain ⟨d1, d2⟩ := md_days_s htb n
    have had : as_of t (md_days (mf_begins t) n) := as_of_F d2 (fun r j h => by revert h; simp [mfaX, dsX, enX, hvX, mftX]; omega) ha
    have fin : ∀ (v : hy_T) (x : Int), hy_F mvX (md_days (mf_begins t) n) v → x = md_tried (md_days (mf_begins t) n) w → hy_W sc hm_M_tried 6 45 [.inr (some 59), .inl n, .inl w, .inr none] [.inl x] v (fun r t' => r = some (md_tried (md_days (mf_begins t) n) w) ∧ hy_F tdX t t') := by
      intro v x hF hx
      have hav := as_of_F hF (fun r j h => by revert h; simp [mfaX, mvX]; omega) had
      refine hy_istore (i := 45) rfl ?_
      refine hy_aload (i := 46) rfl rfl ?_
      refine hy_cV0v (i := 47) rfl mj_M_again (by decide) rfl (Nat.le_of_ble_eq_true rfl) rfl rfl rfl (c_M_again) ?_
      refine hy_iload (i := 48) rfl rfl ?_
      refine hy_ireturn (i := 49) rfl rfl ?_
      refine ⟨congrArg some hx, again_back hav (fun r j hX hs => ?_)⟩
      rw [hF r j (by revert hX; simp [tdX, mvX]; omega), d2 r j (by revert hX hs; simp [tdX, dsX, enX, hvX, mftX, stX]; omega)]
      exact hB r j (by revert hX; simp [tdX, mfaX]; omega)
    have fin2 : ∀ (v : hy_T), hy_F mvX (md_days (mf_begins t) n) v → ((0 ≤ w ∧ w ≤ 2) ∨ mf_plain t (md_w10 w) = true) → hy_W sc hm_M_tried 6 23 [.inr (some 59), .inl n, .inl w, .inr none] [] v (fun r t' => r = some (md_tried (md_days (mf_begins t) n) w) ∧ hy_F tdX t t') := by
      intro v hF hw
      by_cases h2 : 0 ≤ w ∧ w ≤ 2
      · skip
        refine hy_iload (i := 23) rfl rfl ?_
        refine hy_if_ne (i := 24) (tt := 28) rfl (fun zc1 => ?_) (fun zc1 => ?_)
        · refine hy_iload (i := 28) rfl rfl ?_
          refine hy_const (i := 29) rfl (by decide) ?_
          refine hy_ic_ne (i := 30) (tt := 34) rfl (fun zc2 => ?_) (fun zc2 => ?_)
          · refine hy_iload (i := 34) rfl rfl ?_
            refine hy_const (i := 35) rfl (by decide) ?_
            refine hy_ic_ne (i := 36) (tt := 40) rfl (fun zc3 => ?_) (fun zc3 => ?_)
            · omega
            · refine hy_aload (i := 37) rfl rfl ?_
              refine hy_get (i := 38) (fk := 60) rfl rfl rfl ?_
              refine hy_goto (i := 39) (tt := 45) rfl ?_
              refine fin _ _ hF ?_
              unfold md_tried
              first | (rw [if_pos (by assumption)]; exact hF 59 _ rfl) | (rw [if_neg (by assumption), if_pos (by assumption)]; exact hF 59 _ rfl) | (rw [if_neg (by assumption), if_neg (by assumption), if_pos (by assumption)]; exact hF 59 _ rfl)
          · refine hy_aload (i := 31) rfl rfl ?_
            refine hy_get (i := 32) (fk := 59) rfl rfl rfl ?_
            refine hy_goto (i := 33) (tt := 45) rfl ?_
            refine fin _ _ hF ?_
            unfold md_tried
            first | (rw [if_pos (by assumption)]; exact hF 59 _ rfl) | (rw [if_neg (by assumption), if_pos (by assumption)]; exact hF 59 _ rfl) | (rw [if_neg (by assumption), if_neg (by assumption), if_pos (by assumption)]; exact hF 59 _ rfl)
        · refine hy_aload (i := 25) rfl rfl ?_
          refine hy_get (i := 26) (fk := 58) rfl rfl rfl ?_
          refine hy_goto (i := 27) (tt := 45) rfl ?_
          refine fin _ _ hF ?_
          unfold md_tried
          first | (rw [if_pos (by assumption)]; exact hF 59 _ rfl) | (rw [if_neg (by assumption), if_pos (by assumption)]; exact hF 59 _ rfl) | (rw [if_neg (by assumption), if_neg (by assumption), if_pos (by assumption)]; exact hF 59 _ rfl)
      · have hp : mf_plain t (md_w10 w) = true := by rcases hw with h | h; exact absurd h h2; exact h
        have hp2 := hp
        simp only [mf_plain, Bool.and_eq_true] at hp2
        have hc := sp_told_in hp2.1
        refine hy_iload (i := 23) rfl rfl ?_
        refine hy_if_ne (i := 24) (tt := 28) rfl (fun zc1 => ?_) (fun zc1 => ?_)
        · refine hy_iload (i := 28) rfl rfl ?_
          refine hy_const (i := 29) rfl (by decide) ?_
          refine hy_ic_ne (i := 30) (tt := 34) rfl (fun zc2 => ?_) (fun zc2 => ?_)
          · refine hy_iload (i := 34) rfl rfl ?_
            refine hy_const (i := 35) rfl (by decide) ?_
            refine hy_ic_ne (i := 36) (tt := 40) rfl (fun zc3 => ?_) (fun zc3 => ?_)
            · refine hy_aload (i := 40) rfl rfl ?_
              refine hy_iload (i := 41) rfl rfl ?_
              refine hy_const (i := 42) rfl (by decide) ?_
              refine hy_isubw (i := 43) rfl ?_
              refine hy_cV1e (i := 44) rfl mj_M_hadAll (by decide) rfl (Nat.le_of_ble_eq_true rfl) rfl rfl rfl (c_M_hadAll (c := md_w10 w) (by omega)) ?_
              refine fin _ _ hF ?_
              unfold md_tried
              rw [if_neg (by assumption), if_neg (by assumption), if_neg (by assumption)]
              exact mf_hadN_F hF (fun _ => rfl) _ 4
            · omega
          · omega
        · omega
    refine hy_iload (i := 0) rfl rfl ?_
    refine hy_const (i := 1) rfl (by decide) ?_
    refine hy_const (i := 2) rfl (by decide) ?_
    refine hy_cS3e (i := 3) rfl (by decide) mj_M_in (by decide) rfl (Nat.le_of_ble_eq_true rfl) (c_M_in) ?_
    refine hy_ib_eq (i := 4) (tt := 16) rfl (fun zc1 => ?_) (fun zc1 => ?_)
    · simp only [decide_eq_false_iff_not] at zc1; omega
    · refine hy_iload (i := 5) rfl rfl ?_
      refine hy_const (i := 6) rfl (by decide) ?_
      refine hy_const (i := 7) rfl (by decide) ?_
      refine hy_cS3e (i := 8) rfl (by decide) mj_M_in (by decide) rfl (Nat.le_of_ble_eq_true rfl) (c_M_in) ?_
      refine hy_ib_ne (i := 9) (tt := 18) rfl (fun zc2 => ?_) (fun zc2 => ?_)
      · refine hy_aload (i := 18) rfl rfl ?_
        refine hy_cV0v (i := 19) rfl mj_M_begins (by decide) rfl (Nat.le_of_ble_eq_true rfl) rfl rfl rfl (c_M_begins) ?_
        refine hy_aload (i := 20) rfl rfl ?_
        refine hy_iload (i := 21) rfl rfl ?_
        refine hy_cV1 (i := 22) rfl mj_M_daysGo (by decide) rfl (Nat.le_of_ble_eq_true rfl) rfl rfl rfl (c_M_daysGo hkb htb (by omega)) (fun r4_ t4_ h4 => ?_)
        obtain ⟨rfl, hF4⟩ := h4
        dsimp only [hy_st, List.cons_append, List.nil_append]
        exact fin2 _ (by assumption) hq.2
      · refine hy_aload (i := 10) rfl rfl ?_
        refine hy_iload (i := 11) rfl rfl ?_
        refine hy_const (i := 12) rfl (by decide) ?_
        refine hy_isubw (i := 13) rfl ?_
        refine hy_cV1e (i := 14) rfl mj_M_isPlain (by decide) rfl (Nat.le_of_ble_eq_true rfl) rfl rfl rfl (c_M_isPlain) ?_
        refine hy_ib_ne (i := 15) (tt := 18) rfl (fun zc3 => ?_) (fun zc3 => ?_)
        · refine hy_aload (i := 18) rfl rfl ?_
          refine hy_cV0v (i := 19) rfl mj_M_begins (by decide) rfl (Nat.le_of_ble_eq_true rfl) rfl rfl rfl (c_M_begins) ?_
          refine hy_aload (i := 20) rfl rfl ?_
          refine hy_iload (i := 21) rfl rfl ?_
          refine hy_cV1 (i := 22) rfl mj_M_daysGo (by decide) rfl (Nat.le_of_ble_eq_true rfl) rfl rfl rfl (c_M_daysGo hkb htb (by omega)) (fun r5_ t5_ h5 => ?_)
          obtain ⟨rfl, hF5⟩ := h5
          dsimp only [hy_st, List.cons_append, List.nil_append]
          exact fin2 _ (by assumption) hq.2
        · exfalso; rcases hq.2 with h | h; simp only [decide_eq_false_iff_not] at zc2; omega; exact bb_abs h (by assumption)
  · rw [if_neg hq]
    refine hy_iload (i := 0) rfl rfl ?_
    refine hy_const (i := 1) rfl (by decide) ?_
    refine hy_const (i := 2) rfl (by decide) ?_
    refine hy_cS3e (i := 3) rfl (by decide) mj_M_in (by decide) rfl (Nat.le_of_ble_eq_true rfl) (c_M_in) ?_
    refine hy_ib_eq (i := 4) (tt := 16) rfl (fun zc1 => ?_) (fun zc1 => ?_)
    · refine hy_const (i := 16) rfl (by decide) ?_
      refine hy_ireturn (i := 17) rfl rfl ?_
      exact ⟨rfl, hy_F.rf⟩
    · refine hy_iload (i := 5) rfl rfl ?_
      refine hy_const (i := 6) rfl (by decide) ?_
      refine hy_const (i := 7) rfl (by decide) ?_
      refine hy_cS3e (i := 8) rfl (by decide) mj_M_in (by decide) rfl (Nat.le_of_ble_eq_true rfl) (c_M_in) ?_
      refine hy_ib_ne (i := 9) (tt := 18) rfl (fun zc2 => ?_) (fun zc2 => ?_)
      · exfalso; simp only [decide_eq_true_eq] at *; exact hq ⟨by assumption, .inl (by assumption)⟩
      · refine hy_aload (i := 10) rfl rfl ?_
        refine hy_iload (i := 11) rfl rfl ?_
        refine hy_const (i := 12) rfl (by decide) ?_
        refine hy_isubw (i := 13) rfl ?_
        refine hy_cV1e (i := 14) rfl mj_M_isPlain (by decide) rfl (Nat.le_of_ble_eq_true rfl) rfl rfl rfl (c_M_isPlain) ?_
        refine hy_ib_ne (i := 15) (tt := 18) rfl (fun zc3 => ?_) (fun zc3 => ?_)
        · exfalso; simp only [decide_eq_true_eq] at zc1; exact hq ⟨by assumption, .inr (by assumption)⟩
        · refine hy_const (i := 16) rfl (by decide) ?_
          refine hy_ireturn (i := 17) rfl rfl ?_
          exact ⟨rfl, hy_F.rf⟩
end ND
