/-! the model's law as it is read: sums, comparisons, conditions -/
section MTT
variable {sc : List Int32} {t : hy_T} {B : Int → Int}
theorem c_M_readsSum {s : Zs} {a a0 : Nat} {d0 : Int} {f0 : Nat → Int} {sl : Nat} (hC : az_C t B) (hR : az_R t s) (hd : 0 ≤ d0) (hh : az_hd s.2.2.2.1) (hdep : az_dep s.2.2.1 a s.2.1 = d0) (hl : az_lc s.2.2.1 a s.2.1 s.2.2.2.1) (ha : a ≤ s.2.1) (hok : az_ok sl s) (h8 : a0 ≤ s.2.1) (h0 : ∀ j, j < a0 → s.2.2.1 j = f0 j) : hy_Ct sc hm_M_readsSum 4 [.inr (some 59)] t (az_P t (az_rs B s)) := by
  refine hy_mk_ct ok_M_readsSum ck_M_readsSum (Nat.le_of_ble_eq_true rfl) ?_
  have hB := az_C_by hC
  have hI : az_sI 0 a a0 d0 s.2.2.2.1 f0 sl s := ⟨[], rfl, (fun x hx => by cases hx), by rw [hdep]; simp [az_bin], hl, ha, hok, h8, h0⟩
  have h16 : t 59 16 = (s.2.2.2.1.length : Int) := hR.2.2.2.1
  generalize hG : az_rs B s = G
  unfold az_rs at hG
  have hfa := c_M_readsFactor (sc := sc) hC hR hI
  have loop : ∀ (n : Nat), ∀ (s1 : Zs) (t1 : hy_T) (v2 : hy_V), hy_F mrX t t1 → az_R t1 s1 → az_sI 1 a a0 d0 s.2.2.2.1 f0 sl s1 → 250 ≤ n + s1.1 → az_sum B s.2.2.2.1.length n s1 = G → hy_W sc hm_M_readsSum 4 8 [.inr (some 59), .inl (s.2.2.2.1.length : Int), v2] [] t1 (az_P t G) := by
    intro n
    induction n with
    | zero =>
      intro s1 t1 v2 hF hR1 hI1 hn hv
      obtain ⟨i1, i2, i3, i4⟩ := az_sI_cl hd hh hI1
      omega
    | succ n ih =>
      intro s1 t1 v2 hF hR1 hI1 hn hv
      obtain ⟨i1, i2, i3, i4⟩ := az_sI_cl hd hh hI1
      obtain ⟨q1, q2, q3, q4, q5, q6⟩ := id hR1
      have hlen : s.2.2.2.1.length ≤ s1.2.2.2.1.length := by
        obtain ⟨ops, j1, -⟩ := hI1
        rw [j1, List.length_append]; omega
      have hC1 := az_C_F hF rfl (fun _ => rfl) hC
      have hmp := az_mpok hC1 (by omega)
      have hhe := az_here hC1
      rw [q1] at hhe
      have hb := hB s1.1
      have hcl := fun all => c_M_closesSums (sc := sc) (all := all) hR1 i1 i2 i4
      have hho := c_M_hasOpenSum (sc := sc) (b := s.2.2.2.1.length) hR1 hlen i2 i4
      simp only [az_sum] at hv
      by_cases hs : az_sgn (B s1.1) ≠ -1
      · rw [if_pos hs] at hv
        have hsg := az_sgn_in hs
        have hlt : s1.1 < 240 := by
          refine Decidable.byContradiction (fun q => ?_)
          have := hb.2.2 (by omega); omega
        have hstep := az_sg_s hB hd hh hI1 hs
        obtain ⟨ops3, j1, j2, j3, j4, j5, j6, j7⟩ := id hstep
        obtain ⟨k1, k2, k3, k4, k5, k6⟩ := id j6
        unfold az_sg at hstep k1 k2 k3
        dsimp only at k1 k2 k3
        simp only [List.length_cons] at k3
        have fac : ∀ t3, hy_F mrX t t3 → az_R t3 (s1.1 + 1, (az_close (decide (az_sgn (B s1.1) < 4)) s1.2.2.2.1 s1.2.1 s1.2.2.1).2.1, (az_close (decide (az_sgn (B s1.1) < 4)) s1.2.2.2.1 s1.2.1 s1.2.2.1).2.2, (1048576 * az_sgn (B s1.1)) :: (az_close (decide (az_sgn (B s1.1) < 4)) s1.2.2.2.1 s1.2.1 s1.2.2.1).1, s1.2.2.2.2) → hy_W sc hm_M_readsSum 4 43 [.inr (some 59), .inl (s.2.2.2.1.length : Int), .inl (az_sgn (B s1.1))] [] t3 (az_P t G) := by
          intro t3 hF3 hR3
          have hC3 := az_C_F hF3 rfl (fun _ => rfl) hC
          have hf3 := c_M_readsFactor (sc := sc) hC3 hR3 hstep
          cases hf : az_fac B 8 (s1.1 + 1, (az_close (decide (az_sgn (B s1.1) < 4)) s1.2.2.2.1 s1.2.1 s1.2.2.1).2.1, (az_close (decide (az_sgn (B s1.1) < 4)) s1.2.2.2.1 s1.2.1 s1.2.2.1).2.2, (1048576 * az_sgn (B s1.1)) :: (az_close (decide (az_sgn (B s1.1) < 4)) s1.2.2.2.1 s1.2.1 s1.2.2.1).1, s1.2.2.2.2) with
          | inl e =>
            rw [hf] at hv hf3
            refine hy_aload (i := 43) rfl rfl ?_
            refine hy_cV0 (i := 44) rfl mj_M_readsFactor (by decide) rfl (Nat.le_of_ble_eq_true rfl) rfl rfl rfl (hf3) (fun r1_ t1_ h1 => ?_)
            obtain ⟨hF1, rfl, he1⟩ := h1
            dsimp only [hy_st, List.cons_append, List.nil_append]
            refine hy_ib_ne (i := 45) (tt := 93) rfl (fun zc1 => ?_) (fun zc1 => ?_)
            · cases (show false = true by assumption)
            · refine hy_const (i := 46) rfl (by decide) ?_
              refine hy_zreturn (i := 47) rfl rfl (by first | decide | exact hy_b01 _) ?_
              rw [← hv]; exact ⟨hF3.tr' (by assumption), rfl, by assumption⟩
          | inr s4 =>
            rw [hf] at hv hf3
            obtain ⟨f1, f2⟩ := az_fac_s hB hd 8 _ _ hstep hf
            dsimp only at f2
            refine hy_aload (i := 43) rfl rfl ?_
            refine hy_cV0 (i := 44) rfl mj_M_readsFactor (by decide) rfl (Nat.le_of_ble_eq_true rfl) rfl rfl rfl (hf3) (fun r1_ t1_ h1 => ?_)
            obtain ⟨hF1, rfl, hR1⟩ := h1
            dsimp only [hy_st, List.cons_append, List.nil_append]
            refine hy_ib_ne (i := 45) (tt := 93) rfl (fun zc1 => ?_) (fun zc1 => ?_)
            · refine hy_goto (i := 93) (tt := 8) rfl ?_
              exact ih s4 _ _ (hF3.tr' (by assumption)) (by assumption) f1 (by omega) hv
            · cases (show true = false by assumption)
        have push : ∀ t2, hy_F mrX t1 t2 → az_R t2 (s1.1, (az_close (decide (az_sgn (B s1.1) < 4)) s1.2.2.2.1 s1.2.1 s1.2.2.1).2.1, (az_close (decide (az_sgn (B s1.1) < 4)) s1.2.2.2.1 s1.2.1 s1.2.2.1).2.2, (az_close (decide (az_sgn (B s1.1) < 4)) s1.2.2.2.1 s1.2.1 s1.2.2.1).1, s1.2.2.2.2) → hy_W sc hm_M_readsSum 4 23 [.inr (some 59), .inl (s.2.2.2.1.length : Int), .inl (az_sgn (B s1.1))] [] t2 (az_P t G) := by
          intro t2 hF2 hR2
          have e10 : t2 59 10 = s1.1 := hR2.1
          have e16 := hR2.2.2.2.1
          dsimp only at e16
          have hR3 := az_R_step (az_R_push hR2 (1048576 * az_sgn (B s1.1)))
          refine hy_aload (i := 23) rfl rfl ?_
          refine hy_getr (i := 24) rfl rfl ?_
          refine hy_aload (i := 25) rfl rfl ?_
          refine hy_get (i := 26) (fk := 16) rfl rfl rfl ?_
          refine hy_const (i := 27) rfl (by decide) ?_
          refine hy_iload (i := 28) rfl rfl ?_
          refine hy_imul (i := 29) rfl (by omega) ?_
          refine hy_iast (i := 30) rfl rfl (by omega) rfl ?_
          refine hy_aload (i := 31) rfl rfl ?_
          refine hy_aload (i := 32) rfl rfl ?_
          refine hy_get (i := 33) (fk := 16) rfl rfl rfl ?_
          refine hy_const (i := 34) rfl (by decide) ?_
          refine hy_iadd (i := 35) rfl (by show -2147483648 ≤ t2 59 16 + 1 ∧ t2 59 16 + 1 ≤ 2147483647; omega) ?_
          refine hy_put (i := 36) (fk := 16) rfl rfl rfl rfl ?_
          refine hy_aload (i := 37) rfl rfl ?_
          refine hy_aload (i := 38) rfl rfl ?_
          refine hy_get (i := 39) (fk := 10) rfl rfl rfl ?_
          refine hy_const (i := 40) rfl (by decide) ?_
          refine hy_iadd (i := 41) rfl (by show -2147483648 ≤ t2 59 10 + 1 ∧ t2 59 10 + 1 ≤ 2147483647; omega) ?_
          refine hy_put (i := 42) (fk := 10) rfl rfl rfl rfl ?_
          exact fac _ ((((hF.tr' hF2).up (r := 67) rfl).up (r := 59) (j := 16) rfl).up (r := 59) (j := 10) rfl) hR3
        refine hy_aload (i := 8) rfl rfl ?_
        refine hy_cV0e (i := 9) rfl mj_M_here (by decide) rfl (Nat.le_of_ble_eq_true rfl) rfl rfl rfl (c_M_here (by assumption)) ?_
        rw [hhe]
        refine hy_cS1e (i := 10) rfl (by decide) mj_M_sumSign (by decide) rfl (Nat.le_of_ble_eq_true rfl) (c_M_sumSign) ?_
        refine hy_istore (i := 11) rfl ?_
        refine hy_iload (i := 12) rfl rfl ?_
        refine hy_const (i := 13) rfl (by decide) ?_
        refine hy_ic_eq (i := 14) (tt := 48) rfl (fun zc1 => ?_) (fun zc1 => ?_)
        · exact absurd (by assumption) hs
        · refine hy_aload (i := 15) rfl rfl ?_
          refine hy_iload (i := 16) rfl rfl ?_
          refine hy_const (i := 17) rfl (by decide) ?_
          refine hy_ic_ge (i := 18) (tt := 21) rfl (fun zc2 => ?_) (fun zc2 => ?_)
          · refine hy_const (i := 21) rfl (by decide) ?_
            first | rw [show (1 : Int) = hy_b (decide (az_sgn (B s1.1) < 4)) by rw [decide_eq_true (by omega)]; rfl] | rw [show (0 : Int) = hy_b (decide (az_sgn (B s1.1) < 4)) by rw [decide_eq_false (by omega)]; rfl]
            refine hy_cV1 (i := 22) rfl mj_M_closesSums (by decide) rfl (Nat.le_of_ble_eq_true rfl) rfl rfl rfl ((hcl (decide (az_sgn (B s1.1) < 4)))) (fun r3_ t3_ h3 => ?_)
            obtain ⟨rfl, hF3, hR3⟩ := h3
            dsimp only [hy_st, List.nil_append]
            exact push _ (by assumption) (by assumption)
          · refine hy_const (i := 19) rfl (by decide) ?_
            refine hy_goto (i := 20) (tt := 22) rfl ?_
            first | rw [show (1 : Int) = hy_b (decide (az_sgn (B s1.1) < 4)) by rw [decide_eq_true (by omega)]; rfl] | rw [show (0 : Int) = hy_b (decide (az_sgn (B s1.1) < 4)) by rw [decide_eq_false (by omega)]; rfl]
            refine hy_cV1 (i := 22) rfl mj_M_closesSums (by decide) rfl (Nat.le_of_ble_eq_true rfl) rfl rfl rfl ((hcl (decide (az_sgn (B s1.1) < 4)))) (fun r3_ t3_ h3 => ?_)
            obtain ⟨rfl, hF3, hR3⟩ := h3
            dsimp only [hy_st, List.nil_append]
            exact push _ (by assumption) (by assumption)
      · rw [if_neg hs] at hv
        by_cases hc : B s1.1 = 93 ∧ az_has (s1.2.2.2.1.length - s.2.2.2.1.length) s1.2.2.2.1 = true
        · rw [if_pos hc] at hv
          have hlt : s1.1 < 240 := by
            refine Decidable.byContradiction (fun q => ?_)
            have := hb.2.2 (by omega); omega
          obtain ⟨hstep, hne⟩ := az_bk_s hB hd hh hI1 hc
          unfold az_bk at hstep
          have back : ∀ t2, hy_F mrX t1 t2 → az_R t2 (s1.1, (az_close true s1.2.2.2.1 s1.2.1 s1.2.2.1).2.1, (az_close true s1.2.2.2.1 s1.2.1 s1.2.2.1).2.2, (az_close true s1.2.2.2.1 s1.2.1 s1.2.2.1).1, s1.2.2.2.2) → hy_W sc hm_M_readsSum 4 59 [.inr (some 59), .inl (s.2.2.2.1.length : Int), .inl (az_sgn (B s1.1))] [] t2 (az_P t G) := by
            intro t2 hF2 hR2
            have e10 : t2 59 10 = s1.1 := hR2.1
            have e14 : t2 59 14 = s1.2.2.2.2 := hR2.2.2.2.2.2
            have e16 := hR2.2.2.2.1
            dsimp only at e16
            obtain ⟨-, -, -, -, -, -, ⟨-, -, k3, k4, -, -⟩, -⟩ := id hstep
            dsimp only at k3 k4
            generalize az_close true s1.2.2.2.1 s1.2.1 s1.2.2.1 = c at hR2 hne hstep hv e16 k3 k4
            cases hcc : c.1 with
            | nil => exact absurd hcc hne
            | cons x r =>
              rw [hcc] at hR2 e16 hv hstep k3 k4
              simp only [List.tail_cons] at hv hstep k3 k4
              simp only [List.length_cons] at e16
              have hR3 := az_R_step (az_R_o (az_R_pop hR2) (s1.2.2.2.2 - 1))
              refine hy_aload (i := 59) rfl rfl ?_
              refine hy_aload (i := 60) rfl rfl ?_
              refine hy_get (i := 61) (fk := 16) rfl rfl rfl ?_
              refine hy_const (i := 62) rfl (by decide) ?_
              refine hy_isub (i := 63) rfl (by show -2147483648 ≤ t2 59 16 - 1 ∧ t2 59 16 - 1 ≤ 2147483647; omega) ?_
              refine hy_put (i := 64) (fk := 16) rfl rfl rfl rfl ?_
              refine hy_aload (i := 65) rfl rfl ?_
              refine hy_aload (i := 66) rfl rfl ?_
              refine hy_get (i := 67) (fk := 14) rfl rfl rfl ?_
              rw [show hy_up t2 59 16 (t2 59 16 - 1) 59 14 = s1.2.2.2.2 from e14]
              refine hy_const (i := 68) rfl (by decide) ?_
              refine hy_isub (i := 69) rfl (by omega) ?_
              refine hy_put (i := 70) (fk := 14) rfl rfl rfl rfl ?_
              refine hy_aload (i := 71) rfl rfl ?_
              refine hy_aload (i := 72) rfl rfl ?_
              refine hy_get (i := 73) (fk := 10) rfl rfl rfl ?_
              refine hy_const (i := 74) rfl (by decide) ?_
              refine hy_iadd (i := 75) rfl (by show -2147483648 ≤ t2 59 10 + 1 ∧ t2 59 10 + 1 ≤ 2147483647; omega) ?_
              refine hy_put (i := 76) (fk := 10) rfl rfl rfl rfl ?_
              refine hy_goto (i := 77) (tt := 93) rfl ?_
              refine hy_goto (i := 93) (tt := 8) rfl ?_
              exact ih _ _ _ ((((hF.tr' hF2).up (r := 59) (j := 16) rfl).up (r := 59) (j := 14) rfl).up (r := 59) (j := 10) rfl) hR3 hstep (by dsimp only; omega) hv
          refine hy_aload (i := 8) rfl rfl ?_
          refine hy_cV0e (i := 9) rfl mj_M_here (by decide) rfl (Nat.le_of_ble_eq_true rfl) rfl rfl rfl (c_M_here (by assumption)) ?_
          rw [hhe]
          refine hy_cS1e (i := 10) rfl (by decide) mj_M_sumSign (by decide) rfl (Nat.le_of_ble_eq_true rfl) (c_M_sumSign) ?_
          refine hy_istore (i := 11) rfl ?_
          refine hy_iload (i := 12) rfl rfl ?_
          refine hy_const (i := 13) rfl (by decide) ?_
          refine hy_ic_eq (i := 14) (tt := 48) rfl (fun zc1 => ?_) (fun zc1 => ?_)
          · refine hy_aload (i := 48) rfl rfl ?_
            refine hy_cV0e (i := 49) rfl mj_M_here (by decide) rfl (Nat.le_of_ble_eq_true rfl) rfl rfl rfl (c_M_here (by assumption)) ?_
            rw [hhe]
            refine hy_const (i := 50) rfl (by decide) ?_
            refine hy_ic_ne (i := 51) (tt := 78) rfl (fun zc2 => ?_) (fun zc2 => ?_)
            · exact absurd hc.1 (by assumption)
            · refine hy_aload (i := 52) rfl rfl ?_
              refine hy_iload (i := 53) rfl rfl ?_
              refine hy_cV1e (i := 54) rfl mj_M_hasOpenSum (by decide) rfl (Nat.le_of_ble_eq_true rfl) rfl rfl rfl (hho) ?_
              refine hy_ib_eq (i := 55) (tt := 78) rfl (fun zc3 => ?_) (fun zc3 => ?_)
              · exact bb_abs hc.2 (by assumption)
              · refine hy_aload (i := 56) rfl rfl ?_
                refine hy_const (i := 57) rfl (by decide) ?_
                refine hy_cV1 (i := 58) rfl mj_M_closesSums (by decide) rfl (Nat.le_of_ble_eq_true rfl) rfl rfl rfl ((hcl true)) (fun r5_ t5_ h5 => ?_)
                obtain ⟨rfl, hF5, hR5⟩ := h5
                dsimp only [hy_st, List.nil_append]
                exact back _ (by assumption) (by assumption)
          · exact absurd (by assumption) hs
        · rw [if_neg hc] at hv
          by_cases hn2 : az_has (s1.2.2.2.1.length - s.2.2.2.1.length) s1.2.2.2.1 = true
          · rw [if_pos hn2] at hv
            refine hy_aload (i := 8) rfl rfl ?_
            refine hy_cV0e (i := 9) rfl mj_M_here (by decide) rfl (Nat.le_of_ble_eq_true rfl) rfl rfl rfl (c_M_here (by assumption)) ?_
            rw [hhe]
            refine hy_cS1e (i := 10) rfl (by decide) mj_M_sumSign (by decide) rfl (Nat.le_of_ble_eq_true rfl) (c_M_sumSign) ?_
            refine hy_istore (i := 11) rfl ?_
            refine hy_iload (i := 12) rfl rfl ?_
            refine hy_const (i := 13) rfl (by decide) ?_
            refine hy_ic_eq (i := 14) (tt := 48) rfl (fun zc1 => ?_) (fun zc1 => ?_)
            · refine hy_aload (i := 48) rfl rfl ?_
              refine hy_cV0e (i := 49) rfl mj_M_here (by decide) rfl (Nat.le_of_ble_eq_true rfl) rfl rfl rfl (c_M_here (by assumption)) ?_
              rw [hhe]
              refine hy_const (i := 50) rfl (by decide) ?_
              refine hy_ic_ne (i := 51) (tt := 78) rfl (fun zc2 => ?_) (fun zc2 => ?_)
              · refine hy_aload (i := 78) rfl rfl ?_
                refine hy_iload (i := 79) rfl rfl ?_
                refine hy_cV1e (i := 80) rfl mj_M_hasOpenSum (by decide) rfl (Nat.le_of_ble_eq_true rfl) rfl rfl rfl (hho) ?_
                refine hy_ib_eq (i := 81) (tt := 88) rfl (fun zc3 => ?_) (fun zc3 => ?_)
                · exact bb_abs hn2 (by assumption)
                · refine hy_aload (i := 82) rfl rfl ?_
                  refine hy_const (i := 83) rfl (by decide) ?_
                  refine hy_aload (i := 84) rfl rfl ?_
                  refine hy_get (i := 85) (fk := 10) rfl rfl rfl ?_
                  refine hy_cV2e (i := 86) rfl mj_M_wrongAt (by decide) rfl (Nat.le_of_ble_eq_true rfl) rfl rfl rfl (c_M_wrongAt (by decide) (by omega)) ?_
                  refine hy_zreturn (i := 87) rfl rfl (by first | decide | exact hy_b01 _) ?_
                  rw [← hv]; exact ⟨hF.up rfl, rfl, by show -1000 * 1 - t1 59 10 = _; omega⟩
              · refine hy_aload (i := 52) rfl rfl ?_
                refine hy_iload (i := 53) rfl rfl ?_
                refine hy_cV1e (i := 54) rfl mj_M_hasOpenSum (by decide) rfl (Nat.le_of_ble_eq_true rfl) rfl rfl rfl (hho) ?_
                refine hy_ib_eq (i := 55) (tt := 78) rfl (fun zc3 => ?_) (fun zc3 => ?_)
                · refine hy_aload (i := 78) rfl rfl ?_
                  refine hy_iload (i := 79) rfl rfl ?_
                  refine hy_cV1e (i := 80) rfl mj_M_hasOpenSum (by decide) rfl (Nat.le_of_ble_eq_true rfl) rfl rfl rfl (hho) ?_
                  refine hy_ib_eq (i := 81) (tt := 88) rfl (fun zc4 => ?_) (fun zc4 => ?_)
                  · exact bb_abs hn2 (by assumption)
                  · refine hy_aload (i := 82) rfl rfl ?_
                    refine hy_const (i := 83) rfl (by decide) ?_
                    refine hy_aload (i := 84) rfl rfl ?_
                    refine hy_get (i := 85) (fk := 10) rfl rfl rfl ?_
                    refine hy_cV2e (i := 86) rfl mj_M_wrongAt (by decide) rfl (Nat.le_of_ble_eq_true rfl) rfl rfl rfl (c_M_wrongAt (by decide) (by omega)) ?_
                    refine hy_zreturn (i := 87) rfl rfl (by first | decide | exact hy_b01 _) ?_
                    rw [← hv]; exact ⟨hF.up rfl, rfl, by show -1000 * 1 - t1 59 10 = _; omega⟩
                · exact absurd ⟨by assumption, by assumption⟩ hc
            · exact absurd (by assumption) hs
          · rw [if_neg hn2] at hv
            refine hy_aload (i := 8) rfl rfl ?_
            refine hy_cV0e (i := 9) rfl mj_M_here (by decide) rfl (Nat.le_of_ble_eq_true rfl) rfl rfl rfl (c_M_here (by assumption)) ?_
            rw [hhe]
            refine hy_cS1e (i := 10) rfl (by decide) mj_M_sumSign (by decide) rfl (Nat.le_of_ble_eq_true rfl) (c_M_sumSign) ?_
            refine hy_istore (i := 11) rfl ?_
            refine hy_iload (i := 12) rfl rfl ?_
            refine hy_const (i := 13) rfl (by decide) ?_
            refine hy_ic_eq (i := 14) (tt := 48) rfl (fun zc1 => ?_) (fun zc1 => ?_)
            · refine hy_aload (i := 48) rfl rfl ?_
              refine hy_cV0e (i := 49) rfl mj_M_here (by decide) rfl (Nat.le_of_ble_eq_true rfl) rfl rfl rfl (c_M_here (by assumption)) ?_
              rw [hhe]
              refine hy_const (i := 50) rfl (by decide) ?_
              refine hy_ic_ne (i := 51) (tt := 78) rfl (fun zc2 => ?_) (fun zc2 => ?_)
              · refine hy_aload (i := 78) rfl rfl ?_
                refine hy_iload (i := 79) rfl rfl ?_
                refine hy_cV1e (i := 80) rfl mj_M_hasOpenSum (by decide) rfl (Nat.le_of_ble_eq_true rfl) rfl rfl rfl (hho) ?_
                refine hy_ib_eq (i := 81) (tt := 88) rfl (fun zc3 => ?_) (fun zc3 => ?_)
                · refine hy_aload (i := 88) rfl rfl ?_
                  refine hy_const (i := 89) rfl (by decide) ?_
                  refine hy_cV1 (i := 90) rfl mj_M_closesSums (by decide) rfl (Nat.le_of_ble_eq_true rfl) rfl rfl rfl ((hcl true)) (fun r5_ t5_ h5 => ?_)
                  obtain ⟨rfl, hF5, hR5⟩ := h5
                  dsimp only [hy_st, List.nil_append]
                  refine hy_const (i := 91) rfl (by decide) ?_
                  refine hy_zreturn (i := 92) rfl rfl (by first | decide | exact hy_b01 _) ?_
                  rw [← hv]; exact ⟨hF.tr' (by assumption), rfl, by assumption⟩
                · exact absurd (by assumption) hn2
              · refine hy_aload (i := 52) rfl rfl ?_
                refine hy_iload (i := 53) rfl rfl ?_
                refine hy_cV1e (i := 54) rfl mj_M_hasOpenSum (by decide) rfl (Nat.le_of_ble_eq_true rfl) rfl rfl rfl (hho) ?_
                refine hy_ib_eq (i := 55) (tt := 78) rfl (fun zc3 => ?_) (fun zc3 => ?_)
                · refine hy_aload (i := 78) rfl rfl ?_
                  refine hy_iload (i := 79) rfl rfl ?_
                  refine hy_cV1e (i := 80) rfl mj_M_hasOpenSum (by decide) rfl (Nat.le_of_ble_eq_true rfl) rfl rfl rfl (hho) ?_
                  refine hy_ib_eq (i := 81) (tt := 88) rfl (fun zc4 => ?_) (fun zc4 => ?_)
                  · refine hy_aload (i := 88) rfl rfl ?_
                    refine hy_const (i := 89) rfl (by decide) ?_
                    refine hy_cV1 (i := 90) rfl mj_M_closesSums (by decide) rfl (Nat.le_of_ble_eq_true rfl) rfl rfl rfl ((hcl true)) (fun r6_ t6_ h6 => ?_)
                    obtain ⟨rfl, hF6, hR6⟩ := h6
                    dsimp only [hy_st, List.nil_append]
                    refine hy_const (i := 91) rfl (by decide) ?_
                    refine hy_zreturn (i := 92) rfl rfl (by first | decide | exact hy_b01 _) ?_
                    rw [← hv]; exact ⟨hF.tr' (by assumption), rfl, by assumption⟩
                  · exact absurd (by assumption) hn2
                · exact absurd (by assumption) hn2
            · exact absurd (by assumption) hs
  have hk1 := hok.1
  cases hf : az_fac B 8 s with
  | inl e =>
    rw [hf] at hG hfa
    refine hy_aload (i := 0) rfl rfl ?_
    refine hy_get (i := 1) (fk := 16) rfl rfl rfl ?_
    rw [h16]
    refine hy_istore (i := 2) rfl ?_
    refine hy_aload (i := 3) rfl rfl ?_
    refine hy_cV0 (i := 4) rfl mj_M_readsFactor (by decide) rfl (Nat.le_of_ble_eq_true rfl) rfl rfl rfl (hfa) (fun r1_ t1_ h1 => ?_)
    obtain ⟨hF1, rfl, he1⟩ := h1
    dsimp only [hy_st, List.cons_append, List.nil_append]
    refine hy_ib_ne (i := 5) (tt := 8) rfl (fun zc1 => ?_) (fun zc1 => ?_)
    · cases (show false = true by assumption)
    · refine hy_const (i := 6) rfl (by decide) ?_
      refine hy_zreturn (i := 7) rfl rfl (by first | decide | exact hy_b01 _) ?_
      rw [← hG]; exact ⟨by assumption, rfl, by assumption⟩
  | inr s4 =>
    rw [hf] at hG hfa
    obtain ⟨f1, f2⟩ := az_fac_s hB hd 8 _ _ hI hf
    refine hy_aload (i := 0) rfl rfl ?_
    refine hy_get (i := 1) (fk := 16) rfl rfl rfl ?_
    rw [h16]
    refine hy_istore (i := 2) rfl ?_
    refine hy_aload (i := 3) rfl rfl ?_
    refine hy_cV0 (i := 4) rfl mj_M_readsFactor (by decide) rfl (Nat.le_of_ble_eq_true rfl) rfl rfl rfl (hfa) (fun r1_ t1_ h1 => ?_)
    obtain ⟨hF1, rfl, hR1⟩ := h1
    dsimp only [hy_st, List.cons_append, List.nil_append]
    refine hy_ib_ne (i := 5) (tt := 8) rfl (fun zc1 => ?_) (fun zc1 => ?_)
    · exact loop 250 s4 _ _ (by assumption) (by assumption) f1 (by omega) hG
    · cases (show true = false by assumption)
theorem c_M_readsCompared {s : Zs} {a : Nat} {f0 : Nat → Int} (hC : az_C t B) (hR : az_R t s) (hI : az_cI 0 a f0 s) : hy_Ct sc hm_M_readsCompared 5 [.inr (some 59)] t (az_P t (az_cmp B s)) := by
  refine hy_mk_ct ok_M_readsCompared ck_M_readsCompared (Nat.le_of_ble_eq_true rfl) ?_
  have hB := az_C_by hC
  obtain ⟨h1, h2, h3, h4, h5, h6, h7, h8⟩ := id hI
  have hs1 := c_M_readsSum (sc := sc) (a0 := s.2.1) (f0 := s.2.2.1) hC hR (Int.le_refl 0) (az_hd_E1 h1) h4 h5 h6 h7 (Nat.le_refl _) (fun _ _ => rfl)
  generalize hG : az_cmp B s = G
  unfold az_cmp at hG
  cases e1 : az_rs B s with
  | inl e =>
    rw [e1] at hG hs1
    refine hy_aload (i := 0) rfl rfl ?_
    refine hy_cV0 (i := 1) rfl mj_M_readsSum (by decide) rfl (Nat.le_of_ble_eq_true rfl) rfl rfl rfl (hs1) (fun r1_ t1_ h1 => ?_)
    obtain ⟨hF1, rfl, he1⟩ := h1
    dsimp only [hy_st, List.cons_append, List.nil_append]
    refine hy_ib_ne (i := 2) (tt := 5) rfl (fun zc1 => ?_) (fun zc1 => ?_)
    · cases (show false = true by assumption)
    · refine hy_const (i := 3) rfl (by decide) ?_
      refine hy_zreturn (i := 4) rfl rfl (by first | decide | exact hy_b01 _) ?_
      rw [← hG]; exact ⟨by assumption, rfl, by assumption⟩
  | inr s2 =>
    rw [e1] at hG hs1
    dsimp only at hG
    obtain ⟨r1, r2, r3, r4, r5, ⟨r6, r7⟩, r8⟩ := az_rs_s hB (Int.le_refl 0) (a0 := s.2.1) (f0 := s.2.2.1) (az_hd_E1 h1) h4 h5 h6 h7 (Nat.le_refl _) (fun _ _ => rfl) e1
    obtain ⟨k1, k2, k3, k4, k5, k6⟩ := id r5
    have two : ∀ t2, hy_F mrX t t2 → az_R t2 s2 → ∀ (x : Int), x = az_how (B s2.1) → hy_W sc hm_M_readsCompared 5 25 [.inr (some 59), .inl x] [] t2 (az_P t G) := by
      intro t2 hFy hR2 x hx
      subst hx
      have e10 : t2 59 10 = s2.1 := hR2.1
      have hC2 := az_C_F hFy rfl (fun _ => rfl) hC
      by_cases hw : az_how (B s2.1) = -1
      · rw [if_pos hw] at hG
        refine hy_iload (i := 25) rfl rfl ?_
        refine hy_const (i := 26) rfl (by decide) ?_
        refine hy_ic_ne (i := 27) (tt := 34) rfl (fun zc1 => ?_) (fun zc1 => ?_)
        · exact absurd hw (by assumption)
        · refine hy_aload (i := 28) rfl rfl ?_
          refine hy_const (i := 29) rfl (by decide) ?_
          refine hy_aload (i := 30) rfl rfl ?_
          refine hy_get (i := 31) (fk := 10) rfl rfl rfl ?_
          refine hy_cV2e (i := 32) rfl mj_M_wrongAt (by decide) rfl (Nat.le_of_ble_eq_true rfl) rfl rfl rfl (c_M_wrongAt (by decide) (by omega)) ?_
          refine hy_zreturn (i := 33) rfl rfl (by first | decide | exact hy_b01 _) ?_
          rw [← hG]; exact ⟨hFy.up rfl, rfl, by show -1000 * 1 - t2 59 10 = _; omega⟩
      · rw [if_neg hw] at hG
        have hh := az_how_in hw
        have hp : s2.1 < 240 := by
          refine Decidable.byContradiction (fun q => ?_)
          have := (hB s2.1).2.2 (by omega); omega
        have hR3 := az_R_step hR2
        have hFx : hy_F mrX t (hy_up t2 59 10 (t2 59 10 + 1)) := hFy.up rfl
        have hC3 := az_C_F hFx rfl (fun _ => rfl) hC
        have a1 : az_hd (s2.1 + 1, s2.2.1, s2.2.2.1, s2.2.2.2.1, s2.2.2.2.2).2.2.2.1 := by dsimp only; rw [r1]; exact az_hd_E1 h1
        have a2 : az_lc s2.2.2.1 a s2.2.1 s2.2.2.2.1 := by rw [r1]; exact r3
        have a3 : az_ok 1 (s2.1 + 1, s2.2.1, s2.2.2.1, s2.2.2.2.1, s2.2.2.2.2) := ⟨⟨by dsimp only; omega, by dsimp only; omega⟩, by dsimp only; omega, by dsimp only; omega, k4, k5, k6⟩
        have hs3 := c_M_readsSum (sc := sc) (d0 := 1) (a0 := s2.2.1) (f0 := s2.2.2.1) (a := a) hC3 hR3 (by decide) a1 (by dsimp only; omega) a2 r4 a3 (Nat.le_refl _) (fun _ _ => rfl)
        cases e2 : az_rs B (s2.1 + 1, s2.2.1, s2.2.2.1, s2.2.2.2.1, s2.2.2.2.2) with
        | inl e =>
          rw [e2] at hG hs3
          refine hy_iload (i := 25) rfl rfl ?_
          refine hy_const (i := 26) rfl (by decide) ?_
          refine hy_ic_ne (i := 27) (tt := 34) rfl (fun zc1 => ?_) (fun zc1 => ?_)
          · refine hy_aload (i := 34) rfl rfl ?_
            refine hy_aload (i := 35) rfl rfl ?_
            refine hy_get (i := 36) (fk := 10) rfl rfl rfl ?_
            refine hy_const (i := 37) rfl (by decide) ?_
            refine hy_iadd (i := 38) rfl (by omega) ?_
            refine hy_put (i := 39) (fk := 10) rfl rfl rfl rfl ?_
            refine hy_aload (i := 40) rfl rfl ?_
            refine hy_cV0 (i := 41) rfl mj_M_readsSum (by decide) rfl (Nat.le_of_ble_eq_true rfl) rfl rfl rfl (hs3) (fun r1_ t1_ h1 => ?_)
            obtain ⟨hF1, rfl, he1⟩ := h1
            dsimp only [hy_st, List.cons_append, List.nil_append]
            refine hy_ib_ne (i := 42) (tt := 45) rfl (fun zc2 => ?_) (fun zc2 => ?_)
            · cases (show false = true by assumption)
            · refine hy_const (i := 43) rfl (by decide) ?_
              refine hy_zreturn (i := 44) rfl rfl (by first | decide | exact hy_b01 _) ?_
              rw [← hG]; exact ⟨hFx.tr' (by assumption), rfl, by assumption⟩
          · exact absurd (by assumption) hw
        | inr s3 =>
          rw [e2] at hG hs3
          obtain ⟨g1, g2, g3, g4, g5, g6, g7⟩ := az_rs_s hB (d0 := 1) (by decide) (a0 := s2.2.1) (f0 := s2.2.2.1) (a := a) a1 (by dsimp only; omega) a2 r4 a3 (Nat.le_refl _) (fun _ _ => rfl) e2
          obtain ⟨m1, m2, m3, m4, m5, m6⟩ := g5
          refine hy_iload (i := 25) rfl rfl ?_
          refine hy_const (i := 26) rfl (by decide) ?_
          refine hy_ic_ne (i := 27) (tt := 34) rfl (fun zc1 => ?_) (fun zc1 => ?_)
          · refine hy_aload (i := 34) rfl rfl ?_
            refine hy_aload (i := 35) rfl rfl ?_
            refine hy_get (i := 36) (fk := 10) rfl rfl rfl ?_
            refine hy_const (i := 37) rfl (by decide) ?_
            refine hy_iadd (i := 38) rfl (by omega) ?_
            refine hy_put (i := 39) (fk := 10) rfl rfl rfl rfl ?_
            refine hy_aload (i := 40) rfl rfl ?_
            refine hy_cV0 (i := 41) rfl mj_M_readsSum (by decide) rfl (Nat.le_of_ble_eq_true rfl) rfl rfl rfl (hs3) (fun r1_ t1_ h1 => ?_)
            obtain ⟨hF1, rfl, hR1⟩ := h1
            dsimp only [hy_st, List.cons_append, List.nil_append]
            have e15 := hR1.2.1
            refine hy_ib_ne (i := 42) (tt := 45) rfl (fun zc2 => ?_) (fun zc2 => ?_)
            · refine hy_aload (i := 45) rfl rfl ?_
              refine hy_iload (i := 46) rfl rfl ?_
              refine hy_const (i := 47) rfl (by decide) ?_
              refine hy_cV2v (i := 48) rfl mj_M_notes (by decide) rfl (Nat.le_of_ble_eq_true rfl) rfl rfl rfl (c_M_notes (by omega) (by omega) (by decide)) ?_
              rw [Int.add_zero]
              refine hy_aload (i := 49) rfl rfl ?_
              refine hy_cV0 (i := 50) rfl mj_M_endsPiece (by decide) rfl (Nat.le_of_ble_eq_true rfl) rfl rfl rfl (c_M_endsPiece (az_R_note (by assumption) (1048576 * az_how (B s2.1))) (by dsimp only; omega) (by dsimp only; omega) m5 (by dsimp only; omega)) (fun r3_ t3_ h3 => ?_)
              obtain ⟨rfl, hF3, hR3⟩ := h3
              dsimp only [hy_st, List.nil_append]
              refine hy_const (i := 51) rfl (by decide) ?_
              refine hy_zreturn (i := 52) rfl rfl (by first | decide | exact hy_b01 _) ?_
              rw [← hG]
              exact ⟨((hFx.tr' hF1).tr' ((hy_F.rf.up (r := 66) rfl).up (r := 59) (j := 15) rfl)).tr' (by assumption), rfl, by assumption⟩
            · cases (show true = false by assumption)
          · exact absurd (by assumption) hw
    refine hy_aload (i := 0) rfl rfl ?_
    refine hy_cV0 (i := 1) rfl mj_M_readsSum (by decide) rfl (Nat.le_of_ble_eq_true rfl) rfl rfl rfl (hs1) (fun r1_ t1_ h1 => ?_)
    obtain ⟨hF1, rfl, hR1⟩ := h1
    dsimp only [hy_st, List.cons_append, List.nil_append]
    have hC1 := az_C_F hF1 rfl (fun _ => rfl) hC
    have hmp := az_mpok hC1 (by rw [hR1.1]; exact k1)
    have hhe := az_here hC1
    rw [hR1.1] at hhe
    refine hy_ib_ne (i := 2) (tt := 5) rfl (fun zc1 => ?_) (fun zc1 => ?_)
    · refine hy_aload (i := 5) rfl rfl ?_
      refine hy_cV0e (i := 6) rfl mj_M_here (by decide) rfl (Nat.le_of_ble_eq_true rfl) rfl rfl rfl (c_M_here (by assumption)) ?_
      refine hy_const (i := 7) rfl (by decide) ?_
      refine hy_ic_ne (i := 8) (tt := 11) rfl (fun zc2 => ?_) (fun zc2 => ?_)
      · refine hy_aload (i := 11) rfl rfl ?_
        refine hy_cV0e (i := 12) rfl mj_M_here (by decide) rfl (Nat.le_of_ble_eq_true rfl) rfl rfl rfl (c_M_here (by assumption)) ?_
        refine hy_const (i := 13) rfl (by decide) ?_
        refine hy_ic_ne (i := 14) (tt := 17) rfl (fun zc3 => ?_) (fun zc3 => ?_)
        · refine hy_aload (i := 17) rfl rfl ?_
          refine hy_cV0e (i := 18) rfl mj_M_here (by decide) rfl (Nat.le_of_ble_eq_true rfl) rfl rfl rfl (c_M_here (by assumption)) ?_
          refine hy_const (i := 19) rfl (by decide) ?_
          refine hy_ic_ne (i := 20) (tt := 23) rfl (fun zc4 => ?_) (fun zc4 => ?_)
          · refine hy_const (i := 23) rfl (by decide) ?_
            refine hy_istore (i := 24) rfl ?_
            refine two _ (by assumption) (by assumption) _ ?_
            unfold az_how
            rw [← hhe]
            (repeat (first | (rw [if_pos (by omega)]; done) | rw [if_neg (by omega)]))
          · refine hy_const (i := 21) rfl (by decide) ?_
            refine hy_goto (i := 22) (tt := 24) rfl ?_
            refine hy_istore (i := 24) rfl ?_
            refine two _ (by assumption) (by assumption) _ ?_
            unfold az_how
            rw [← hhe]
            (repeat (first | (rw [if_pos (by omega)]; done) | rw [if_neg (by omega)]))
        · refine hy_const (i := 15) rfl (by decide) ?_
          refine hy_goto (i := 16) (tt := 24) rfl ?_
          refine hy_istore (i := 24) rfl ?_
          refine two _ (by assumption) (by assumption) _ ?_
          unfold az_how
          rw [← hhe]
          (repeat (first | (rw [if_pos (by omega)]; done) | rw [if_neg (by omega)]))
      · refine hy_const (i := 9) rfl (by decide) ?_
        refine hy_goto (i := 10) (tt := 24) rfl ?_
        refine hy_istore (i := 24) rfl ?_
        refine two _ (by assumption) (by assumption) _ ?_
        unfold az_how
        rw [← hhe]
        (repeat (first | (rw [if_pos (by omega)]; done) | rw [if_neg (by omega)]))
    · cases (show true = false by assumption)
theorem c_M_readsCondition {p : Int} {m : Nat} {f : Nat → Int} (hC : az_C t B) (h10 : t 59 10 = p) (h15 : t 59 15 = (m : Int)) (h66 : ∀ j : Nat, j < m → t 66 j = f j) (hp : 0 ≤ p ∧ p ≤ 240) (hm : (m : Int) ≤ p) (hf : az_rows f) : hy_Ct sc hm_M_readsCondition 6 [.inr (some 59)] t (az_P t (az_rc B p m f)) := by
  refine hy_mk_ct ok_M_readsCondition ck_M_readsCondition (Nat.le_of_ble_eq_true rfl) ?_
  have hB := az_C_by hC
  have hmp := az_mpok hC (by omega)
  have hhe := az_here hC
  rw [h10] at hhe
  generalize hG : az_rc B p m f = G
  unfold az_rc at hG
  have loop : ∀ (n : Nat) (b : Bool) (s1 : Zs) (t1 : hy_T), hy_F mrX t t1 → az_R t1 s1 → az_cI (if b = true then 0 else 1) m f s1 → 600 ≤ n + s1.1 → az_cond B n b s1 = G → hy_W sc hm_M_readsCondition 6 (if b = true then 22 else 47) [.inr (some 59)] [] t1 (az_P t G) := by
    intro n
    induction n with
    | zero =>
      intro b s1 t1 hF hR hI hn hv
      obtain ⟨-, -, -, -, -, -, ⟨k1, -⟩, -⟩ := hI
      omega
    | succ n ih =>
      intro b s1 t1 hF hR hI hn hv
      obtain ⟨i1, i2, i3, i4, i5, i6, hok, i8⟩ := id hI
      obtain ⟨k1, k2, k3, k4, k5, k6⟩ := id hok
      obtain ⟨q1, q2, q3, q4, q5, q6⟩ := id hR
      have hC1 := az_C_F hF rfl (fun _ => rfl) hC
      have hmp1 := az_mpok hC1 (by omega)
      have hh1 := az_here hC1
      rw [q1] at hh1
      have hb := hB s1.1
      cases b with
      | true =>
        have hI0 : az_cI 0 m f s1 := hI
        show hy_W sc hm_M_readsCondition 6 22 _ _ _ _
        simp only [az_cond] at hv
        by_cases hc : B s1.1 = 33 ∨ B s1.1 = 40
        · rw [if_pos hc] at hv
          have opn : ∀ wh : Int, wh = (if B s1.1 = 33 then 10 else 13) → hy_W sc hm_M_readsCondition 6 38 [.inr (some 59)] [.inl wh, .inr (some 59)] t1 (az_P t G) := by
            intro wh hwh
            rw [← hwh] at hv
            have hw2 : wh = 10 ∨ wh = 13 := by rw [hwh]; split; exact .inl rfl; exact .inr rfl
            have hop := c_M_opens (sc := sc) (what := wh) (by omega) hR hok
            cases ho : az_open wh s1 with
            | inl e =>
              rw [ho] at hv hop
              refine hy_cV1 (i := 38) rfl mj_M_opens (by decide) rfl (Nat.le_of_ble_eq_true rfl) rfl rfl rfl (hop) (fun r1_ t1_ h1 => ?_)
              obtain ⟨hF1, rfl, he1⟩ := h1
              dsimp only [hy_st, List.cons_append, List.nil_append]
              refine hy_ib_ne (i := 39) (tt := 22) rfl (fun zc1 => ?_) (fun zc1 => ?_)
              · cases (show false = true by assumption)
              · refine hy_const (i := 40) rfl (by decide) ?_
                refine hy_zreturn (i := 41) rfl rfl (by first | decide | exact hy_b01 _) ?_
                rw [← hv]; exact ⟨hF.tr' (by assumption), rfl, by assumption⟩
            | inr s2 =>
              rw [ho] at hv hop
              have hI2 := az_op_s hB hw2 hI0 hc ho
              have hp2 : s1.1 < 240 := by
                refine Decidable.byContradiction (fun q => ?_)
                have := hb.2.2 (by omega); omega
              have e2 := (az_open_s (by omega) hok hp2 ho).2
              have e2p : s2.1 = s1.1 + 1 := by rw [e2]
              refine hy_cV1 (i := 38) rfl mj_M_opens (by decide) rfl (Nat.le_of_ble_eq_true rfl) rfl rfl rfl (hop) (fun r1_ t1_ h1 => ?_)
              obtain ⟨hF1, rfl, hR1⟩ := h1
              dsimp only [hy_st, List.cons_append, List.nil_append]
              refine hy_ib_ne (i := 39) (tt := 22) rfl (fun zc1 => ?_) (fun zc1 => ?_)
              · exact ih true s2 _ (hF.tr' (by assumption)) (by assumption) hI2 (by omega) hv
              · cases (show true = false by assumption)
          refine hy_aload (i := 22) rfl rfl ?_
          refine hy_cV0e (i := 23) rfl mj_M_here (by decide) rfl (Nat.le_of_ble_eq_true rfl) rfl rfl rfl (c_M_here (by assumption)) ?_
          refine hy_const (i := 24) rfl (by decide) ?_
          refine hy_ic_eq (i := 25) (tt := 30) rfl (fun zc1 => ?_) (fun zc1 => ?_)
          · refine hy_aload (i := 30) rfl rfl ?_
            refine hy_aload (i := 31) rfl rfl ?_
            refine hy_cV0e (i := 32) rfl mj_M_here (by decide) rfl (Nat.le_of_ble_eq_true rfl) rfl rfl rfl (c_M_here (by assumption)) ?_
            refine hy_const (i := 33) rfl (by decide) ?_
            refine hy_ic_ne (i := 34) (tt := 37) rfl (fun zc2 => ?_) (fun zc2 => ?_)
            · refine hy_const (i := 37) rfl (by decide) ?_
              exact opn _ (by first | (rw [if_pos (by omega)]; done) | (rw [if_neg (by omega)]; done))
            · refine hy_const (i := 35) rfl (by decide) ?_
              refine hy_goto (i := 36) (tt := 38) rfl ?_
              exact opn _ (by first | (rw [if_pos (by omega)]; done) | (rw [if_neg (by omega)]; done))
          · refine hy_aload (i := 26) rfl rfl ?_
            refine hy_cV0e (i := 27) rfl mj_M_here (by decide) rfl (Nat.le_of_ble_eq_true rfl) rfl rfl rfl (c_M_here (by assumption)) ?_
            refine hy_const (i := 28) rfl (by decide) ?_
            refine hy_ic_ne (i := 29) (tt := 42) rfl (fun zc2 => ?_) (fun zc2 => ?_)
            · omega
            · refine hy_aload (i := 30) rfl rfl ?_
              refine hy_aload (i := 31) rfl rfl ?_
              refine hy_cV0e (i := 32) rfl mj_M_here (by decide) rfl (Nat.le_of_ble_eq_true rfl) rfl rfl rfl (c_M_here (by assumption)) ?_
              refine hy_const (i := 33) rfl (by decide) ?_
              refine hy_ic_ne (i := 34) (tt := 37) rfl (fun zc3 => ?_) (fun zc3 => ?_)
              · refine hy_const (i := 37) rfl (by decide) ?_
                exact opn _ (by first | (rw [if_pos (by omega)]; done) | (rw [if_neg (by omega)]; done))
              · refine hy_const (i := 35) rfl (by decide) ?_
                refine hy_goto (i := 36) (tt := 38) rfl ?_
                exact opn _ (by first | (rw [if_pos (by omega)]; done) | (rw [if_neg (by omega)]; done))
        · rw [if_neg hc] at hv
          have hcm := c_M_readsCompared (sc := sc) hC1 hR hI0
          cases hx : az_cmp B s1 with
          | inl e =>
            rw [hx] at hv hcm
            refine hy_aload (i := 22) rfl rfl ?_
            refine hy_cV0e (i := 23) rfl mj_M_here (by decide) rfl (Nat.le_of_ble_eq_true rfl) rfl rfl rfl (c_M_here (by assumption)) ?_
            refine hy_const (i := 24) rfl (by decide) ?_
            refine hy_ic_eq (i := 25) (tt := 30) rfl (fun zc1 => ?_) (fun zc1 => ?_)
            · omega
            · refine hy_aload (i := 26) rfl rfl ?_
              refine hy_cV0e (i := 27) rfl mj_M_here (by decide) rfl (Nat.le_of_ble_eq_true rfl) rfl rfl rfl (c_M_here (by assumption)) ?_
              refine hy_const (i := 28) rfl (by decide) ?_
              refine hy_ic_ne (i := 29) (tt := 42) rfl (fun zc2 => ?_) (fun zc2 => ?_)
              · refine hy_aload (i := 42) rfl rfl ?_
                refine hy_cV0 (i := 43) rfl mj_M_readsCompared (by decide) rfl (Nat.le_of_ble_eq_true rfl) rfl rfl rfl (hcm) (fun r3_ t3_ h3 => ?_)
                obtain ⟨hF3, rfl, he3⟩ := h3
                dsimp only [hy_st, List.cons_append, List.nil_append]
                refine hy_ib_ne (i := 44) (tt := 47) rfl (fun zc3 => ?_) (fun zc3 => ?_)
                · cases (show false = true by assumption)
                · refine hy_const (i := 45) rfl (by decide) ?_
                  refine hy_zreturn (i := 46) rfl rfl (by first | decide | exact hy_b01 _) ?_
                  rw [← hv]; exact ⟨hF.tr' (by assumption), rfl, by assumption⟩
              · omega
          | inr s2 =>
            rw [hx] at hv hcm
            obtain ⟨c1, c2⟩ := az_cmp_s hB hI0 hx
            refine hy_aload (i := 22) rfl rfl ?_
            refine hy_cV0e (i := 23) rfl mj_M_here (by decide) rfl (Nat.le_of_ble_eq_true rfl) rfl rfl rfl (c_M_here (by assumption)) ?_
            refine hy_const (i := 24) rfl (by decide) ?_
            refine hy_ic_eq (i := 25) (tt := 30) rfl (fun zc1 => ?_) (fun zc1 => ?_)
            · omega
            · refine hy_aload (i := 26) rfl rfl ?_
              refine hy_cV0e (i := 27) rfl mj_M_here (by decide) rfl (Nat.le_of_ble_eq_true rfl) rfl rfl rfl (c_M_here (by assumption)) ?_
              refine hy_const (i := 28) rfl (by decide) ?_
              refine hy_ic_ne (i := 29) (tt := 42) rfl (fun zc2 => ?_) (fun zc2 => ?_)
              · refine hy_aload (i := 42) rfl rfl ?_
                refine hy_cV0 (i := 43) rfl mj_M_readsCompared (by decide) rfl (Nat.le_of_ble_eq_true rfl) rfl rfl rfl (hcm) (fun r3_ t3_ h3 => ?_)
                obtain ⟨hF3, rfl, hR3⟩ := h3
                dsimp only [hy_st, List.cons_append, List.nil_append]
                refine hy_ib_ne (i := 44) (tt := 47) rfl (fun zc3 => ?_) (fun zc3 => ?_)
                · exact ih false s2 _ (hF.tr' (by assumption)) (by assumption) c1 (by omega) hv
                · cases (show true = false by assumption)
              · omega
      | false =>
        have hI1 : az_cI 1 m f s1 := hI
        show hy_W sc hm_M_readsCondition 6 47 _ _ _ _
        have hla := fun all => c_M_lands (sc := sc) (all := all) hR (by omega) (by omega) k5 k6 (fun x hx ho => (i2 x hx ho).2.1)
        simp only [az_cond] at hv
        by_cases hc : B s1.1 = 41
        · rw [if_pos hc] at hv
          obtain ⟨hne, hnx⟩ := az_sh_s hB hI1 hc
          have hlt : s1.1 < 240 := by
            refine Decidable.byContradiction (fun q => ?_)
            have := hb.2.2 (by omega); omega
          obtain ⟨l1, l2, l3, l4, l5, l6, l7, l8, l9, l10, l11, l12, l13⟩ := az_land_s true (show s1.2.1 < 260 by omega) s1.2.2.2.1 s1.2.2.1 i1 i2 i4 i5 k6 i3 k5
          have hcc : ∃ x r, (az_land true s1.2.2.2.1 s1.2.1 s1.2.2.1).1 = x :: r := by
            cases hq : (az_land true s1.2.2.2.1 s1.2.1 s1.2.2.1).1 with
            | nil => exact absurd hq hne
            | cons x r => exact ⟨x, r, rfl⟩
          obtain ⟨x, r, hxr⟩ := hcc
          have eS : az_shut s1 = (s1.1 + 1, s1.2.1, (az_land true s1.2.2.2.1 s1.2.1 s1.2.2.1).2, r, s1.2.2.2.2 - 1) := by unfold az_shut; rw [hxr]; rfl
          rw [hxr] at l5 l9 l10
          simp only [az_cnt, List.length_cons] at l5 l9
          have shut : ∀ t2, hy_F mrX t t2 → az_R t2 (s1.1, s1.2.1, (az_land true s1.2.2.2.1 s1.2.1 s1.2.2.1).2, x :: r, s1.2.2.2.2) → hy_W sc hm_M_readsCondition 6 54 [.inr (some 59)] [] t2 (az_P t G) := by
            intro t2 hFy hR2
            have e10 : t2 59 10 = s1.1 := hR2.1
            have e14 : t2 59 14 = s1.2.2.2.2 := hR2.2.2.2.2.2
            have e16 := hR2.2.2.2.1
            simp only [List.length_cons] at e16
            have hR3 := az_R_step (az_R_o (az_R_pop hR2) (s1.2.2.2.2 - 1))
            have hFx : hy_F mrX t (hy_up (hy_up (hy_up t2 59 16 (t2 59 16 - 1)) 59 14 (s1.2.2.2.2 - 1)) 59 10 (t2 59 10 + 1)) := ((hFy.up rfl).up rfl).up rfl
            rw [← eS] at hR3
            by_cases hr : (az_shut s1).2.2.2.1 = []
            · rw [if_pos hr] at hv
              have hr0 : r = [] := by rw [eS] at hr; exact hr
              refine hy_aload (i := 54) rfl rfl ?_
              refine hy_aload (i := 55) rfl rfl ?_
              refine hy_get (i := 56) (fk := 16) rfl rfl rfl ?_
              refine hy_const (i := 57) rfl (by decide) ?_
              refine hy_isub (i := 58) rfl (by show -2147483648 ≤ t2 59 16 - 1 ∧ t2 59 16 - 1 ≤ 2147483647; omega) ?_
              refine hy_put (i := 59) (fk := 16) rfl rfl rfl rfl ?_
              refine hy_aload (i := 60) rfl rfl ?_
              refine hy_aload (i := 61) rfl rfl ?_
              refine hy_get (i := 62) (fk := 14) rfl rfl rfl ?_
              rw [show hy_up t2 59 16 (t2 59 16 - 1) 59 14 = s1.2.2.2.2 from e14]
              refine hy_const (i := 63) rfl (by decide) ?_
              refine hy_isub (i := 64) rfl (by omega) ?_
              refine hy_put (i := 65) (fk := 14) rfl rfl rfl rfl ?_
              refine hy_aload (i := 66) rfl rfl ?_
              refine hy_aload (i := 67) rfl rfl ?_
              refine hy_get (i := 68) (fk := 10) rfl rfl rfl ?_
              refine hy_const (i := 69) rfl (by decide) ?_
              refine hy_iadd (i := 70) rfl (by show -2147483648 ≤ t2 59 10 + 1 ∧ t2 59 10 + 1 ≤ 2147483647; omega) ?_
              refine hy_put (i := 71) (fk := 10) rfl rfl rfl rfl ?_
              refine hy_aload (i := 72) rfl rfl ?_
              refine hy_get (i := 73) (fk := 16) rfl rfl rfl ?_
              rw [show ∀ (a b c : Int), hy_up (hy_up (hy_up t2 59 16 a) 59 14 b) 59 10 c 59 16 = a from fun _ _ _ => rfl]
              refine hy_if_ne (i := 74) (tt := 77) rfl (fun zc1 => ?_) (fun zc1 => ?_)
              · rw [hr0] at e16; simp only [List.length_nil] at e16; omega
              · refine hy_const (i := 75) rfl (by decide) ?_
                refine hy_zreturn (i := 76) rfl rfl (by first | decide | exact hy_b01 _) ?_
                rw [← hv]; exact ⟨hFx, rfl, hR3⟩
            · rw [if_neg hr] at hv
              have hr0 : r ≠ [] := by rw [eS] at hr; exact hr
              have hrl : 1 ≤ r.length := by
                cases r with
                | nil => exact absurd rfl hr0
                | cons y r => simp
              have hcnt : az_cnt r ≤ az_cnt s1.2.2.2.1 := by omega
              have hen : ∀ y, y ∈ (az_shut s1).2.2.2.1 → az_ent y := fun y hy => by
                rw [eS] at hy
                exact k5 y (l10 y (List.mem_cons_of_mem _ hy))
              have en := c_M_endsPiece (sc := sc) hR3 (by rw [eS]; dsimp only; omega) (by rw [eS]; dsimp only; omega) hen (by rw [eS]; dsimp only; omega)
              have nx := hnx hr
              have e1p : (az_shut s1).1 = s1.1 + 1 := by rw [eS]
              refine hy_aload (i := 54) rfl rfl ?_
              refine hy_aload (i := 55) rfl rfl ?_
              refine hy_get (i := 56) (fk := 16) rfl rfl rfl ?_
              refine hy_const (i := 57) rfl (by decide) ?_
              refine hy_isub (i := 58) rfl (by show -2147483648 ≤ t2 59 16 - 1 ∧ t2 59 16 - 1 ≤ 2147483647; omega) ?_
              refine hy_put (i := 59) (fk := 16) rfl rfl rfl rfl ?_
              refine hy_aload (i := 60) rfl rfl ?_
              refine hy_aload (i := 61) rfl rfl ?_
              refine hy_get (i := 62) (fk := 14) rfl rfl rfl ?_
              rw [show hy_up t2 59 16 (t2 59 16 - 1) 59 14 = s1.2.2.2.2 from e14]
              refine hy_const (i := 63) rfl (by decide) ?_
              refine hy_isub (i := 64) rfl (by omega) ?_
              refine hy_put (i := 65) (fk := 14) rfl rfl rfl rfl ?_
              refine hy_aload (i := 66) rfl rfl ?_
              refine hy_aload (i := 67) rfl rfl ?_
              refine hy_get (i := 68) (fk := 10) rfl rfl rfl ?_
              refine hy_const (i := 69) rfl (by decide) ?_
              refine hy_iadd (i := 70) rfl (by show -2147483648 ≤ t2 59 10 + 1 ∧ t2 59 10 + 1 ≤ 2147483647; omega) ?_
              refine hy_put (i := 71) (fk := 10) rfl rfl rfl rfl ?_
              refine hy_aload (i := 72) rfl rfl ?_
              refine hy_get (i := 73) (fk := 16) rfl rfl rfl ?_
              rw [show ∀ (a b c : Int), hy_up (hy_up (hy_up t2 59 16 a) 59 14 b) 59 10 c 59 16 = a from fun _ _ _ => rfl]
              refine hy_if_ne (i := 74) (tt := 77) rfl (fun zc1 => ?_) (fun zc1 => ?_)
              · refine hy_aload (i := 77) rfl rfl ?_
                refine hy_cV0 (i := 78) rfl mj_M_endsPiece (by decide) rfl (Nat.le_of_ble_eq_true rfl) rfl rfl rfl (en) (fun r1_ t1_ h1 => ?_)
                obtain ⟨rfl, hF1, hR1⟩ := h1
                dsimp only [hy_st, List.nil_append]
                refine hy_goto (i := 79) (tt := 47) rfl ?_
                exact ih false (az_shut2 (az_shut s1)) _ (hFx.tr' (by assumption)) (by assumption) nx (by show 600 ≤ (n : Int) + (az_shut s1).1; omega) hv
              · omega
          have hl1 := hla true
          rw [hxr] at hl1
          refine hy_aload (i := 47) rfl rfl ?_
          refine hy_cV0e (i := 48) rfl mj_M_here (by decide) rfl (Nat.le_of_ble_eq_true rfl) rfl rfl rfl (c_M_here (by assumption)) ?_
          refine hy_const (i := 49) rfl (by decide) ?_
          refine hy_ic_ne (i := 50) (tt := 80) rfl (fun zc1 => ?_) (fun zc1 => ?_)
          · omega
          · refine hy_aload (i := 51) rfl rfl ?_
            refine hy_const (i := 52) rfl (by decide) ?_
            refine hy_cV1 (i := 53) rfl mj_M_lands (by decide) rfl (Nat.le_of_ble_eq_true rfl) rfl rfl rfl (hl1) (fun r2_ t2_ h2 => ?_)
            obtain ⟨rfl, hF2, hR2⟩ := h2
            dsimp only [hy_st, List.nil_append]
            exact shut _ (hF.tr' (by assumption)) (by assumption)
        · rw [if_neg hc] at hv
          by_cases hc2 : B s1.1 = 38 ∨ B s1.1 = 124
          · rw [if_pos hc2] at hv
            have hlt : s1.1 < 240 := by
              refine Decidable.byContradiction (fun q => ?_)
              have := hb.2.2 (by omega); omega
            have nx := az_jm_s hB hI1 hc2
            obtain ⟨l1, l2, l3, l4, l5, l6, l7, l8, l9, l10, l11, l12, l13⟩ := az_land_s (decide (B s1.1 = 124)) (show s1.2.1 < 260 by omega) s1.2.2.2.1 s1.2.2.1 i1 i2 i4 i5 k6 i3 k5
            have jmp : ∀ t2, hy_F mrX t t2 → az_R t2 (s1.1, s1.2.1, (az_land (decide (B s1.1 = 124)) s1.2.2.2.1 s1.2.1 s1.2.2.1).2, (az_land (decide (B s1.1 = 124)) s1.2.2.2.1 s1.2.1 s1.2.2.1).1, s1.2.2.2.2) → hy_W sc hm_M_readsCondition 6 103 [.inr (some 59)] [] t2 (az_P t G) := by
              intro t2 hFy hR2
              have e10 : t2 59 10 = s1.1 := hR2.1
              have hC2 := az_C_F hFy rfl (fun _ => rfl) hC
              have hmp2 := az_mpok hC2 (by omega)
              have hh2 := az_here hC2
              rw [e10] at hh2
              have hjo := az_jop_in (B s1.1)
              have hj := c_M_jumps (sc := sc) (op := az_jop (B s1.1)) hR2 (by dsimp only; omega) (by dsimp only; omega) (by dsimp only; omega) (by omega)
              refine hy_aload (i := 103) rfl rfl ?_
              refine hy_aload (i := 104) rfl rfl ?_
              refine hy_cV0e (i := 105) rfl mj_M_here (by decide) rfl (Nat.le_of_ble_eq_true rfl) rfl rfl rfl (c_M_here (by assumption)) ?_
              refine hy_const (i := 106) rfl (by decide) ?_
              refine hy_ic_ne (i := 107) (tt := 110) rfl (fun zc1 => ?_) (fun zc1 => ?_)
              · refine hy_const (i := 110) rfl (by decide) ?_
                first | rw [show (11 : Int) = az_jop (B s1.1) by unfold az_jop; rw [if_pos (by omega)]] | rw [show (12 : Int) = az_jop (B s1.1) by unfold az_jop; rw [if_neg (by omega)]]
                refine hy_cV1 (i := 111) rfl mj_M_jumps (by decide) rfl (Nat.le_of_ble_eq_true rfl) rfl rfl rfl (hj) (fun r2_ t2_ h2 => ?_)
                obtain ⟨rfl, hF2, hR2⟩ := h2
                dsimp only [hy_st, List.nil_append]
                refine hy_goto (i := 112) (tt := 22) rfl ?_
                exact ih true (az_jump (B s1.1) s1) _ (hFy.tr' (by assumption)) (by assumption) nx (by show 600 ≤ (n : Int) + (s1.1 + 1); omega) hv
              · refine hy_const (i := 108) rfl (by decide) ?_
                refine hy_goto (i := 109) (tt := 111) rfl ?_
                first | rw [show (11 : Int) = az_jop (B s1.1) by unfold az_jop; rw [if_pos (by omega)]] | rw [show (12 : Int) = az_jop (B s1.1) by unfold az_jop; rw [if_neg (by omega)]]
                refine hy_cV1 (i := 111) rfl mj_M_jumps (by decide) rfl (Nat.le_of_ble_eq_true rfl) rfl rfl rfl (hj) (fun r2_ t2_ h2 => ?_)
                obtain ⟨rfl, hF2, hR2⟩ := h2
                dsimp only [hy_st, List.nil_append]
                refine hy_goto (i := 112) (tt := 22) rfl ?_
                exact ih true (az_jump (B s1.1) s1) _ (hFy.tr' (by assumption)) (by assumption) nx (by show 600 ≤ (n : Int) + (s1.1 + 1); omega) hv
            refine hy_aload (i := 47) rfl rfl ?_
            refine hy_cV0e (i := 48) rfl mj_M_here (by decide) rfl (Nat.le_of_ble_eq_true rfl) rfl rfl rfl (c_M_here (by assumption)) ?_
            refine hy_const (i := 49) rfl (by decide) ?_
            refine hy_ic_ne (i := 50) (tt := 80) rfl (fun zc1 => ?_) (fun zc1 => ?_)
            · refine hy_aload (i := 80) rfl rfl ?_
              refine hy_cV0e (i := 81) rfl mj_M_here (by decide) rfl (Nat.le_of_ble_eq_true rfl) rfl rfl rfl (c_M_here (by assumption)) ?_
              refine hy_const (i := 82) rfl (by decide) ?_
              refine hy_ic_eq (i := 83) (tt := 94) rfl (fun zc2 => ?_) (fun zc2 => ?_)
              · refine hy_aload (i := 94) rfl rfl ?_
                refine hy_aload (i := 95) rfl rfl ?_
                refine hy_cV0e (i := 96) rfl mj_M_here (by decide) rfl (Nat.le_of_ble_eq_true rfl) rfl rfl rfl (c_M_here (by assumption)) ?_
                refine hy_const (i := 97) rfl (by decide) ?_
                refine hy_ic_ne (i := 98) (tt := 101) rfl (fun zc3 => ?_) (fun zc3 => ?_)
                · refine hy_const (i := 101) rfl (by decide) ?_
                  first | rw [show (1 : Int) = hy_b (decide (B s1.1 = 124)) by rw [decide_eq_true (by omega)]; rfl] | rw [show (0 : Int) = hy_b (decide (B s1.1 = 124)) by rw [decide_eq_false (by omega)]; rfl]
                  refine hy_cV1 (i := 102) rfl mj_M_lands (by decide) rfl (Nat.le_of_ble_eq_true rfl) rfl rfl rfl ((hla (decide (B s1.1 = 124)))) (fun r4_ t4_ h4 => ?_)
                  obtain ⟨rfl, hF4, hR4⟩ := h4
                  dsimp only [hy_st, List.nil_append]
                  exact jmp _ (hF.tr' (by assumption)) (by assumption)
                · refine hy_const (i := 99) rfl (by decide) ?_
                  refine hy_goto (i := 100) (tt := 102) rfl ?_
                  first | rw [show (1 : Int) = hy_b (decide (B s1.1 = 124)) by rw [decide_eq_true (by omega)]; rfl] | rw [show (0 : Int) = hy_b (decide (B s1.1 = 124)) by rw [decide_eq_false (by omega)]; rfl]
                  refine hy_cV1 (i := 102) rfl mj_M_lands (by decide) rfl (Nat.le_of_ble_eq_true rfl) rfl rfl rfl ((hla (decide (B s1.1 = 124)))) (fun r4_ t4_ h4 => ?_)
                  obtain ⟨rfl, hF4, hR4⟩ := h4
                  dsimp only [hy_st, List.nil_append]
                  exact jmp _ (hF.tr' (by assumption)) (by assumption)
              · refine hy_aload (i := 84) rfl rfl ?_
                refine hy_cV0e (i := 85) rfl mj_M_here (by decide) rfl (Nat.le_of_ble_eq_true rfl) rfl rfl rfl (c_M_here (by assumption)) ?_
                refine hy_const (i := 86) rfl (by decide) ?_
                refine hy_ic_eq (i := 87) (tt := 94) rfl (fun zc3 => ?_) (fun zc3 => ?_)
                · refine hy_aload (i := 94) rfl rfl ?_
                  refine hy_aload (i := 95) rfl rfl ?_
                  refine hy_cV0e (i := 96) rfl mj_M_here (by decide) rfl (Nat.le_of_ble_eq_true rfl) rfl rfl rfl (c_M_here (by assumption)) ?_
                  refine hy_const (i := 97) rfl (by decide) ?_
                  refine hy_ic_ne (i := 98) (tt := 101) rfl (fun zc4 => ?_) (fun zc4 => ?_)
                  · refine hy_const (i := 101) rfl (by decide) ?_
                    first | rw [show (1 : Int) = hy_b (decide (B s1.1 = 124)) by rw [decide_eq_true (by omega)]; rfl] | rw [show (0 : Int) = hy_b (decide (B s1.1 = 124)) by rw [decide_eq_false (by omega)]; rfl]
                    refine hy_cV1 (i := 102) rfl mj_M_lands (by decide) rfl (Nat.le_of_ble_eq_true rfl) rfl rfl rfl ((hla (decide (B s1.1 = 124)))) (fun r5_ t5_ h5 => ?_)
                    obtain ⟨rfl, hF5, hR5⟩ := h5
                    dsimp only [hy_st, List.nil_append]
                    exact jmp _ (hF.tr' (by assumption)) (by assumption)
                  · refine hy_const (i := 99) rfl (by decide) ?_
                    refine hy_goto (i := 100) (tt := 102) rfl ?_
                    first | rw [show (1 : Int) = hy_b (decide (B s1.1 = 124)) by rw [decide_eq_true (by omega)]; rfl] | rw [show (0 : Int) = hy_b (decide (B s1.1 = 124)) by rw [decide_eq_false (by omega)]; rfl]
                    refine hy_cV1 (i := 102) rfl mj_M_lands (by decide) rfl (Nat.le_of_ble_eq_true rfl) rfl rfl rfl ((hla (decide (B s1.1 = 124)))) (fun r5_ t5_ h5 => ?_)
                    obtain ⟨rfl, hF5, hR5⟩ := h5
                    dsimp only [hy_st, List.nil_append]
                    exact jmp _ (hF.tr' (by assumption)) (by assumption)
                · omega
            · omega
          · rw [if_neg hc2] at hv
            refine hy_aload (i := 47) rfl rfl ?_
            refine hy_cV0e (i := 48) rfl mj_M_here (by decide) rfl (Nat.le_of_ble_eq_true rfl) rfl rfl rfl (c_M_here (by assumption)) ?_
            refine hy_const (i := 49) rfl (by decide) ?_
            refine hy_ic_ne (i := 50) (tt := 80) rfl (fun zc1 => ?_) (fun zc1 => ?_)
            · refine hy_aload (i := 80) rfl rfl ?_
              refine hy_cV0e (i := 81) rfl mj_M_here (by decide) rfl (Nat.le_of_ble_eq_true rfl) rfl rfl rfl (c_M_here (by assumption)) ?_
              refine hy_const (i := 82) rfl (by decide) ?_
              refine hy_ic_eq (i := 83) (tt := 94) rfl (fun zc2 => ?_) (fun zc2 => ?_)
              · omega
              · refine hy_aload (i := 84) rfl rfl ?_
                refine hy_cV0e (i := 85) rfl mj_M_here (by decide) rfl (Nat.le_of_ble_eq_true rfl) rfl rfl rfl (c_M_here (by assumption)) ?_
                refine hy_const (i := 86) rfl (by decide) ?_
                refine hy_ic_eq (i := 87) (tt := 94) rfl (fun zc3 => ?_) (fun zc3 => ?_)
                · omega
                · refine hy_aload (i := 88) rfl rfl ?_
                  refine hy_const (i := 89) rfl (by decide) ?_
                  refine hy_aload (i := 90) rfl rfl ?_
                  refine hy_get (i := 91) (fk := 10) rfl rfl rfl ?_
                  refine hy_cV2e (i := 92) rfl mj_M_wrongAt (by decide) rfl (Nat.le_of_ble_eq_true rfl) rfl rfl rfl (c_M_wrongAt (by decide) (by omega)) ?_
                  refine hy_zreturn (i := 93) rfl rfl (by first | decide | exact hy_b01 _) ?_
                  rw [← hv]; exact ⟨hF.up rfl, rfl, by show -1000 * 1 - t1 59 10 = _; omega⟩
            · omega
  by_cases h40 : B p = 40
  · rw [if_pos h40] at hG
    have hlt : p < 240 := by
      refine Decidable.byContradiction (fun q => ?_)
      have := (hB p).2.2 (by omega); omega
    have hR0 : az_R (hy_up (hy_up t 59 14 0) 59 16 0) (p, m, f, [], 0) := ⟨h10, h15, h66, rfl, trivial, rfl⟩
    have hok0 : az_ok 0 (p, m, f, [], 0) := ⟨hp, by simp [az_cnt]; exact hm, by simp; exact hp.1, ⟨rfl, by dsimp only; omega⟩, (fun x hx => by cases hx), hf⟩
    have hop := c_M_opens (sc := sc) (what := 13) (by decide) hR0 hok0
    have eo : az_open 13 (p, m, f, [], 0) = .inr (p + 1, m, f, [13631488], 1) := rfl
    rw [eo] at hop
    have hI : az_cI 0 m f (p + 1, m, f, [13631488], 1) := by
      refine ⟨fun x hx => ?_, fun x hx ho => ?_, ⟨[], rfl⟩, az_dep_a f m m (Nat.le_refl _), fun k k1 k2 => ?_, Nat.le_refl _, ⟨⟨by dsimp only; omega, by dsimp only; omega⟩, ?_, ?_, ⟨rfl, by dsimp only; omega⟩, fun x hx => ?_, hf⟩, fun _ _ => rfl⟩
      · simp at hx; subst hx; decide
      · simp at hx; subst hx; exact absurd ho (by decide)
      · dsimp only at k2; omega
      · simp [az_cnt]; omega
      · simp; omega
      · simp at hx; subst hx; decide
    refine hy_aload (i := 0) rfl rfl ?_
    refine hy_cV0e (i := 1) rfl mj_M_here (by decide) rfl (Nat.le_of_ble_eq_true rfl) rfl rfl rfl (c_M_here (by assumption)) ?_
    refine hy_const (i := 2) rfl (by decide) ?_
    refine hy_ic_eq (i := 3) (tt := 10) rfl (fun zc1 => ?_) (fun zc1 => ?_)
    · refine hy_aload (i := 10) rfl rfl ?_
      refine hy_const (i := 11) rfl (by decide) ?_
      refine hy_put (i := 12) (fk := 14) rfl rfl rfl rfl ?_
      refine hy_aload (i := 13) rfl rfl ?_
      refine hy_const (i := 14) rfl (by decide) ?_
      refine hy_put (i := 15) (fk := 16) rfl rfl rfl rfl ?_
      refine hy_aload (i := 16) rfl rfl ?_
      refine hy_const (i := 17) rfl (by decide) ?_
      refine hy_cV1 (i := 18) rfl mj_M_opens (by decide) rfl (Nat.le_of_ble_eq_true rfl) rfl rfl rfl (hop) (fun r2_ t2_ h2 => ?_)
      obtain ⟨hF2, rfl, hR2⟩ := h2
      dsimp only [hy_st, List.cons_append, List.nil_append]
      refine hy_ib_ne (i := 19) (tt := 22) rfl (fun zc2 => ?_) (fun zc2 => ?_)
      · exact loop 600 true _ _ (((hy_F.rf.up rfl).up rfl).tr' (show hy_F mrX (hy_up (hy_up t 59 14 0) 59 16 0) _ by assumption)) (by assumption) hI (by dsimp only; omega) hG
      · cases (show true = false by assumption)
    · omega
  · rw [if_neg h40] at hG
    refine hy_aload (i := 0) rfl rfl ?_
    refine hy_cV0e (i := 1) rfl mj_M_here (by decide) rfl (Nat.le_of_ble_eq_true rfl) rfl rfl rfl (c_M_here (by assumption)) ?_
    refine hy_const (i := 2) rfl (by decide) ?_
    refine hy_ic_eq (i := 3) (tt := 10) rfl (fun zc1 => ?_) (fun zc1 => ?_)
    · omega
    · refine hy_aload (i := 4) rfl rfl ?_
      refine hy_const (i := 5) rfl (by decide) ?_
      refine hy_aload (i := 6) rfl rfl ?_
      refine hy_get (i := 7) (fk := 10) rfl rfl rfl ?_
      refine hy_cV2e (i := 8) rfl mj_M_wrongAt (by decide) rfl (Nat.le_of_ble_eq_true rfl) rfl rfl rfl (c_M_wrongAt (by decide) (by omega)) ?_
      refine hy_zreturn (i := 9) rfl rfl (by first | decide | exact hy_b01 _) ?_
      rw [← hG]; exact ⟨hy_F.rf.up rfl, rfl, by show -1000 * 1 - t 59 10 = _; omega⟩
end MTT
