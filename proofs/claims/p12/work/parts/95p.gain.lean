/-! the class's gain, exactly -/
theorem sp_worth_G {X : Nat → Nat → Bool} {t t1 : hy_T} (h : hy_F X t t1) (hx : frees X (fun r j => lawX r j || r == 9 || r == 35 || r == 34 || r == 6 || r == 7 || (r == 5 && j == 3) || (r == 33 && j == 4))) (e q : Int) : sp_worth t1 e q = sp_worth t e q := by
  have hl : lc_same t t1 := lc_same_of h (fun r j k => hx r j (by simp only [k]; simp))
  have es : sp_seen t1 e q = sp_seen t e q := by
    unfold sp_seen
    rw [show t1 34 = t 34 from funext fun j => h 34 j (hx 34 j (by simp)), sp_seenN_G h hl (hx 33 4 (by simp)) (hx 5 3 (by simp)) (fun j => hx 6 j (by simp)) (fun j => hx 7 j (by simp))]
  unfold sp_worth
  rw [es]
  exact sp_worthN_eq (fun c _ => sp_price_G h hl (fun j => hx 9 j (by simp)) (fun j => hx 35 j (by simp)) (fun j => hx 34 j (by simp)) (hx 5 3 (by simp)) (hx 33 4 (by simp)) e q 0 c) _ 12 (Nat.le_refl _)
theorem sp_worth_in (t : hy_T) (e q : Int) : 0 ≤ sp_worth t e q ∧ sp_worth t e q ≤ 76800 := by
  have := sp_worthN_le (f := fun c => sp_price t e q 0 c) (fun c _ => sp_price_le t e q 0 c) (sp_seen t e q) 12 (Nat.le_refl _)
  unfold sp_worth
  omega
theorem setH_E {X : Nat → Nat → Bool} {t t1 : hy_T} (h : hy_F X t t1) (c q v : Int) : hy_F X (sp_setH 33 t c q v) (sp_setH 33 t1 c q v) := by
  unfold sp_setH
  split
  · exact hE_up h _ _ _
  · exact h
section GX
variable {sc : List Int32} {t : hy_T}
theorem c_W_gain_x {e c q : Int} (hk : lc_ok t) : hy_Ct sc hm_W_gain 6 [.inr (some 2), .inl e, .inl c, .inl q] t (fun r t' => r = some (wf_gain t e c q) ∧ hy_F pX t t') := by
  refine hy_mk_ct ok_W_gain ck_W_gain (Nat.le_of_ble_eq_true rfl) ?_
  by_cases hq : ((0 ≤ e ∧ e < 6) ∧ wf_plain t c = true ∧ 0 ≤ q ∧ q < 4) ∧ hz_b (sp_hav (t 34) c q) e = false
  · have ew : wf_gain t e c q = sp_worth (sp_setH 33 t c q (hz_ior (sp_hav (t 34) c q) (hz_ishl 1 e))) e q - sp_worth t e q := if_pos hq
    rw [ew]
    refine hy_iload (i := 0) rfl rfl ?_
    refine hy_cS1e (i := 1) rfl (by decide) mj_W_isEmpire (by decide) rfl (Nat.le_of_ble_eq_true rfl) (c_W_isEmpire) ?_
    refine hy_ib_eq (i := 2) (tt := 11) rfl (fun zc1 => ?_) (fun zc1 => ?_)
    · simp at zc1; omega
    · refine hy_aload (i := 3) rfl rfl ?_
      refine hy_getr (i := 4) rfl rfl ?_
      refine hy_iload (i := 5) rfl rfl ?_
      refine hy_cV1e (i := 6) rfl mj_P_isPlain (by decide) rfl (Nat.le_of_ble_eq_true rfl) rfl rfl rfl (c_P_isPlain) ?_
      refine hy_ib_eq (i := 7) (tt := 11) rfl (fun zc2 => ?_) (fun zc2 => ?_)
      · exact absurd (hq.1.2.1.symm.trans zc2) (by decide)
      · refine hy_iload (i := 8) rfl rfl ?_
        refine hy_cS1e (i := 9) rfl (by decide) mj_W_isQuarter (by decide) rfl (Nat.le_of_ble_eq_true rfl) (c_W_isQuarter) ?_
        refine hy_ib_ne (i := 10) (tt := 13) rfl (fun zc3 => ?_) (fun zc3 => ?_)
        · refine hy_aload (i := 13) rfl rfl ?_
          refine hy_getr (i := 14) rfl rfl ?_
          refine hy_iload (i := 15) rfl rfl ?_
          refine hy_iload (i := 16) rfl rfl ?_
          refine hy_cV2e (i := 17) rfl mj_S_havers (by decide) rfl (Nat.le_of_ble_eq_true rfl) rfl rfl rfl (c_S_havers_33) ?_
          refine hy_istore (i := 18) rfl ?_
          refine hy_iload (i := 19) rfl rfl ?_
          refine hy_iload (i := 20) rfl rfl ?_
          refine hy_cS2e (i := 21) rfl (by decide) mj_W_bit (by decide) rfl (Nat.le_of_ble_eq_true rfl) (c_W_bit) ?_
          refine hy_const (i := 22) rfl (by decide) ?_
          refine hy_icb_ne (i := 23) (tt := 26) rfl (fun zc4 => ?_) (fun zc4 => ?_)
          · refine hy_aload (i := 26) rfl rfl ?_
            refine hy_getr (i := 27) rfl rfl ?_
            refine hy_iload (i := 28) rfl rfl ?_
            refine hy_iload (i := 29) rfl rfl ?_
            refine hy_cV2 (i := 30) rfl mj_U_worthTo (by decide) rfl (Nat.le_of_ble_eq_true rfl) rfl rfl rfl (c_U_worthTo hk) (fun r6_ t6_ h6 => ?_)
            obtain ⟨rfl, hF6⟩ := h6
            dsimp only [hy_st, List.cons_append, List.nil_append]
            refine hy_istore (i := 31) rfl ?_
            refine hy_aload (i := 32) rfl rfl ?_
            refine hy_getr (i := 33) rfl rfl ?_
            refine hy_iload (i := 34) rfl rfl ?_
            refine hy_iload (i := 35) rfl rfl ?_
            refine hy_iload (i := 36) rfl rfl ?_
            refine hy_const (i := 37) rfl (by decide) ?_
            refine hy_iload (i := 38) rfl rfl ?_
            refine hy_ishl (i := 39) rfl ?_
            refine hy_ior (i := 40) rfl ?_
            refine hy_cV3v (i := 41) rfl mj_S_setHavers (by decide) rfl (Nat.le_of_ble_eq_true rfl) rfl rfl rfl (c_S_setHavers_33) ?_
            refine hy_aload (i := 42) rfl rfl ?_
            refine hy_getr (i := 43) rfl rfl ?_
            refine hy_iload (i := 44) rfl rfl ?_
            refine hy_iload (i := 45) rfl rfl ?_
            have hk2 : lc_ok (sp_setH 33 t6_ c q (hz_ior (sp_hav (t 34) c q) (hz_ishl 1 e))) := lc_ok_same (lc_same_of (X := fun r _ => r == 34) (by unfold sp_setH; split; exact hy_F.rf.up rfl; exact hy_F.rf) (fun r j h => by revert h; simp [lawX]; omega)) (lc_ok_same (pX_law hF6) hk)
            refine hy_cV2 (i := 46) rfl mj_U_worthTo (by decide) rfl (Nat.le_of_ble_eq_true rfl) rfl rfl rfl (c_U_worthTo hk2) (fun r8_ t8_ h8 => ?_)
            obtain ⟨rfl, hF8⟩ := h8
            dsimp only [hy_st, List.cons_append, List.nil_append]
            refine hy_istore (i := 47) rfl ?_
            refine hy_aload (i := 48) rfl rfl ?_
            refine hy_getr (i := 49) rfl rfl ?_
            refine hy_iload (i := 50) rfl rfl ?_
            refine hy_iload (i := 51) rfl rfl ?_
            refine hy_iload (i := 52) rfl rfl ?_
            refine hy_cV3v (i := 53) rfl mj_S_setHavers (by decide) rfl (Nat.le_of_ble_eq_true rfl) rfl rfl rfl (c_S_setHavers_33) ?_
            refine hy_iload (i := 54) rfl rfl ?_
            refine hy_iload (i := 55) rfl rfl ?_
            refine hy_isub (i := 56) rfl (by have q1 := sp_worth_in (sp_setH 33 t6_ c q (hz_ior (sp_hav (t 34) c q) (hz_ishl 1 e))) e q; have q2 := sp_worth_in t e q; unfold hy_R; omega) ?_
            refine hy_ireturn (i := 57) rfl rfl ?_
            refine ⟨congrArg some (by rw [sp_worth_G (setH_E hF6 c q _) (fun r j k => by revert k; simp only [lawX, pX, Bool.or_eq_true, Bool.and_eq_true, beq_iff_eq, Bool.or_eq_false_iff, Bool.and_eq_false_iff, beq_eq_false_iff_ne]; omega)]), ?_⟩; have hG := gain_F hF6 (by assumption); rw [show t6_ 34 = t 34 from funext fun j => hF6 34 j rfl] at hG; exact hG
          · exfalso; simp_all [hy_b]
        · simp at zc3; omega
  · have ew : wf_gain t e c q = -1000000000 := if_neg hq
    rw [ew]
    refine hy_iload (i := 0) rfl rfl ?_
    refine hy_cS1e (i := 1) rfl (by decide) mj_W_isEmpire (by decide) rfl (Nat.le_of_ble_eq_true rfl) (c_W_isEmpire) ?_
    refine hy_ib_eq (i := 2) (tt := 11) rfl (fun zc1 => ?_) (fun zc1 => ?_)
    · refine hy_const (i := 11) rfl (by decide) ?_
      refine hy_ireturn (i := 12) rfl rfl ?_
      exact ⟨rfl, hy_F.rf⟩
    · refine hy_aload (i := 3) rfl rfl ?_
      refine hy_getr (i := 4) rfl rfl ?_
      refine hy_iload (i := 5) rfl rfl ?_
      refine hy_cV1e (i := 6) rfl mj_P_isPlain (by decide) rfl (Nat.le_of_ble_eq_true rfl) rfl rfl rfl (c_P_isPlain) ?_
      refine hy_ib_eq (i := 7) (tt := 11) rfl (fun zc2 => ?_) (fun zc2 => ?_)
      · refine hy_const (i := 11) rfl (by decide) ?_
        refine hy_ireturn (i := 12) rfl rfl ?_
        exact ⟨rfl, hy_F.rf⟩
      · refine hy_iload (i := 8) rfl rfl ?_
        refine hy_cS1e (i := 9) rfl (by decide) mj_W_isQuarter (by decide) rfl (Nat.le_of_ble_eq_true rfl) (c_W_isQuarter) ?_
        refine hy_ib_ne (i := 10) (tt := 13) rfl (fun zc3 => ?_) (fun zc3 => ?_)
        · refine hy_aload (i := 13) rfl rfl ?_
          refine hy_getr (i := 14) rfl rfl ?_
          refine hy_iload (i := 15) rfl rfl ?_
          refine hy_iload (i := 16) rfl rfl ?_
          refine hy_cV2e (i := 17) rfl mj_S_havers (by decide) rfl (Nat.le_of_ble_eq_true rfl) rfl rfl rfl (c_S_havers_33) ?_
          refine hy_istore (i := 18) rfl ?_
          refine hy_iload (i := 19) rfl rfl ?_
          refine hy_iload (i := 20) rfl rfl ?_
          refine hy_cS2e (i := 21) rfl (by decide) mj_W_bit (by decide) rfl (Nat.le_of_ble_eq_true rfl) (c_W_bit) ?_
          refine hy_const (i := 22) rfl (by decide) ?_
          refine hy_icb_ne (i := 23) (tt := 26) rfl (fun zc4 => ?_) (fun zc4 => ?_)
          · exfalso; apply hq; refine ⟨⟨?_, ?_, ?_⟩, ?_⟩ <;> simp_all [hy_b]
          · refine hy_const (i := 24) rfl (by decide) ?_
            refine hy_ireturn (i := 25) rfl rfl ?_
            exact ⟨rfl, hy_F.rf⟩
        · refine hy_const (i := 11) rfl (by decide) ?_
          refine hy_ireturn (i := 12) rfl rfl ?_
          exact ⟨rfl, hy_F.rf⟩
theorem k17y {a b c : Int} (k : cK t) : hy_Ct sc hm_W_gain 6 [.inr (some 2), .inl a, .inl b, .inl c] t (fun r t' => cQ pX t r t' ∧ r = some (wf_gain t a b c)) := (c_W_gain_x k.lc).mono (fun r t' q => ⟨⟨⟨_, q.1⟩, cK_F q.2 (fun r j q => by revert q; simp only [ckX, ckT, lawX, ckN, ckS, ckP, pX, Bool.or_eq_true, Bool.and_eq_true, beq_iff_eq, Bool.or_eq_false_iff, Bool.and_eq_false_iff, beq_eq_false_iff_ne]; omega) k, q.2⟩, q.1⟩)
end GX
