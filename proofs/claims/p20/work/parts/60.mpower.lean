/-! the model: power, battles -/
theorem mw_ord_p : ∀ n : Nat, n < 13 → 0 < mw_ord n ∧ mw_ord n ≤ 479001600 := by decide +kernel
def mw_plainB (t : hy_T) (cs : Int) : Nat → Bool
  | 0 => true
  | n + 1 => mw_plainB t cs n && (!hz_b cs n || mf_plain t n)
theorem mw_plainB_le (t : hy_T) (cs : Int) : ∀ (n k : Nat), k ≤ n → mw_plainB t cs k = false → mw_plainB t cs n = false
  | 0, k, h, hf => by obtain rfl : k = 0 := (by omega); exact hf
  | n + 1, k, h, hf => by
    by_cases hk : k = n + 1
    · rw [← hk]; exact hf
    · simp only [mw_plainB, mw_plainB_le t cs n k (by omega) hf, Bool.false_and]
theorem ww_back {t t1 u : hy_T} {g e q : Int} (hF : hy_F pwX t t1) (ha : as_of t t1) (h2 : hy_F mvX (mw_grpN t1 g e q 12) u) : hy_F pwX t (mf_again u) ∧ as_of t (mf_again u) := by
  have h1 := mw_grpN_F t1 g e q 12 (by omega)
  have hu : as_of t u := as_of_F h2 (fun r j h => by revert h; simp [mfaX, mvX]; omega) (as_of_F h1 (fun r j h => by revert h; simp [mfaX, hvX]; omega) ha)
  refine ⟨again_back hu (fun r j hX hs => ?_), as_of_F (again_F u) (fun r j h => by revert h; simp [mfaX, stX]; omega) hu⟩
  rw [h2 r j (by revert hX; simp [pwX, mvX]), h1 r j (by revert hs; simp [stX, hvX]; omega)]
  exact hF r j hX
theorem pwX_law : ∀ r j, mlawX r j = true → pwX r j = false := meq_law (mwX_meq pwX_mw)
abbrev mw_pwc (t : hy_T) (cs c e q w : Int) : Prop := ((1 ≤ cs ∧ cs ≤ 4095) ∧ mf_bitsN cs 12 ≤ 5) ∧ ((0 ≤ c ∧ c ≤ 11) ∧ hz_b cs c = true) ∧ (0 ≤ e ∧ e < 6) ∧ (0 ≤ q ∧ q < 4) ∧ (0 ≤ w ∧ w ≤ 1) ∧ mw_plainB t cs 12 = true
section MP
variable {sc : List Int32} {t : hy_T}
theorem c_M_power {cs c e q w : Int} (hk : ml_ok t) : hy_Ct sc hm_M_power 8 [.inr (some 59), .inl cs, .inl c, .inl e, .inl q, .inl w] t (fun r t' => r = some (if mw_pwc t cs c e q w then mw_pow t cs c e q w else -1000000000) ∧ hy_F pwX t t') := by
  refine hy_mk_ct ok_M_power ck_M_power (Nat.le_of_ble_eq_true rfl) ?_
  have hbi := mf_bitsN_in cs 12
  have fin : ∀ (t1 : hy_T) (v8 : hy_V), hy_F pwX t t1 → (0 ≤ w ∧ w ≤ 1) → hy_W sc hm_M_power 8 103 [.inr (some 59), .inl cs, .inl c, .inl e, .inl q, .inl w, .inl (mf_bitsN cs 12), .inl (mw_powN t cs c e q 4096), v8] [] t1 (fun r t' => r = some (mw_pow t cs c e q w) ∧ hy_F pwX t t') := by
    intro t1 v8 hF hw
    have ho := mw_ord_p (mf_bitsN cs 12).toNat (by omega)
    rw [show (((mf_bitsN cs 12).toNat : Nat) : Int) = mf_bitsN cs 12 by omega] at ho
    have hoR : hy_R (mw_ord (mf_bitsN cs 12)) := ⟨by omega, by omega⟩
    have hg := mg_gcd_ne (mw_powN_R t cs c e q 4096) hoR (by omega)
    refine hy_iload (i := 103) rfl rfl ?_
    refine hy_iload (i := 104) rfl rfl ?_
    refine hy_cS1e (i := 105) rfl (by decide) mj_M_orders (by decide) rfl (Nat.le_of_ble_eq_true rfl) (c_M_orders (by omega)) ?_
    refine hy_cS2e (i := 106) rfl (by decide) mj_M_gcd (by decide) rfl (Nat.le_of_ble_eq_true rfl) (c_M_gcd (by omega) hoR) ?_
    refine hy_istore (i := 107) rfl ?_
    refine hy_iload (i := 108) rfl rfl ?_
    refine hy_if_ne (i := 109) (tt := 114) rfl (fun zc1 => ?_) (fun zc1 => ?_)
    · refine hy_iload (i := 114) rfl rfl ?_
      refine hy_cS1e (i := 115) rfl (by decide) mj_M_orders (by decide) rfl (Nat.le_of_ble_eq_true rfl) (c_M_orders (by omega)) ?_
      refine hy_iload (i := 116) rfl rfl ?_
      refine hy_idivw (i := 117) rfl hg ?_
      refine hy_ireturn (i := 118) rfl rfl ?_
      refine ⟨congrArg some ?_, hF⟩
      unfold mw_pow
      first | (rw [if_pos (by assumption)]; done) | (rw [if_neg (by assumption)]; done)
    · refine hy_iload (i := 110) rfl rfl ?_
      refine hy_iload (i := 111) rfl rfl ?_
      refine hy_idivw (i := 112) rfl hg ?_
      refine hy_goto (i := 113) (tt := 118) rfl ?_
      refine hy_ireturn (i := 118) rfl rfl ?_
      refine ⟨congrArg some ?_, hF⟩
      unfold mw_pow
      first | (rw [if_pos (by assumption)]; done) | (rw [if_neg (by assumption)]; done)
  have loop : (0 ≤ w ∧ w ≤ 1) → (0 ≤ q ∧ q < 4) → ∀ (m : Nat), ∀ (k : Nat) (t1 : hy_T), m + k = 4096 → hy_F pwX t t1 → as_of t t1 → hy_W sc hm_M_power 8 57 [.inr (some 59), .inl cs, .inl c, .inl e, .inl q, .inl w, .inl (mf_bitsN cs 12), .inl (mw_powN t cs c e q k), .inl (k : Int)] [] t1 (fun r t' => r = some (mw_pow t cs c e q w) ∧ hy_F pwX t t') := by
    intro hw hq m
    induction m with
    | zero =>
      intro k t1 hm hF ha
      obtain rfl : k = 4096 := by omega
      refine hy_iload (i := 57) rfl rfl ?_
      refine hy_const (i := 58) rfl (by decide) ?_
      refine hy_ic_ge (i := 59) (tt := 103) rfl (fun zc1 => ?_) (fun zc1 => ?_)
      · exact fin t1 _ hF hw
      · omega
    | succ m ih =>
      intro k t1 hm hF ha
      have hbk := mf_bitsN_in (k : Int) 12
      have hk1 := ml_ok_F hF pwX_law hk
      have ih' := ih (k + 1)
      by_cases hc : hz_iand (k : Int) (hz_ixor cs (-1)) = 0 ∧ hz_b (k : Int) c = false
      · have e1 : mw_powN t cs c e q (k + 1) = w32 (mw_powN t cs c e q k + w32 (w32 (mw_ord (mf_bitsN k 12) * mw_ord (mf_bitsN cs 12 - 1 - mf_bitsN k 12)) * w32 (mw_grp t (hz_ior k (hz_ishl 1 c)) e q - mw_grp t k e q))) := by simp only [mw_powN]; rw [if_pos hc]
        rw [e1] at ih'
        refine hy_iload (i := 57) rfl rfl ?_
        refine hy_const (i := 58) rfl (by decide) ?_
        refine hy_ic_ge (i := 59) (tt := 103) rfl (fun zc1 => ?_) (fun zc1 => ?_)
        · omega
        · refine hy_iload (i := 60) rfl rfl ?_
          refine hy_iload (i := 61) rfl rfl ?_
          refine hy_const (i := 62) rfl (by decide) ?_
          refine hy_ixor (i := 63) rfl ?_
          refine hy_iand (i := 64) rfl ?_
          refine hy_if_ne (i := 65) (tt := 101) rfl (fun zc2 => ?_) (fun zc2 => ?_)
          · exact absurd hc.1 (by assumption)
          · refine hy_iload (i := 66) rfl rfl ?_
            refine hy_iload (i := 67) rfl rfl ?_
            refine hy_cS2e (i := 68) rfl (by decide) mj_M_has (by decide) rfl (Nat.le_of_ble_eq_true rfl) (c_M_has) ?_
            refine hy_ib_eq (i := 69) (tt := 71) rfl (fun zc3 => ?_) (fun zc3 => ?_)
            · refine hy_iload (i := 71) rfl rfl ?_
              refine hy_iload (i := 72) rfl rfl ?_
              refine hy_cS1e (i := 73) rfl (by decide) mj_M_bits (by decide) rfl (Nat.le_of_ble_eq_true rfl) (c_M_bits) ?_
              refine hy_cS1e (i := 74) rfl (by decide) mj_M_orders (by decide) rfl (Nat.le_of_ble_eq_true rfl) (c_M_orders (by omega)) ?_
              refine hy_iload (i := 75) rfl rfl ?_
              refine hy_const (i := 76) rfl (by decide) ?_
              refine hy_isub (i := 77) rfl (by omega) ?_
              refine hy_iload (i := 78) rfl rfl ?_
              refine hy_cS1e (i := 79) rfl (by decide) mj_M_bits (by decide) rfl (Nat.le_of_ble_eq_true rfl) (c_M_bits) ?_
              refine hy_isub (i := 80) rfl (by omega) ?_
              refine hy_cS1e (i := 81) rfl (by decide) mj_M_orders (by decide) rfl (Nat.le_of_ble_eq_true rfl) (c_M_orders (by omega)) ?_
              refine hy_imulw (i := 82) rfl ?_
              refine hy_aload (i := 83) rfl rfl ?_
              refine hy_iload (i := 84) rfl rfl ?_
              refine hy_const (i := 85) rfl (by decide) ?_
              refine hy_iload (i := 86) rfl rfl ?_
              refine hy_ishl (i := 87) rfl ?_
              refine hy_ior (i := 88) rfl ?_
              refine hy_iload (i := 89) rfl rfl ?_
              refine hy_iload (i := 90) rfl rfl ?_
              refine hy_cV3 (i := 91) rfl mj_M_worthWith (by decide) rfl (Nat.le_of_ble_eq_true rfl) rfl rfl rfl (c_M_worthWith (by assumption) (by omega)) (fun r6_ t6_ h6 => ?_)
              obtain ⟨u6, rfl, hF6, rfl⟩ := h6
              dsimp only [hy_st, List.cons_append, List.nil_append]
              rw [mw_grp_F hF]
              obtain ⟨hB, hA⟩ := ww_back hF ha (show hy_F mvX _ _ by assumption)
              have hk2 := ml_ok_F hB pwX_law hk
              refine hy_aload (i := 92) rfl rfl ?_
              refine hy_iload (i := 93) rfl rfl ?_
              refine hy_iload (i := 94) rfl rfl ?_
              refine hy_iload (i := 95) rfl rfl ?_
              refine hy_cV3 (i := 96) rfl mj_M_worthWith (by decide) rfl (Nat.le_of_ble_eq_true rfl) rfl rfl rfl (c_M_worthWith hk2 (by omega)) (fun r7_ t7_ h7 => ?_)
              obtain ⟨u7, rfl, hF7, rfl⟩ := h7
              dsimp only [hy_st, List.cons_append, List.nil_append]
              rw [mw_grp_F hB]
              obtain ⟨hB2, hA2⟩ := ww_back hB hA hF7
              refine hy_isubw (i := 97) rfl ?_
              refine hy_imulw (i := 98) rfl ?_
              refine hy_iaddw (i := 99) rfl ?_
              refine hy_istore (i := 100) rfl ?_
              refine hy_iinc (i := 101) rfl rfl (by omega) ?_
              refine hy_goto (i := 102) (tt := 57) rfl ?_
              exact ih' _ (by omega) hB2 hA2
            · exact bb_abs (by assumption) hc.2
      · have e1 : mw_powN t cs c e q (k + 1) = mw_powN t cs c e q k := by simp only [mw_powN]; rw [if_neg hc]
        rw [e1] at ih'
        refine hy_iload (i := 57) rfl rfl ?_
        refine hy_const (i := 58) rfl (by decide) ?_
        refine hy_ic_ge (i := 59) (tt := 103) rfl (fun zc1 => ?_) (fun zc1 => ?_)
        · omega
        · refine hy_iload (i := 60) rfl rfl ?_
          refine hy_iload (i := 61) rfl rfl ?_
          refine hy_const (i := 62) rfl (by decide) ?_
          refine hy_ixor (i := 63) rfl ?_
          refine hy_iand (i := 64) rfl ?_
          refine hy_if_ne (i := 65) (tt := 101) rfl (fun zc2 => ?_) (fun zc2 => ?_)
          · refine hy_iinc (i := 101) rfl rfl (by omega) ?_
            refine hy_goto (i := 102) (tt := 57) rfl ?_
            exact ih' _ (by omega) hF ha
          · refine hy_iload (i := 66) rfl rfl ?_
            refine hy_iload (i := 67) rfl rfl ?_
            refine hy_cS2e (i := 68) rfl (by decide) mj_M_has (by decide) rfl (Nat.le_of_ble_eq_true rfl) (c_M_has) ?_
            refine hy_ib_eq (i := 69) (tt := 71) rfl (fun zc3 => ?_) (fun zc3 => ?_)
            · exact absurd ⟨by assumption, by assumption⟩ hc
            · refine hy_goto (i := 70) (tt := 101) rfl ?_
              refine hy_iinc (i := 101) rfl rfl (by omega) ?_
              refine hy_goto (i := 102) (tt := 57) rfl ?_
              exact ih' _ (by omega) hF ha
  have rest : (((1 ≤ cs ∧ cs ≤ 4095) ∧ mf_bitsN cs 12 ≤ 5) ∧ ((0 ≤ c ∧ c ≤ 11) ∧ hz_b cs c = true) ∧ (0 ≤ e ∧ e < 6) ∧ (0 ≤ q ∧ q < 4) ∧ (0 ≤ w ∧ w ≤ 1)) → ∀ (m : Nat), ∀ (k : Nat) (v7 v8 : hy_V), m + k = 12 → mw_plainB t cs k = true → hy_W sc hm_M_power 8 33 [.inr (some 59), .inl cs, .inl c, .inl e, .inl q, .inl w, .inl (k : Int), v7, v8] [] t (fun r t' => r = some (if mw_pwc t cs c e q w then mw_pow t cs c e q w else -1000000000) ∧ hy_F pwX t t') := by
    intro hc m
    induction m with
    | zero =>
      intro k v7 v8 hm hp
      obtain rfl : k = 12 := by omega
      rw [if_pos ⟨hc.1, hc.2.1, hc.2.2.1, hc.2.2.2.1, hc.2.2.2.2, hp⟩]
      obtain ⟨ha, hF⟩ := begins_as t
      refine hy_iload (i := 33) rfl rfl ?_
      refine hy_const (i := 34) rfl (by decide) ?_
      refine hy_ic_ge (i := 35) (tt := 48) rfl (fun zc1 => ?_) (fun zc1 => ?_)
      · refine hy_aload (i := 48) rfl rfl ?_
        refine hy_cV0v (i := 49) rfl mj_M_begins (by decide) rfl (Nat.le_of_ble_eq_true rfl) rfl rfl rfl (c_M_begins) ?_
        refine hy_iload (i := 50) rfl rfl ?_
        refine hy_cS1e (i := 51) rfl (by decide) mj_M_bits (by decide) rfl (Nat.le_of_ble_eq_true rfl) (c_M_bits) ?_
        refine hy_istore (i := 52) rfl ?_
        refine hy_const (i := 53) rfl (by decide) ?_
        refine hy_istore (i := 54) rfl ?_
        refine hy_const (i := 55) rfl (by decide) ?_
        refine hy_istore (i := 56) rfl ?_
        exact loop hc.2.2.2.2 hc.2.2.2.1 4096 0 _ rfl (hF.w (fun r j q => by revert q; simp [pwX, mfaX, mvX]; omega)) ha
      · omega
    | succ m ih =>
      intro k v7 v8 hm hp
      have e1 : mw_plainB t cs (k + 1) = (!hz_b cs k || mf_plain t k) := by simp only [mw_plainB]; rw [hp, Bool.true_and]
      refine hy_iload (i := 33) rfl rfl ?_
      refine hy_const (i := 34) rfl (by decide) ?_
      refine hy_ic_ge (i := 35) (tt := 48) rfl (fun zc1 => ?_) (fun zc1 => ?_)
      · omega
      · refine hy_iload (i := 36) rfl rfl ?_
        refine hy_iload (i := 37) rfl rfl ?_
        refine hy_cS2e (i := 38) rfl (by decide) mj_M_has (by decide) rfl (Nat.le_of_ble_eq_true rfl) (c_M_has) ?_
        refine hy_ib_eq (i := 39) (tt := 46) rfl (fun zc2 => ?_) (fun zc2 => ?_)
        · refine hy_iinc (i := 46) rfl rfl (by omega) ?_
          refine hy_goto (i := 47) (tt := 33) rfl ?_
          exact ih (k + 1) _ _ (by omega) (by rw [e1]; first | (rw [show hz_b cs k = false by assumption]; rfl) | (rw [show mf_plain t k = true by assumption]; cases hz_b cs k <;> rfl))
        · refine hy_aload (i := 40) rfl rfl ?_
          refine hy_iload (i := 41) rfl rfl ?_
          refine hy_cV1e (i := 42) rfl mj_M_isPlain (by decide) rfl (Nat.le_of_ble_eq_true rfl) rfl rfl rfl (c_M_isPlain) ?_
          refine hy_ib_ne (i := 43) (tt := 46) rfl (fun zc3 => ?_) (fun zc3 => ?_)
          · refine hy_iinc (i := 46) rfl rfl (by omega) ?_
            refine hy_goto (i := 47) (tt := 33) rfl ?_
            exact ih (k + 1) _ _ (by omega) (by rw [e1]; first | (rw [show hz_b cs k = false by assumption]; rfl) | (rw [show mf_plain t k = true by assumption]; cases hz_b cs k <;> rfl))
          · refine hy_const (i := 44) rfl (by decide) ?_
            refine hy_ireturn (i := 45) rfl rfl ?_
            have e2 : mw_plainB t cs 12 = false := mw_plainB_le t cs 12 (k + 1) (by omega) (by rw [e1, show hz_b cs k = true by assumption, show mf_plain t k = false by assumption]; rfl)
            exact ⟨by rw [if_neg (fun h => bb_abs h.2.2.2.2.2 e2)], hy_F.rf⟩
  by_cases hq : ((1 ≤ cs ∧ cs ≤ 4095) ∧ mf_bitsN cs 12 ≤ 5) ∧ ((0 ≤ c ∧ c ≤ 11) ∧ hz_b cs c = true) ∧ (0 ≤ e ∧ e < 6) ∧ (0 ≤ q ∧ q < 4) ∧ (0 ≤ w ∧ w ≤ 1)
  · skip
    refine hy_iload (i := 0) rfl rfl ?_
    refine hy_const (i := 1) rfl (by decide) ?_
    refine hy_const (i := 2) rfl (by decide) ?_
    refine hy_cS3e (i := 3) rfl (by decide) mj_M_in (by decide) rfl (Nat.le_of_ble_eq_true rfl) (c_M_in) ?_
    refine hy_ib_eq (i := 4) (tt := 29) rfl (fun zc1 => ?_) (fun zc1 => ?_)
    · simp only [decide_eq_false_iff_not] at zc1; omega
    · refine hy_iload (i := 5) rfl rfl ?_
      refine hy_cS1e (i := 6) rfl (by decide) mj_M_bits (by decide) rfl (Nat.le_of_ble_eq_true rfl) (c_M_bits) ?_
      refine hy_const (i := 7) rfl (by decide) ?_
      refine hy_ic_gt (i := 8) (tt := 29) rfl (fun zc2 => ?_) (fun zc2 => ?_)
      · omega
      · refine hy_iload (i := 9) rfl rfl ?_
        refine hy_const (i := 10) rfl (by decide) ?_
        refine hy_const (i := 11) rfl (by decide) ?_
        refine hy_cS3e (i := 12) rfl (by decide) mj_M_in (by decide) rfl (Nat.le_of_ble_eq_true rfl) (c_M_in) ?_
        refine hy_ib_eq (i := 13) (tt := 29) rfl (fun zc3 => ?_) (fun zc3 => ?_)
        · simp only [decide_eq_false_iff_not] at zc3; omega
        · refine hy_iload (i := 14) rfl rfl ?_
          refine hy_iload (i := 15) rfl rfl ?_
          refine hy_cS2e (i := 16) rfl (by decide) mj_M_has (by decide) rfl (Nat.le_of_ble_eq_true rfl) (c_M_has) ?_
          refine hy_ib_eq (i := 17) (tt := 29) rfl (fun zc4 => ?_) (fun zc4 => ?_)
          · exact bb_abs hq.2.1.2 (by assumption)
          · refine hy_iload (i := 18) rfl rfl ?_
            refine hy_cS1e (i := 19) rfl (by decide) mj_M_isEmpire (by decide) rfl (Nat.le_of_ble_eq_true rfl) (c_M_isEmpire) ?_
            refine hy_ib_eq (i := 20) (tt := 29) rfl (fun zc5 => ?_) (fun zc5 => ?_)
            · simp only [decide_eq_false_iff_not] at zc5; omega
            · refine hy_iload (i := 21) rfl rfl ?_
              refine hy_cS1e (i := 22) rfl (by decide) mj_M_isQuarter (by decide) rfl (Nat.le_of_ble_eq_true rfl) (c_M_isQuarter) ?_
              refine hy_ib_eq (i := 23) (tt := 29) rfl (fun zc6 => ?_) (fun zc6 => ?_)
              · simp only [decide_eq_false_iff_not] at zc6; omega
              · refine hy_iload (i := 24) rfl rfl ?_
                refine hy_const (i := 25) rfl (by decide) ?_
                refine hy_const (i := 26) rfl (by decide) ?_
                refine hy_cS3e (i := 27) rfl (by decide) mj_M_in (by decide) rfl (Nat.le_of_ble_eq_true rfl) (c_M_in) ?_
                refine hy_ib_ne (i := 28) (tt := 31) rfl (fun zc7 => ?_) (fun zc7 => ?_)
                · refine hy_const (i := 31) rfl (by decide) ?_
                  refine hy_istore (i := 32) rfl ?_
                  exact rest hq 12 0 _ _ rfl rfl
                · simp only [decide_eq_false_iff_not] at zc7; omega
  · rw [if_neg (fun h => hq ⟨h.1, h.2.1, h.2.2.1, h.2.2.2.1, h.2.2.2.2.1⟩)]
    refine hy_iload (i := 0) rfl rfl ?_
    refine hy_const (i := 1) rfl (by decide) ?_
    refine hy_const (i := 2) rfl (by decide) ?_
    refine hy_cS3e (i := 3) rfl (by decide) mj_M_in (by decide) rfl (Nat.le_of_ble_eq_true rfl) (c_M_in) ?_
    refine hy_ib_eq (i := 4) (tt := 29) rfl (fun zc1 => ?_) (fun zc1 => ?_)
    · refine hy_const (i := 29) rfl (by decide) ?_
      refine hy_ireturn (i := 30) rfl rfl ?_
      exact ⟨rfl, hy_F.rf⟩
    · refine hy_iload (i := 5) rfl rfl ?_
      refine hy_cS1e (i := 6) rfl (by decide) mj_M_bits (by decide) rfl (Nat.le_of_ble_eq_true rfl) (c_M_bits) ?_
      refine hy_const (i := 7) rfl (by decide) ?_
      refine hy_ic_gt (i := 8) (tt := 29) rfl (fun zc2 => ?_) (fun zc2 => ?_)
      · refine hy_const (i := 29) rfl (by decide) ?_
        refine hy_ireturn (i := 30) rfl rfl ?_
        exact ⟨rfl, hy_F.rf⟩
      · refine hy_iload (i := 9) rfl rfl ?_
        refine hy_const (i := 10) rfl (by decide) ?_
        refine hy_const (i := 11) rfl (by decide) ?_
        refine hy_cS3e (i := 12) rfl (by decide) mj_M_in (by decide) rfl (Nat.le_of_ble_eq_true rfl) (c_M_in) ?_
        refine hy_ib_eq (i := 13) (tt := 29) rfl (fun zc3 => ?_) (fun zc3 => ?_)
        · refine hy_const (i := 29) rfl (by decide) ?_
          refine hy_ireturn (i := 30) rfl rfl ?_
          exact ⟨rfl, hy_F.rf⟩
        · refine hy_iload (i := 14) rfl rfl ?_
          refine hy_iload (i := 15) rfl rfl ?_
          refine hy_cS2e (i := 16) rfl (by decide) mj_M_has (by decide) rfl (Nat.le_of_ble_eq_true rfl) (c_M_has) ?_
          refine hy_ib_eq (i := 17) (tt := 29) rfl (fun zc4 => ?_) (fun zc4 => ?_)
          · refine hy_const (i := 29) rfl (by decide) ?_
            refine hy_ireturn (i := 30) rfl rfl ?_
            exact ⟨rfl, hy_F.rf⟩
          · refine hy_iload (i := 18) rfl rfl ?_
            refine hy_cS1e (i := 19) rfl (by decide) mj_M_isEmpire (by decide) rfl (Nat.le_of_ble_eq_true rfl) (c_M_isEmpire) ?_
            refine hy_ib_eq (i := 20) (tt := 29) rfl (fun zc5 => ?_) (fun zc5 => ?_)
            · refine hy_const (i := 29) rfl (by decide) ?_
              refine hy_ireturn (i := 30) rfl rfl ?_
              exact ⟨rfl, hy_F.rf⟩
            · refine hy_iload (i := 21) rfl rfl ?_
              refine hy_cS1e (i := 22) rfl (by decide) mj_M_isQuarter (by decide) rfl (Nat.le_of_ble_eq_true rfl) (c_M_isQuarter) ?_
              refine hy_ib_eq (i := 23) (tt := 29) rfl (fun zc6 => ?_) (fun zc6 => ?_)
              · refine hy_const (i := 29) rfl (by decide) ?_
                refine hy_ireturn (i := 30) rfl rfl ?_
                exact ⟨rfl, hy_F.rf⟩
              · refine hy_iload (i := 24) rfl rfl ?_
                refine hy_const (i := 25) rfl (by decide) ?_
                refine hy_const (i := 26) rfl (by decide) ?_
                refine hy_cS3e (i := 27) rfl (by decide) mj_M_in (by decide) rfl (Nat.le_of_ble_eq_true rfl) (c_M_in) ?_
                refine hy_ib_ne (i := 28) (tt := 31) rfl (fun zc7 => ?_) (fun zc7 => ?_)
                · exfalso; simp only [decide_eq_true_eq] at *; exact hq ⟨⟨by assumption, by omega⟩, ⟨by assumption, by assumption⟩, by assumption, by assumption, by assumption⟩
                · refine hy_const (i := 29) rfl (by decide) ?_
                  refine hy_ireturn (i := 30) rfl rfl ?_
                  exact ⟨rfl, hy_F.rf⟩
end MP
def mt_take (t : hy_T) (e o c q : Int) : Bool := mf_plain t c && (hz_b (t 62 (4 * c + q).toNat) o && !hz_b (t 62 (4 * c + q).toNat) e)
def mt_can (t : hy_T) (a b q : Int) (k : Nat) : Bool := mt_take t a b ((k : Int) / 12) q && mt_take t b a ((k : Int) % 12) q
def mt_set (t : hy_T) (a b q : Int) (k : Nat) : hy_T := mf_chN (mf_chN (mf_chN (mf_chN t ((k : Int) / 12) (hz_ishl 1 q) a 1 4) ((k : Int) / 12) (hz_ishl 1 q) b 0 4) ((k : Int) % 12) (hz_ishl 1 q) b 1 4) ((k : Int) % 12) (hz_ishl 1 q) a 0 4
abbrev btX : Nat → Nat → Bool := fun r j => pwX r j || r == 99 || r == 100 || r == 101
theorem btX_mw : ∀ r j, mwX r j = true → btX r j = false := fun r j h => by revert h; simp [mwX, meqX, mlawX, mvX, mfaX, pwX, btX]; omega
theorem btX_law : ∀ r j, mlawX r j = true → btX r j = false := meq_law (mwX_meq btX_mw)
theorem mt_take_F {X : Nat → Nat → Bool} {t t1 : hy_T} (h : hy_F X t t1) (hX : ∀ r j, mwX r j = true → X r j = false) (e o c q : Int) : mt_take t1 e o c q = mt_take t e o c q := by
  unfold mt_take mf_plain
  rw [h 59 0 (hX 59 0 rfl), h 60 _ (hX 60 _ rfl), h 62 _ (hX 62 _ rfl)]
theorem mt_set_F (t : hy_T) (a b q : Int) {k : Nat} (hk : k < 144) : hy_F hvX t (mt_set t a b q k) := by
  have h1 : 0 ≤ (k : Int) / 12 ∧ (k : Int) / 12 < 12 := by omega
  have h2 : 0 ≤ (k : Int) % 12 ∧ (k : Int) % 12 < 12 := by omega
  exact (((mf_chN_F h1 _ 4 (by omega)).tr' (mf_chN_F h1 _ 4 (by omega))).tr' (mf_chN_F h2 _ 4 (by omega))).tr' (mf_chN_F h2 _ 4 (by omega))
theorem mt_set_G {X : Nat → Nat → Bool} {t t1 : hy_T} (h : hy_F X t t1) (hX : ∀ j, X 62 j = false) (a b q : Int) (k : Nat) : hy_F X (mt_set t a b q k) (mt_set t1 a b q k) :=
  mf_chN_G (mf_chN_G (mf_chN_G (mf_chN_G h hX _ _ _ _ 4) hX _ _ _ _ 4) hX _ _ _ _ 4) hX _ _ _ _ 4
/-- the rows of battles are laid up to n -/
def mt_laid (t : hy_T) (a b q : Int) (n : Nat) (t1 : hy_T) : Prop := ∀ k : Nat, k < n → t1 101 k = hy_b (mt_can t a b q k) ∧ (mt_can t a b q k = true → t1 99 k = mw_worth (mt_set t a b q k) a q ∧ t1 100 k = mw_worth (mt_set t a b q k) b q)
theorem mt_laid_up {t t1 : hy_T} {a b q : Int} {n : Nat} (h : mt_laid t a b q n t1) {t2 : hy_T} (h2 : ∀ k : Nat, k < n → t2 101 k = t1 101 k ∧ t2 99 k = t1 99 k ∧ t2 100 k = t1 100 k) : mt_laid t a b q n t2 := fun k hk => by
  obtain ⟨e1, e2, e3⟩ := h2 k hk
  rw [e1, e2, e3]
  exact h k hk
theorem mt_laid_s {t t1 : hy_T} {a b q : Int} {n : Nat} (h : mt_laid t a b q n t1) (h1 : t1 101 n = hy_b (mt_can t a b q n)) (h2 : mt_can t a b q n = true → t1 99 n = mw_worth (mt_set t a b q n) a q ∧ t1 100 n = mw_worth (mt_set t a b q n) b q) : mt_laid t a b q (n + 1) t1 := fun k hk => by
  rcases Nat.lt_succ_iff_lt_or_eq.mp hk with hk | rfl
  · exact h k hk
  · exact ⟨h1, h2⟩
def mt_restN (C A B : Nat → Int) (k : Nat) : Nat → Bool
  | 0 => true
  | n + 1 => mt_restN C A B k n && (!(decide (C (12 * n + k % 12) ≠ 0) && decide (A k < A (12 * n + k % 12))) && !(decide (C (k / 12 * 12 + n) ≠ 0) && decide (B k < B (k / 12 * 12 + n))))
theorem mt_restN_le (C A B : Nat → Int) (k : Nat) : ∀ (n m : Nat), m ≤ n → mt_restN C A B k m = false → mt_restN C A B k n = false
  | 0, m, h, hf => by obtain rfl : m = 0 := (by omega); exact hf
  | n + 1, m, h, hf => by
    by_cases hm : m = n + 1
    · rw [← hm]; exact hf
    · simp only [mt_restN, mt_restN_le C A B k n m (by omega) hf, Bool.false_and]
def mt_btN (C A B : Nat → Int) : Nat → Int × Int
  | 0 => (0, -1)
  | n + 1 => if C n ≠ 0 ∧ mt_restN C A B n 12 = true then ((mt_btN C A B n).1 + 1, if (mt_btN C A B n).2 = -1 then (n : Int) else (mt_btN C A B n).2) else mt_btN C A B n
theorem mt_btN_in (C A B : Nat → Int) : ∀ n : Nat, (0 ≤ (mt_btN C A B n).1 ∧ (mt_btN C A B n).1 ≤ n) ∧ -1 ≤ (mt_btN C A B n).2 ∧ (mt_btN C A B n).2 ≤ n
  | 0 => by simp [mt_btN]
  | n + 1 => by
    have h := mt_btN_in C A B n
    simp only [mt_btN]
    split
    · dsimp only
      split <;> omega
    · omega
def mt_btA (p : Int × Int) (w : Int) : Int := if w = 0 then p.1 else if p.2 = -1 then -2 else if w = 1 then p.2 / 12 else p.2 % 12
abbrev mt_btc (a b q w : Int) : Prop := (0 ≤ a ∧ a < 6) ∧ (0 ≤ b ∧ b < 6) ∧ a ≠ b ∧ (0 ≤ q ∧ q < 4) ∧ 0 ≤ w ∧ w ≤ 2
section MT
variable {sc : List Int32} {t : hy_T}
theorem c_M_canTake {e o c q : Int} (hq : 0 ≤ q ∧ q < 4) : hy_Ct sc hm_M_canTake 3 [.inr (some 59), .inl e, .inl o, .inl c, .inl q] t (hy_e (some (hy_b (mt_take t e o c q))) t) := by
  refine hy_mk_ct ok_M_canTake ck_M_canTake (Nat.le_of_ble_eq_true rfl) ?_
  refine hy_aload (i := 0) rfl rfl ?_
  refine hy_iload (i := 1) rfl rfl ?_
  refine hy_cV1e (i := 2) rfl mj_M_isPlain (by decide) rfl (Nat.le_of_ble_eq_true rfl) rfl rfl rfl (c_M_isPlain) ?_
  refine hy_ib_eq (i := 3) (tt := 28) rfl (fun zc1 => ?_) (fun zc1 => ?_)
  · refine hy_const (i := 28) rfl (by decide) ?_
    refine hy_zreturn (i := 29) rfl rfl (by first | decide | exact hy_b01 _) ?_
    refine ⟨congrArg some ?_, rfl⟩
    unfold mt_take mf_plain
    first | (rw [zc1, zc2, zc3]; rfl) | (rw [zc1, zc2]; rfl) | (rw [zc1]; rfl)
  · refine hy_aload (i := 4) rfl rfl ?_
    refine hy_getr (i := 5) rfl rfl ?_
    refine hy_const (i := 6) rfl (by decide) ?_
    refine hy_iload (i := 7) rfl rfl ?_
    refine hy_imul (i := 8) rfl (by have hc := sp_told_in (Bool.and_eq_true _ _ ▸ zc1).1; omega) ?_
    refine hy_iload (i := 9) rfl rfl ?_
    refine hy_iadd (i := 10) rfl (by have hc := sp_told_in (Bool.and_eq_true _ _ ▸ zc1).1; omega) ?_
    refine hy_iald (i := 11) rfl rfl (by have hc := sp_told_in (Bool.and_eq_true _ _ ▸ zc1).1; omega) rfl ?_
    refine hy_iload (i := 12) rfl rfl ?_
    refine hy_cS2e (i := 13) rfl (by decide) mj_M_has (by decide) rfl (Nat.le_of_ble_eq_true rfl) (c_M_has) ?_
    refine hy_ib_eq (i := 14) (tt := 28) rfl (fun zc2 => ?_) (fun zc2 => ?_)
    · refine hy_const (i := 28) rfl (by decide) ?_
      refine hy_zreturn (i := 29) rfl rfl (by first | decide | exact hy_b01 _) ?_
      refine ⟨congrArg some ?_, rfl⟩
      unfold mt_take mf_plain
      first | (rw [zc1, zc2, zc3]; rfl) | (rw [zc1, zc2]; rfl) | (rw [zc1]; rfl)
    · refine hy_aload (i := 15) rfl rfl ?_
      refine hy_getr (i := 16) rfl rfl ?_
      refine hy_const (i := 17) rfl (by decide) ?_
      refine hy_iload (i := 18) rfl rfl ?_
      refine hy_imul (i := 19) rfl (by have hc := sp_told_in (Bool.and_eq_true _ _ ▸ zc1).1; omega) ?_
      refine hy_iload (i := 20) rfl rfl ?_
      refine hy_iadd (i := 21) rfl (by have hc := sp_told_in (Bool.and_eq_true _ _ ▸ zc1).1; omega) ?_
      refine hy_iald (i := 22) rfl rfl (by have hc := sp_told_in (Bool.and_eq_true _ _ ▸ zc1).1; omega) rfl ?_
      refine hy_iload (i := 23) rfl rfl ?_
      refine hy_cS2e (i := 24) rfl (by decide) mj_M_has (by decide) rfl (Nat.le_of_ble_eq_true rfl) (c_M_has) ?_
      refine hy_ib_ne (i := 25) (tt := 28) rfl (fun zc3 => ?_) (fun zc3 => ?_)
      · refine hy_const (i := 28) rfl (by decide) ?_
        refine hy_zreturn (i := 29) rfl rfl (by first | decide | exact hy_b01 _) ?_
        refine ⟨congrArg some ?_, rfl⟩
        unfold mt_take mf_plain
        first | (rw [zc1, zc2, zc3]; rfl) | (rw [zc1, zc2]; rfl) | (rw [zc1]; rfl)
      · refine hy_const (i := 26) rfl (by decide) ?_
        refine hy_goto (i := 27) (tt := 29) rfl ?_
        refine hy_zreturn (i := 29) rfl rfl (by first | decide | exact hy_b01 _) ?_
        refine ⟨congrArg some ?_, rfl⟩
        unfold mt_take mf_plain
        first | (rw [zc1, zc2, zc3]; rfl) | (rw [zc1, zc2]; rfl) | (rw [zc1]; rfl)
theorem c_M_laysFights {a b q : Int} (hk : ml_ok t) (hq : 0 ≤ q ∧ q < 4) : hy_Ct sc hm_M_laysFights 7 [.inr (some 59), .inl a, .inl b, .inl q] t (fun r t' => r = none ∧ hy_F btX t t' ∧ mt_laid t a b q 144 t') := by
  refine hy_mk_ct ok_M_laysFights ck_M_laysFights (Nat.le_of_ble_eq_true rfl) ?_
  have loop : ∀ (m : Nat), ∀ (k : Nat) (t1 : hy_T) (v5 v6 : hy_V), m + k = 144 → hy_F btX t t1 → as_of t t1 → mt_laid t a b q k t1 → hy_W sc hm_M_laysFights 7 4 [.inr (some 59), .inl a, .inl b, .inl q, .inl (k : Int), v5, v6] [] t1 (fun r t' => r = none ∧ hy_F btX t t' ∧ mt_laid t a b q 144 t') := by
    intro m
    induction m with
    | zero =>
      intro k t1 v5 v6 hm hF ha hl
      obtain rfl : k = 144 := by omega
      refine hy_iload (i := 4) rfl rfl ?_
      refine hy_const (i := 5) rfl (by decide) ?_
      refine hy_ic_ge (i := 6) (tt := 94) rfl (fun zc1 => ?_) (fun zc1 => ?_)
      · refine hy_return (i := 94) rfl rfl ?_
        exact ⟨rfl, hF, hl⟩
      · omega
    | succ m ih =>
      intro k t1 v5 v6 hm hF ha hl
      have c1 := mt_take_F hF btX_mw a b ((k : Int) / 12) q
      have c2 := mt_take_F hF btX_mw b a ((k : Int) % 12) q
      by_cases hc : mt_can t a b q k = true
      · have hc2 := hc
        simp only [mt_can, Bool.and_eq_true] at hc2
        have hF1 : hy_F btX t (hy_up t1 101 k 1) := hF.up rfl
        have hS := mt_set_F (hy_up t1 101 k 1) a b q (k := k) (by omega)
        have hG := mt_set_G hF1 (fun _ => rfl) a b q k
        have hkS := ml_ok_F hS hvX_law (ml_ok_F hF1 btX_law hk)
        have back : ∀ (u3 u4 : hy_T), hy_F mvX (mt_set (hy_up t1 101 k 1) a b q k) u3 → hy_F mvX (hy_up u3 99 k (mw_worth (mt_set t a b q k) a q)) u4 → hy_F btX t (mf_again (hy_up u4 100 k (mw_worth (mt_set t a b q k) b q))) ∧ as_of t (mf_again (hy_up u4 100 k (mw_worth (mt_set t a b q k) b q))) ∧ mt_laid t a b q (k + 1) (mf_again (hy_up u4 100 k (mw_worth (mt_set t a b q k) b q))) := by
          intro u3 u4 h3 h4
          have e : ∀ r j, stX r j = false → (r ≠ 77 ∧ r ≠ 78) → hy_up u4 100 k (mw_worth (mt_set t a b q k) b q) r j = hy_up (hy_up (hy_up t1 101 k 1) 99 k (mw_worth (mt_set t a b q k) a q)) 100 k (mw_worth (mt_set t a b q k) b q) r j := by
            intro r j hs hr
            simp only [hy_up]
            by_cases g1 : r = 100 ∧ j = k
            · rw [if_pos g1, if_pos g1]
            · rw [if_neg g1, if_neg g1, h4 r j (by simp [mvX]; omega)]
              simp only [hy_up]
              by_cases g2 : r = 99 ∧ j = k
              · rw [if_pos g2, if_pos g2]
              · rw [if_neg g2, if_neg g2, h3 r j (by simp [mvX]; omega), hS r j (by revert hs; simp [stX, hvX]; omega)]
                rfl
          have hu : as_of t (hy_up u4 100 k (mw_worth (mt_set t a b q k) b q)) := by
            obtain ⟨a1, a2, a3, a4, a5⟩ := ha
            exact ⟨fun j hj => by rw [e 91 j rfl (by decide), hy_up_ne (by decide), hy_up_ne (by decide), hy_up_ne (by decide)]; exact a1 j hj, fun i hi j hj => by rw [e 92 _ rfl (by decide), hy_up_ne (by decide), hy_up_ne (by decide), hy_up_ne (by decide)]; exact a2 i hi j hj, by rw [e 59 51 rfl (by decide), hy_up_ne (by decide), hy_up_ne (by decide), hy_up_ne (by decide)]; exact a3, by rw [e 59 52 rfl (by decide), hy_up_ne (by decide), hy_up_ne (by decide), hy_up_ne (by decide)]; exact a4, by rw [e 59 53 rfl (by decide), hy_up_ne (by decide), hy_up_ne (by decide), hy_up_ne (by decide)]; exact a5⟩
          refine ⟨again_back hu (fun r j hX hs => ?_), as_of_F (again_F _) (fun r j h => by revert h; simp [mfaX, stX]; omega) hu, ?_⟩
          · have hr : (r ≠ 77 ∧ r ≠ 78) ∧ r ≠ 99 ∧ r ≠ 100 ∧ r ≠ 101 := by revert hX; simp [btX, pwX, mvX]; omega
            rw [e r j hs hr.1, hy_up_ne (by omega), hy_up_ne (by omega), hy_up_ne (by omega)]
            exact hF r j hX
          · have g99 : ∀ j, mf_again (hy_up u4 100 k (mw_worth (mt_set t a b q k) b q)) 99 j = hy_up t1 99 k (mw_worth (mt_set t a b q k) a q) 99 j := fun j => by rw [again_F _ 99 j rfl, e 99 j rfl (by decide)]; simp [hy_up]
            have g100 : ∀ j, mf_again (hy_up u4 100 k (mw_worth (mt_set t a b q k) b q)) 100 j = hy_up t1 100 k (mw_worth (mt_set t a b q k) b q) 100 j := fun j => by rw [again_F _ 100 j rfl, e 100 j rfl (by decide)]; simp [hy_up]
            have g101 : ∀ j, mf_again (hy_up u4 100 k (mw_worth (mt_set t a b q k) b q)) 101 j = hy_up t1 101 k 1 101 j := fun j => by rw [again_F _ 101 j rfl, e 101 j rfl (by decide)]; simp [hy_up]
            refine mt_laid_s (mt_laid_up hl (fun j hj => ?_)) ?_ (fun _ => ?_)
            · rw [g99, g100, g101]
              simp only [hy_up]
              rw [if_neg (by omega), if_neg (by omega), if_neg (by omega)]
              exact ⟨rfl, rfl, rfl⟩
            · rw [g101, hc]; simp [hy_up, hy_b]
            · rw [g99, g100]; simp [hy_up]
        have w3 : mw_worth (mt_set (hy_up t1 101 k 1) a b q k) a q = mw_worth (mt_set t a b q k) a q := mw_worth_F hG btX_mw a q
        have w4 : ∀ u3, hy_F mvX (mt_set (hy_up t1 101 k 1) a b q k) u3 → ml_ok (hy_up u3 99 k (mw_worth (mt_set t a b q k) a q)) ∧ mw_worth (hy_up u3 99 k (mw_worth (mt_set t a b q k) a q)) b q = mw_worth (mt_set t a b q k) b q := fun u3 h3 => by
          have h4 : hy_F btX (mt_set (hy_up t1 101 k 1) a b q k) (hy_up u3 99 k (mw_worth (mt_set t a b q k) a q)) := (h3.w (fun r j q => by revert q; simp [btX, pwX, mvX]; omega)).up rfl
          exact ⟨ml_ok_F h4 btX_law hkS, mw_worth_F (hG.tr' h4) btX_mw b q⟩
        refine hy_iload (i := 4) rfl rfl ?_
        refine hy_const (i := 5) rfl (by decide) ?_
        refine hy_ic_ge (i := 6) (tt := 94) rfl (fun zc1 => ?_) (fun zc1 => ?_)
        · omega
        · refine hy_iload (i := 7) rfl rfl ?_
          refine hy_const (i := 8) rfl (by decide) ?_
          refine hy_idiv (i := 9) rfl (by omega) (by omega) ?_
          refine hy_istore (i := 10) rfl ?_
          refine hy_iload (i := 11) rfl rfl ?_
          refine hy_const (i := 12) rfl (by decide) ?_
          refine hy_irem (i := 13) rfl (by omega) (by omega) ?_
          refine hy_istore (i := 14) rfl ?_
          refine hy_aload (i := 15) rfl rfl ?_
          refine hy_getr (i := 16) rfl rfl ?_
          refine hy_iload (i := 17) rfl rfl ?_
          refine hy_aload (i := 18) rfl rfl ?_
          refine hy_iload (i := 19) rfl rfl ?_
          refine hy_iload (i := 20) rfl rfl ?_
          refine hy_iload (i := 21) rfl rfl ?_
          refine hy_iload (i := 22) rfl rfl ?_
          refine hy_cV4e (i := 23) rfl mj_M_canTake (by decide) rfl (Nat.le_of_ble_eq_true rfl) rfl rfl rfl (c_M_canTake (by omega)) ?_
          rw [c1]
          refine hy_ib_eq (i := 24) (tt := 34) rfl (fun zc2 => ?_) (fun zc2 => ?_)
          · exact bb_abs hc2.1 (by assumption)
          · refine hy_aload (i := 25) rfl rfl ?_
            refine hy_iload (i := 26) rfl rfl ?_
            refine hy_iload (i := 27) rfl rfl ?_
            refine hy_iload (i := 28) rfl rfl ?_
            refine hy_iload (i := 29) rfl rfl ?_
            refine hy_cV4e (i := 30) rfl mj_M_canTake (by decide) rfl (Nat.le_of_ble_eq_true rfl) rfl rfl rfl (c_M_canTake (by omega)) ?_
            rw [c2]
            refine hy_ib_eq (i := 31) (tt := 34) rfl (fun zc3 => ?_) (fun zc3 => ?_)
            · exact bb_abs hc2.2 (by assumption)
            · refine hy_const (i := 32) rfl (by decide) ?_
              refine hy_goto (i := 33) (tt := 35) rfl ?_
              refine hy_zast (i := 35) rfl rfl (by omega) (k := k) (by omega) (.inr rfl) ?_
              refine hy_aload (i := 36) rfl rfl ?_
              refine hy_getr (i := 37) rfl rfl ?_
              refine hy_iload (i := 38) rfl rfl ?_
              refine hy_bald (i := 39) rfl rfl (by decide) (by omega) (k := k) (by omega) ?_
              rw [show hy_up t1 101 k 1 101 k = 1 by simp [hy_up]]
              refine hy_if_ne (i := 40) (tt := 42) rfl (fun zc4 => ?_) (fun zc4 => ?_)
              · refine hy_aload (i := 42) rfl rfl ?_
                refine hy_iload (i := 43) rfl rfl ?_
                refine hy_const (i := 44) rfl (by decide) ?_
                refine hy_iload (i := 45) rfl rfl ?_
                refine hy_ishl (i := 46) rfl ?_
                refine hy_iload (i := 47) rfl rfl ?_
                refine hy_const (i := 48) rfl (by decide) ?_
                refine hy_cV4v (i := 49) rfl mj_M_changes (by decide) rfl (Nat.le_of_ble_eq_true rfl) rfl rfl rfl (c_M_changes (by omega)) ?_
                refine hy_aload (i := 50) rfl rfl ?_
                refine hy_iload (i := 51) rfl rfl ?_
                refine hy_const (i := 52) rfl (by decide) ?_
                refine hy_iload (i := 53) rfl rfl ?_
                refine hy_ishl (i := 54) rfl ?_
                refine hy_iload (i := 55) rfl rfl ?_
                refine hy_const (i := 56) rfl (by decide) ?_
                refine hy_cV4v (i := 57) rfl mj_M_changes (by decide) rfl (Nat.le_of_ble_eq_true rfl) rfl rfl rfl (c_M_changes (by omega)) ?_
                refine hy_aload (i := 58) rfl rfl ?_
                refine hy_iload (i := 59) rfl rfl ?_
                refine hy_const (i := 60) rfl (by decide) ?_
                refine hy_iload (i := 61) rfl rfl ?_
                refine hy_ishl (i := 62) rfl ?_
                refine hy_iload (i := 63) rfl rfl ?_
                refine hy_const (i := 64) rfl (by decide) ?_
                refine hy_cV4v (i := 65) rfl mj_M_changes (by decide) rfl (Nat.le_of_ble_eq_true rfl) rfl rfl rfl (c_M_changes (by omega)) ?_
                refine hy_aload (i := 66) rfl rfl ?_
                refine hy_iload (i := 67) rfl rfl ?_
                refine hy_const (i := 68) rfl (by decide) ?_
                refine hy_iload (i := 69) rfl rfl ?_
                refine hy_ishl (i := 70) rfl ?_
                refine hy_iload (i := 71) rfl rfl ?_
                refine hy_const (i := 72) rfl (by decide) ?_
                refine hy_cV4v (i := 73) rfl mj_M_changes (by decide) rfl (Nat.le_of_ble_eq_true rfl) rfl rfl rfl (c_M_changes (by omega)) ?_
                refine hy_aload (i := 74) rfl rfl ?_
                refine hy_getr (i := 75) rfl rfl ?_
                refine hy_iload (i := 76) rfl rfl ?_
                refine hy_aload (i := 77) rfl rfl ?_
                refine hy_iload (i := 78) rfl rfl ?_
                refine hy_iload (i := 79) rfl rfl ?_
                refine hy_cV2 (i := 80) rfl mj_M_worthOf (by decide) rfl (Nat.le_of_ble_eq_true rfl) rfl rfl rfl (c_M_worthOf hkS (by omega)) (fun r7_ t7_ h7 => ?_)
                obtain ⟨rfl, hF7⟩ := h7
                dsimp only [hy_st, List.cons_append, List.nil_append]
                rw [show mw_worth (mf_chN _ _ _ _ _ _) a q = mw_worth (mt_set t a b q k) a q from w3]
                refine hy_iast (i := 81) rfl rfl (by omega) (k := k) (by omega) ?_
                refine hy_aload (i := 82) rfl rfl ?_
                refine hy_getr (i := 83) rfl rfl ?_
                refine hy_iload (i := 84) rfl rfl ?_
                refine hy_aload (i := 85) rfl rfl ?_
                refine hy_iload (i := 86) rfl rfl ?_
                refine hy_iload (i := 87) rfl rfl ?_
                obtain ⟨hk6, w6⟩ := w4 _ (show hy_F mvX _ _ by assumption)
                refine hy_cV2 (i := 88) rfl mj_M_worthOf (by decide) rfl (Nat.le_of_ble_eq_true rfl) rfl rfl rfl (c_M_worthOf hk6 (by omega)) (fun r8_ t8_ h8 => ?_)
                obtain ⟨rfl, hF8⟩ := h8
                dsimp only [hy_st, List.cons_append, List.nil_append]
                rw [w6]
                refine hy_iast (i := 89) rfl rfl (by omega) (k := k) (by omega) ?_
                refine hy_aload (i := 90) rfl rfl ?_
                refine hy_cV0v (i := 91) rfl mj_M_again (by decide) rfl (Nat.le_of_ble_eq_true rfl) rfl rfl rfl (c_M_again) ?_
                refine hy_iinc (i := 92) rfl rfl (by omega) ?_
                refine hy_goto (i := 93) (tt := 4) rfl ?_
                obtain ⟨q1, q2, q3⟩ := back _ _ hF7 hF8
                exact ih (k + 1) _ _ _ (by omega) q1 q2 q3
              · omega
      · rw [Bool.not_eq_true] at hc
        have hn := hc
        simp only [mt_can] at hn
        refine hy_iload (i := 4) rfl rfl ?_
        refine hy_const (i := 5) rfl (by decide) ?_
        refine hy_ic_ge (i := 6) (tt := 94) rfl (fun zc1 => ?_) (fun zc1 => ?_)
        · omega
        · refine hy_iload (i := 7) rfl rfl ?_
          refine hy_const (i := 8) rfl (by decide) ?_
          refine hy_idiv (i := 9) rfl (by omega) (by omega) ?_
          refine hy_istore (i := 10) rfl ?_
          refine hy_iload (i := 11) rfl rfl ?_
          refine hy_const (i := 12) rfl (by decide) ?_
          refine hy_irem (i := 13) rfl (by omega) (by omega) ?_
          refine hy_istore (i := 14) rfl ?_
          refine hy_aload (i := 15) rfl rfl ?_
          refine hy_getr (i := 16) rfl rfl ?_
          refine hy_iload (i := 17) rfl rfl ?_
          refine hy_aload (i := 18) rfl rfl ?_
          refine hy_iload (i := 19) rfl rfl ?_
          refine hy_iload (i := 20) rfl rfl ?_
          refine hy_iload (i := 21) rfl rfl ?_
          refine hy_iload (i := 22) rfl rfl ?_
          refine hy_cV4e (i := 23) rfl mj_M_canTake (by decide) rfl (Nat.le_of_ble_eq_true rfl) rfl rfl rfl (c_M_canTake (by omega)) ?_
          rw [c1]
          refine hy_ib_eq (i := 24) (tt := 34) rfl (fun zc2 => ?_) (fun zc2 => ?_)
          · refine hy_const (i := 34) rfl (by decide) ?_
            refine hy_zast (i := 35) rfl rfl (by omega) (k := k) (by omega) (.inl rfl) ?_
            refine hy_aload (i := 36) rfl rfl ?_
            refine hy_getr (i := 37) rfl rfl ?_
            refine hy_iload (i := 38) rfl rfl ?_
            refine hy_bald (i := 39) rfl rfl (by decide) (by omega) (k := k) (by omega) ?_
            rw [show hy_up t1 101 k 0 101 k = 0 by simp [hy_up]]
            refine hy_if_ne (i := 40) (tt := 42) rfl (fun zc3 => ?_) (fun zc3 => ?_)
            · omega
            · refine hy_goto (i := 41) (tt := 92) rfl ?_
              refine hy_iinc (i := 92) rfl rfl (by omega) ?_
              refine hy_goto (i := 93) (tt := 4) rfl ?_
              exact ih (k + 1) _ _ _ (by omega) (hF.up rfl) (as_of_F (X := fun r _ => r == 101) (hy_F.rf.up rfl) (fun r j h => by revert h; simp [mfaX]; omega) ha) (mt_laid_s (mt_laid_up hl (fun j hj => by simp [hy_up]; omega)) (by rw [hc]; simp [hy_up, hy_b]) (fun h => bb_abs h hc))
          · refine hy_aload (i := 25) rfl rfl ?_
            refine hy_iload (i := 26) rfl rfl ?_
            refine hy_iload (i := 27) rfl rfl ?_
            refine hy_iload (i := 28) rfl rfl ?_
            refine hy_iload (i := 29) rfl rfl ?_
            refine hy_cV4e (i := 30) rfl mj_M_canTake (by decide) rfl (Nat.le_of_ble_eq_true rfl) rfl rfl rfl (c_M_canTake (by omega)) ?_
            rw [c2]
            refine hy_ib_eq (i := 31) (tt := 34) rfl (fun zc3 => ?_) (fun zc3 => ?_)
            · refine hy_const (i := 34) rfl (by decide) ?_
              refine hy_zast (i := 35) rfl rfl (by omega) (k := k) (by omega) (.inl rfl) ?_
              refine hy_aload (i := 36) rfl rfl ?_
              refine hy_getr (i := 37) rfl rfl ?_
              refine hy_iload (i := 38) rfl rfl ?_
              refine hy_bald (i := 39) rfl rfl (by decide) (by omega) (k := k) (by omega) ?_
              rw [show hy_up t1 101 k 0 101 k = 0 by simp [hy_up]]
              refine hy_if_ne (i := 40) (tt := 42) rfl (fun zc4 => ?_) (fun zc4 => ?_)
              · omega
              · refine hy_goto (i := 41) (tt := 92) rfl ?_
                refine hy_iinc (i := 92) rfl rfl (by omega) ?_
                refine hy_goto (i := 93) (tt := 4) rfl ?_
                exact ih (k + 1) _ _ _ (by omega) (hF.up rfl) (as_of_F (X := fun r _ => r == 101) (hy_F.rf.up rfl) (fun r j h => by revert h; simp [mfaX]; omega) ha) (mt_laid_s (mt_laid_up hl (fun j hj => by simp [hy_up]; omega)) (by rw [hc]; simp [hy_up, hy_b]) (fun h => bb_abs h hc))
            · rw [show mt_take t a b ((k : Int) / 12) q = true by assumption, show mt_take t b a ((k : Int) % 12) q = true by assumption] at hn; cases hn
  obtain ⟨ha, hF⟩ := begins_as t
  refine hy_aload (i := 0) rfl rfl ?_
  refine hy_cV0v (i := 1) rfl mj_M_begins (by decide) rfl (Nat.le_of_ble_eq_true rfl) rfl rfl rfl (c_M_begins) ?_
  refine hy_const (i := 2) rfl (by decide) ?_
  refine hy_istore (i := 3) rfl ?_
  exact loop 144 0 _ _ _ rfl (hF.w (fun r j q => by revert q; simp [btX, pwX, mfaX, mvX]; omega)) ha (fun k hk => absurd hk (by omega))
theorem c_M_rests {k : Nat} (hk : k < 144) : hy_Ct sc hm_M_rests 0 [.inr (some 59), .inl (k : Int)] t (hy_e (some (hy_b (mt_restN (t 101) (t 99) (t 100) k 12))) t) := by
  refine hy_mk_ct ok_M_rests ck_M_rests (Nat.le_of_ble_eq_true rfl) ?_
  have loop : ∀ (m : Nat), ∀ (n : Nat) (v3 : hy_V), m + n = 12 → mt_restN (t 101) (t 99) (t 100) k n = true → hy_W sc hm_M_rests 0 2 [.inr (some 59), .inl (k : Int), .inl (n : Int), v3] [] t (hy_e (some (hy_b (mt_restN (t 101) (t 99) (t 100) k 12))) t) := by
    intro m
    induction m with
    | zero =>
      intro n v3 hm hr
      obtain rfl : n = 12 := by omega
      refine hy_iload (i := 2) rfl rfl ?_
      refine hy_const (i := 3) rfl (by decide) ?_
      refine hy_ic_ge (i := 4) (tt := 55) rfl (fun zc1 => ?_) (fun zc1 => ?_)
      · refine hy_const (i := 55) rfl (by decide) ?_
        refine hy_zreturn (i := 56) rfl rfl (by first | decide | exact hy_b01 _) ?_
        exact ⟨congrArg some (by rw [hr]; rfl), rfl⟩
      · omega
    | succ m ih =>
      intro n v3 hm hr
      have e1 : mt_restN (t 101) (t 99) (t 100) k (n + 1) = (!(decide (t 101 (12 * n + k % 12) ≠ 0) && decide (t 99 k < t 99 (12 * n + k % 12))) && !(decide (t 101 (k / 12 * 12 + n) ≠ 0) && decide (t 100 k < t 100 (k / 12 * 12 + n)))) := by simp only [mt_restN]; rw [hr, Bool.true_and]
      refine hy_iload (i := 2) rfl rfl ?_
      refine hy_const (i := 3) rfl (by decide) ?_
      refine hy_ic_ge (i := 4) (tt := 55) rfl (fun zc1 => ?_) (fun zc1 => ?_)
      · omega
      · refine hy_const (i := 5) rfl (by decide) ?_
        refine hy_iload (i := 6) rfl rfl ?_
        refine hy_imul (i := 7) rfl (by omega) ?_
        refine hy_iload (i := 8) rfl rfl ?_
        refine hy_const (i := 9) rfl (by decide) ?_
        refine hy_irem (i := 10) rfl (by omega) (by omega) ?_
        refine hy_iadd (i := 11) rfl (by omega) ?_
        refine hy_istore (i := 12) rfl ?_
        refine hy_aload (i := 13) rfl rfl ?_
        refine hy_getr (i := 14) rfl rfl ?_
        refine hy_iload (i := 15) rfl rfl ?_
        refine hy_bald (i := 16) rfl rfl (by decide) (by omega) (k := 12 * n + k % 12) (by omega) ?_
        refine hy_if_eq (i := 17) (tt := 29) rfl (fun zc2 => ?_) (fun zc2 => ?_)
        · refine hy_iload (i := 29) rfl rfl ?_
          refine hy_const (i := 30) rfl (by decide) ?_
          refine hy_idiv (i := 31) rfl (by omega) (by omega) ?_
          refine hy_const (i := 32) rfl (by decide) ?_
          refine hy_imul (i := 33) rfl (by omega) ?_
          refine hy_iload (i := 34) rfl rfl ?_
          refine hy_iadd (i := 35) rfl (by omega) ?_
          refine hy_istore (i := 36) rfl ?_
          refine hy_aload (i := 37) rfl rfl ?_
          refine hy_getr (i := 38) rfl rfl ?_
          refine hy_iload (i := 39) rfl rfl ?_
          refine hy_bald (i := 40) rfl rfl (by decide) (by omega) (k := k / 12 * 12 + n) (by omega) ?_
          refine hy_if_eq (i := 41) (tt := 53) rfl (fun zc3 => ?_) (fun zc3 => ?_)
          · refine hy_iinc (i := 53) rfl rfl (by omega) ?_
            refine hy_goto (i := 54) (tt := 2) rfl ?_
            exact ih (n + 1) _ (by omega) (by rw [e1]; simp; omega)
          · refine hy_aload (i := 42) rfl rfl ?_
            refine hy_getr (i := 43) rfl rfl ?_
            refine hy_iload (i := 44) rfl rfl ?_
            refine hy_iald (i := 45) rfl rfl (by omega) (k := k / 12 * 12 + n) (by omega) ?_
            refine hy_aload (i := 46) rfl rfl ?_
            refine hy_getr (i := 47) rfl rfl ?_
            refine hy_iload (i := 48) rfl rfl ?_
            refine hy_iald (i := 49) rfl rfl (by omega) (k := k) (by omega) ?_
            refine hy_ic_le (i := 50) (tt := 53) rfl (fun zc4 => ?_) (fun zc4 => ?_)
            · refine hy_iinc (i := 53) rfl rfl (by omega) ?_
              refine hy_goto (i := 54) (tt := 2) rfl ?_
              exact ih (n + 1) _ (by omega) (by rw [e1]; simp; omega)
            · refine hy_const (i := 51) rfl (by decide) ?_
              refine hy_zreturn (i := 52) rfl rfl (by first | decide | exact hy_b01 _) ?_
              exact ⟨congrArg some (by rw [mt_restN_le (t 101) (t 99) (t 100) k 12 (n + 1) (by omega) (by rw [e1]; simp; omega)]; rfl), rfl⟩
        · refine hy_aload (i := 18) rfl rfl ?_
          refine hy_getr (i := 19) rfl rfl ?_
          refine hy_iload (i := 20) rfl rfl ?_
          refine hy_iald (i := 21) rfl rfl (by omega) (k := 12 * n + k % 12) (by omega) ?_
          refine hy_aload (i := 22) rfl rfl ?_
          refine hy_getr (i := 23) rfl rfl ?_
          refine hy_iload (i := 24) rfl rfl ?_
          refine hy_iald (i := 25) rfl rfl (by omega) (k := k) (by omega) ?_
          refine hy_ic_le (i := 26) (tt := 29) rfl (fun zc3 => ?_) (fun zc3 => ?_)
          · refine hy_iload (i := 29) rfl rfl ?_
            refine hy_const (i := 30) rfl (by decide) ?_
            refine hy_idiv (i := 31) rfl (by omega) (by omega) ?_
            refine hy_const (i := 32) rfl (by decide) ?_
            refine hy_imul (i := 33) rfl (by omega) ?_
            refine hy_iload (i := 34) rfl rfl ?_
            refine hy_iadd (i := 35) rfl (by omega) ?_
            refine hy_istore (i := 36) rfl ?_
            refine hy_aload (i := 37) rfl rfl ?_
            refine hy_getr (i := 38) rfl rfl ?_
            refine hy_iload (i := 39) rfl rfl ?_
            refine hy_bald (i := 40) rfl rfl (by decide) (by omega) (k := k / 12 * 12 + n) (by omega) ?_
            refine hy_if_eq (i := 41) (tt := 53) rfl (fun zc4 => ?_) (fun zc4 => ?_)
            · refine hy_iinc (i := 53) rfl rfl (by omega) ?_
              refine hy_goto (i := 54) (tt := 2) rfl ?_
              exact ih (n + 1) _ (by omega) (by rw [e1]; simp; omega)
            · refine hy_aload (i := 42) rfl rfl ?_
              refine hy_getr (i := 43) rfl rfl ?_
              refine hy_iload (i := 44) rfl rfl ?_
              refine hy_iald (i := 45) rfl rfl (by omega) (k := k / 12 * 12 + n) (by omega) ?_
              refine hy_aload (i := 46) rfl rfl ?_
              refine hy_getr (i := 47) rfl rfl ?_
              refine hy_iload (i := 48) rfl rfl ?_
              refine hy_iald (i := 49) rfl rfl (by omega) (k := k) (by omega) ?_
              refine hy_ic_le (i := 50) (tt := 53) rfl (fun zc5 => ?_) (fun zc5 => ?_)
              · refine hy_iinc (i := 53) rfl rfl (by omega) ?_
                refine hy_goto (i := 54) (tt := 2) rfl ?_
                exact ih (n + 1) _ (by omega) (by rw [e1]; simp; omega)
              · refine hy_const (i := 51) rfl (by decide) ?_
                refine hy_zreturn (i := 52) rfl rfl (by first | decide | exact hy_b01 _) ?_
                exact ⟨congrArg some (by rw [mt_restN_le (t 101) (t 99) (t 100) k 12 (n + 1) (by omega) (by rw [e1]; simp; omega)]; rfl), rfl⟩
          · refine hy_const (i := 27) rfl (by decide) ?_
            refine hy_zreturn (i := 28) rfl rfl (by first | decide | exact hy_b01 _) ?_
            exact ⟨congrArg some (by rw [mt_restN_le (t 101) (t 99) (t 100) k 12 (n + 1) (by omega) (by rw [e1]; simp; omega)]; rfl), rfl⟩
  refine hy_const (i := 0) rfl (by decide) ?_
  refine hy_istore (i := 1) rfl ?_
  exact loop 12 0 _ rfl rfl
theorem c_M_battle {a b q w : Int} (hk : ml_ok t) : hy_Ct sc hm_M_battle 8 [.inr (some 59), .inl a, .inl b, .inl q, .inl w] t (fun r t' => r = some (if mt_btc a b q w then mt_btA (mt_btN (t' 101) (t' 99) (t' 100) 144) w else -1) ∧ hy_F btX t t' ∧ (mt_btc a b q w → mt_laid t a b q 144 t')) := by
  refine hy_mk_ct ok_M_battle ck_M_battle (Nat.le_of_ble_eq_true rfl) ?_
  by_cases hq : mt_btc a b q w
  · simp only [if_pos hq]
    have loop : ∀ (t1 : hy_T), hy_F btX t t1 → mt_laid t a b q 144 t1 → ∀ (m : Nat), ∀ (k : Nat), m + k = 144 → hy_W sc hm_M_battle 8 30 [.inr (some 59), .inl a, .inl b, .inl q, .inl w, .inl (mt_btN (t1 101) (t1 99) (t1 100) k).1, .inl (mt_btN (t1 101) (t1 99) (t1 100) k).2, .inl (k : Int)] [] t1 (fun r t' => r = some (mt_btA (mt_btN (t' 101) (t' 99) (t' 100) 144) w) ∧ hy_F btX t t' ∧ (mt_btc a b q w → mt_laid t a b q 144 t')) := by
      intro t1 hF hl m
      induction m with
      | zero =>
        intro k hm
        obtain rfl : k = 144 := by omega
        have hin := mt_btN_in (t1 101) (t1 99) (t1 100) 144
        refine hy_iload (i := 30) rfl rfl ?_
        refine hy_const (i := 31) rfl (by decide) ?_
        refine hy_ic_ge (i := 32) (tt := 56) rfl (fun zc1 => ?_) (fun zc1 => ?_)
        · refine hy_iload (i := 56) rfl rfl ?_
          refine hy_if_ne (i := 57) (tt := 60) rfl (fun zc2 => ?_) (fun zc2 => ?_)
          · refine hy_iload (i := 60) rfl rfl ?_
            refine hy_const (i := 61) rfl (by decide) ?_
            refine hy_ic_ne (i := 62) (tt := 65) rfl (fun zc3 => ?_) (fun zc3 => ?_)
            · refine hy_iload (i := 65) rfl rfl ?_
              refine hy_const (i := 66) rfl (by decide) ?_
              refine hy_ic_ne (i := 67) (tt := 72) rfl (fun zc4 => ?_) (fun zc4 => ?_)
              · refine hy_iload (i := 72) rfl rfl ?_
                refine hy_const (i := 73) rfl (by decide) ?_
                refine hy_irem (i := 74) rfl (by omega) (by omega) ?_
                refine hy_ireturn (i := 75) rfl rfl ?_
                refine ⟨congrArg some ?_, hF, fun _ => hl⟩
                unfold mt_btA
                (repeat (first | rw [if_pos (by omega)] | rw [if_neg (by omega)]))
              · refine hy_iload (i := 68) rfl rfl ?_
                refine hy_const (i := 69) rfl (by decide) ?_
                refine hy_idiv (i := 70) rfl (by omega) (by omega) ?_
                refine hy_goto (i := 71) (tt := 75) rfl ?_
                refine hy_ireturn (i := 75) rfl rfl ?_
                refine ⟨congrArg some ?_, hF, fun _ => hl⟩
                unfold mt_btA
                (repeat (first | rw [if_pos (by omega)] | rw [if_neg (by omega)]))
            · refine hy_const (i := 63) rfl (by decide) ?_
              refine hy_goto (i := 64) (tt := 75) rfl ?_
              refine hy_ireturn (i := 75) rfl rfl ?_
              refine ⟨congrArg some ?_, hF, fun _ => hl⟩
              unfold mt_btA
              (repeat (first | rw [if_pos (by omega)] | rw [if_neg (by omega)]))
          · refine hy_iload (i := 58) rfl rfl ?_
            refine hy_goto (i := 59) (tt := 75) rfl ?_
            refine hy_ireturn (i := 75) rfl rfl ?_
            refine ⟨congrArg some ?_, hF, fun _ => hl⟩
            unfold mt_btA
            (repeat (first | rw [if_pos (by omega)] | rw [if_neg (by omega)]))
        · omega
      | succ m ih =>
        intro k hm
        have hin := mt_btN_in (t1 101) (t1 99) (t1 100) k
        have e1 : mt_btN (t1 101) (t1 99) (t1 100) (k + 1) = if t1 101 k ≠ 0 ∧ mt_restN (t1 101) (t1 99) (t1 100) k 12 = true then ((mt_btN (t1 101) (t1 99) (t1 100) k).1 + 1, if (mt_btN (t1 101) (t1 99) (t1 100) k).2 = -1 then (k : Int) else (mt_btN (t1 101) (t1 99) (t1 100) k).2) else mt_btN (t1 101) (t1 99) (t1 100) k := rfl
        have ih' := ih (k + 1) (by omega)
        rw [e1] at ih'
        refine hy_iload (i := 30) rfl rfl ?_
        refine hy_const (i := 31) rfl (by decide) ?_
        refine hy_ic_ge (i := 32) (tt := 56) rfl (fun zc1 => ?_) (fun zc1 => ?_)
        · omega
        · refine hy_aload (i := 33) rfl rfl ?_
          refine hy_getr (i := 34) rfl rfl ?_
          refine hy_iload (i := 35) rfl rfl ?_
          refine hy_bald (i := 36) rfl rfl (by decide) (by omega) (k := k) (by omega) ?_
          refine hy_if_eq (i := 37) (tt := 54) rfl (fun zc2 => ?_) (fun zc2 => ?_)
          · refine hy_iinc (i := 54) rfl rfl (by omega) ?_
            refine hy_goto (i := 55) (tt := 30) rfl ?_
            first | (rw [if_pos ⟨by assumption, by assumption⟩] at ih'; dsimp only at ih'; first | (rw [if_pos (by assumption)] at ih'; exact ih') | (rw [if_neg (by assumption)] at ih'; exact ih')) | (rw [if_neg (fun h => h.1 (by assumption))] at ih'; exact ih') | (rw [if_neg (fun h => bb_abs h.2 (by assumption))] at ih'; exact ih')
          · refine hy_aload (i := 38) rfl rfl ?_
            refine hy_iload (i := 39) rfl rfl ?_
            refine hy_cV1e (i := 40) rfl mj_M_rests (by decide) rfl (Nat.le_of_ble_eq_true rfl) rfl rfl rfl (c_M_rests (k := k) (by omega)) ?_
            refine hy_ib_ne (i := 41) (tt := 43) rfl (fun zc3 => ?_) (fun zc3 => ?_)
            · refine hy_iload (i := 43) rfl rfl ?_
              refine hy_const (i := 44) rfl (by decide) ?_
              refine hy_ic_ne (i := 45) (tt := 48) rfl (fun zc4 => ?_) (fun zc4 => ?_)
              · refine hy_iload (i := 48) rfl rfl ?_
                refine hy_istore (i := 49) rfl ?_
                refine hy_iload (i := 50) rfl rfl ?_
                refine hy_const (i := 51) rfl (by decide) ?_
                refine hy_iadd (i := 52) rfl (by omega) ?_
                refine hy_istore (i := 53) rfl ?_
                refine hy_iinc (i := 54) rfl rfl (by omega) ?_
                refine hy_goto (i := 55) (tt := 30) rfl ?_
                first | (rw [if_pos ⟨by assumption, by assumption⟩] at ih'; dsimp only at ih'; first | (rw [if_pos (by assumption)] at ih'; exact ih') | (rw [if_neg (by assumption)] at ih'; exact ih')) | (rw [if_neg (fun h => h.1 (by assumption))] at ih'; exact ih') | (rw [if_neg (fun h => bb_abs h.2 (by assumption))] at ih'; exact ih')
              · refine hy_iload (i := 46) rfl rfl ?_
                refine hy_goto (i := 47) (tt := 49) rfl ?_
                refine hy_istore (i := 49) rfl ?_
                refine hy_iload (i := 50) rfl rfl ?_
                refine hy_const (i := 51) rfl (by decide) ?_
                refine hy_iadd (i := 52) rfl (by omega) ?_
                refine hy_istore (i := 53) rfl ?_
                refine hy_iinc (i := 54) rfl rfl (by omega) ?_
                refine hy_goto (i := 55) (tt := 30) rfl ?_
                first | (rw [if_pos ⟨by assumption, by assumption⟩] at ih'; dsimp only at ih'; first | (rw [if_pos (by assumption)] at ih'; exact ih') | (rw [if_neg (by assumption)] at ih'; exact ih')) | (rw [if_neg (fun h => h.1 (by assumption))] at ih'; exact ih') | (rw [if_neg (fun h => bb_abs h.2 (by assumption))] at ih'; exact ih')
            · refine hy_goto (i := 42) (tt := 54) rfl ?_
              refine hy_iinc (i := 54) rfl rfl (by omega) ?_
              refine hy_goto (i := 55) (tt := 30) rfl ?_
              first | (rw [if_pos ⟨by assumption, by assumption⟩] at ih'; dsimp only at ih'; first | (rw [if_pos (by assumption)] at ih'; exact ih') | (rw [if_neg (by assumption)] at ih'; exact ih')) | (rw [if_neg (fun h => h.1 (by assumption))] at ih'; exact ih') | (rw [if_neg (fun h => bb_abs h.2 (by assumption))] at ih'; exact ih')
    refine hy_iload (i := 0) rfl rfl ?_
    refine hy_cS1e (i := 1) rfl (by decide) mj_M_isEmpire (by decide) rfl (Nat.le_of_ble_eq_true rfl) (c_M_isEmpire) ?_
    refine hy_ib_eq (i := 2) (tt := 17) rfl (fun zc1 => ?_) (fun zc1 => ?_)
    · simp only [decide_eq_false_iff_not] at zc1; omega
    · refine hy_iload (i := 3) rfl rfl ?_
      refine hy_cS1e (i := 4) rfl (by decide) mj_M_isEmpire (by decide) rfl (Nat.le_of_ble_eq_true rfl) (c_M_isEmpire) ?_
      refine hy_ib_eq (i := 5) (tt := 17) rfl (fun zc2 => ?_) (fun zc2 => ?_)
      · simp only [decide_eq_false_iff_not] at zc2; omega
      · refine hy_iload (i := 6) rfl rfl ?_
        refine hy_iload (i := 7) rfl rfl ?_
        refine hy_ic_eq (i := 8) (tt := 17) rfl (fun zc3 => ?_) (fun zc3 => ?_)
        · omega
        · refine hy_iload (i := 9) rfl rfl ?_
          refine hy_cS1e (i := 10) rfl (by decide) mj_M_isQuarter (by decide) rfl (Nat.le_of_ble_eq_true rfl) (c_M_isQuarter) ?_
          refine hy_ib_eq (i := 11) (tt := 17) rfl (fun zc4 => ?_) (fun zc4 => ?_)
          · simp only [decide_eq_false_iff_not] at zc4; omega
          · refine hy_iload (i := 12) rfl rfl ?_
            refine hy_const (i := 13) rfl (by decide) ?_
            refine hy_const (i := 14) rfl (by decide) ?_
            refine hy_cS3e (i := 15) rfl (by decide) mj_M_in (by decide) rfl (Nat.le_of_ble_eq_true rfl) (c_M_in) ?_
            refine hy_ib_ne (i := 16) (tt := 19) rfl (fun zc5 => ?_) (fun zc5 => ?_)
            · refine hy_aload (i := 19) rfl rfl ?_
              refine hy_iload (i := 20) rfl rfl ?_
              refine hy_iload (i := 21) rfl rfl ?_
              refine hy_iload (i := 22) rfl rfl ?_
              refine hy_cV3 (i := 23) rfl mj_M_laysFights (by decide) rfl (Nat.le_of_ble_eq_true rfl) rfl rfl rfl (c_M_laysFights (by assumption) (by omega)) (fun r5_ t5_ h5 => ?_)
              obtain ⟨rfl, hF5, hL5⟩ := h5
              dsimp only [hy_st, List.nil_append]
              refine hy_const (i := 24) rfl (by decide) ?_
              refine hy_istore (i := 25) rfl ?_
              refine hy_const (i := 26) rfl (by decide) ?_
              refine hy_istore (i := 27) rfl ?_
              refine hy_const (i := 28) rfl (by decide) ?_
              refine hy_istore (i := 29) rfl ?_
              exact loop _ (by assumption) (by assumption) 144 0 rfl
            · simp only [decide_eq_false_iff_not] at zc5; omega
  · simp only [if_neg hq]
    refine hy_iload (i := 0) rfl rfl ?_
    refine hy_cS1e (i := 1) rfl (by decide) mj_M_isEmpire (by decide) rfl (Nat.le_of_ble_eq_true rfl) (c_M_isEmpire) ?_
    refine hy_ib_eq (i := 2) (tt := 17) rfl (fun zc1 => ?_) (fun zc1 => ?_)
    · refine hy_const (i := 17) rfl (by decide) ?_
      refine hy_ireturn (i := 18) rfl rfl ?_
      exact ⟨rfl, hy_F.rf, fun h => absurd h hq⟩
    · refine hy_iload (i := 3) rfl rfl ?_
      refine hy_cS1e (i := 4) rfl (by decide) mj_M_isEmpire (by decide) rfl (Nat.le_of_ble_eq_true rfl) (c_M_isEmpire) ?_
      refine hy_ib_eq (i := 5) (tt := 17) rfl (fun zc2 => ?_) (fun zc2 => ?_)
      · refine hy_const (i := 17) rfl (by decide) ?_
        refine hy_ireturn (i := 18) rfl rfl ?_
        exact ⟨rfl, hy_F.rf, fun h => absurd h hq⟩
      · refine hy_iload (i := 6) rfl rfl ?_
        refine hy_iload (i := 7) rfl rfl ?_
        refine hy_ic_eq (i := 8) (tt := 17) rfl (fun zc3 => ?_) (fun zc3 => ?_)
        · refine hy_const (i := 17) rfl (by decide) ?_
          refine hy_ireturn (i := 18) rfl rfl ?_
          exact ⟨rfl, hy_F.rf, fun h => absurd h hq⟩
        · refine hy_iload (i := 9) rfl rfl ?_
          refine hy_cS1e (i := 10) rfl (by decide) mj_M_isQuarter (by decide) rfl (Nat.le_of_ble_eq_true rfl) (c_M_isQuarter) ?_
          refine hy_ib_eq (i := 11) (tt := 17) rfl (fun zc4 => ?_) (fun zc4 => ?_)
          · refine hy_const (i := 17) rfl (by decide) ?_
            refine hy_ireturn (i := 18) rfl rfl ?_
            exact ⟨rfl, hy_F.rf, fun h => absurd h hq⟩
          · refine hy_iload (i := 12) rfl rfl ?_
            refine hy_const (i := 13) rfl (by decide) ?_
            refine hy_const (i := 14) rfl (by decide) ?_
            refine hy_cS3e (i := 15) rfl (by decide) mj_M_in (by decide) rfl (Nat.le_of_ble_eq_true rfl) (c_M_in) ?_
            refine hy_ib_ne (i := 16) (tt := 19) rfl (fun zc5 => ?_) (fun zc5 => ?_)
            · exfalso; simp only [decide_eq_true_eq] at *; exact hq ⟨by assumption, by assumption, by assumption, by assumption, by assumption⟩
            · refine hy_const (i := 17) rfl (by decide) ?_
              refine hy_ireturn (i := 18) rfl rfl ?_
              exact ⟨rfl, hy_F.rf, fun h => absurd h hq⟩
end MT
