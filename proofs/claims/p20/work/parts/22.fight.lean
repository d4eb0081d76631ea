/-! the class's duel: a fight -/
theorem sp_price_G {X : Nat → Nat → Bool} {t t1 : hy_T} (h : hy_F X t t1) (hl : lc_same t t1) (h9 : ∀ j, X 9 j = false) (h35 : ∀ j, X 35 j = false) (h34 : ∀ j, X 34 j = false) (h5 : X 5 3 = false) (h33 : X 33 4 = false) (e q sup c : Int) : sp_price t1 e q sup c = sp_price t e q sup c := by
  unfold sp_price
  rw [sp_fields_F h h9 h35, sp_priceOf_F h hl h5 h33, show t1 34 = t 34 from funext fun j => h 34 j (h34 j)]
def dl_plainA (ha two : Int) : Int := hz_iand (hz_ior ha (hz_ishl 1 (two / 12))) (hz_ixor (hz_ishl 1 (two % 12)) (-1))
def dl_plainB (hb two : Int) : Int := hz_iand (hz_ior hb (hz_ishl 1 (two % 12))) (hz_ixor (hz_ishl 1 (two / 12)) (-1))
def dl_worth (t : hy_T) (e q plain : Int) : Int := sp_worthN (fun c => sp_price t e q 0 c) (sp_seenN t e q plain 12) 12
abbrev fX : Nat → Nat → Bool := fun r j => r == 17 || r == 18 || r == 48 || r == 50 || r == 51 || (r == 49 && (j == 4 || j == 5 || j == 6 || j == 7 || j == 8))
abbrev f1X : Nat → Nat → Bool := fun r _ => r == 17 || r == 18 || r == 50
abbrev f2X : Nat → Nat → Bool := fun r _ => r == 17 || r == 18 || r == 51
theorem fX_law {t t1 : hy_T} (h : hy_F fX t t1) : lc_same t t1 := lc_same_of h (fun r j q => by revert q; simp [lawX, fX]; omega)
theorem dl_worth_F {t t1 t2 : hy_T} (h : hy_F fX t t2) {e q : Int} (hp : ∀ c : Nat, c < 12 → t1 48 c = sp_price t e q 0 c) (h2 : t2 48 = t1 48) (plain : Int) : sp_worthN (t2 48) (sp_seenN t2 e q plain 12) 12 = dl_worth t e q plain := by
  unfold dl_worth
  rw [sp_seenN_G h (fX_law h) rfl rfl (fun _ => rfl) (fun _ => rfl), h2]
  exact sp_worthN_eq hp _ 12 (Nat.le_refl _)
section FI
variable {sc : List Int32} {t : hy_T}
theorem c_D_fight {a b q : Int} (hk : lc_ok t) : hy_Ct sc hm_D_fight 5 [.inr (some 49), .inl a, .inl b, .inl q] t (fun r t' => r = none ∧ hy_F fX t t' ∧ ∃ t2 : hy_T, t2 49 4 = hz_iand (sp_hadN (t 34) b q 12) (hz_ixor (sp_hadN (t 34) a q 12) (-1)) ∧ t2 49 5 = hz_iand (sp_hadN (t 34) a q 12) (hz_ixor (sp_hadN (t 34) b q 12) (-1)) ∧
      (∀ w : Nat, w < 144 → dl_chosen (t2 49 4) (t2 49 5) w = true → t2 50 w = dl_worth t a q (dl_plainA (sp_hadN (t 34) a q 12) w) ∧ t2 51 w = dl_worth t b q (dl_plainB (sp_hadN (t 34) b q 12) w)) ∧ t' 49 6 = dl_twos t2 144 ∧ t' 49 7 = dl_a (dl_first t2 144) ∧ t' 49 8 = dl_b (dl_first t2 144)) := by
  refine hy_mk_ct ok_D_fight ck_D_fight (Nat.le_of_ble_eq_true rfl) ?_
  generalize hA : sp_hadN (t 34) a q 12 = ha
  generalize hB : sp_hadN (t 34) b q 12 = hb
  have end2 : ∀ (n : Nat), ∀ (k : Nat) (t1 t2 : hy_T) , n + k = 144 → hy_F fX t t1 → hy_F f2X t1 t2 → t1 49 4 = hz_iand hb (hz_ixor ha (-1)) → t1 49 5 = hz_iand ha (hz_ixor hb (-1)) → (∀ c : Nat, c < 12 → t1 48 c = sp_price t b q 0 c) →
      (∀ w : Nat, w < 144 → dl_chosen (t1 49 4) (t1 49 5) w = true → t1 50 w = dl_worth t a q (dl_plainA ha w)) → (∀ w : Nat, w < k → dl_chosen (t1 49 4) (t1 49 5) w = true → t2 51 w = dl_worth t b q (dl_plainB hb w)) →
      hy_W sc hm_D_fight 5 69 [.inr (some 49), .inl a, .inl b, .inl q, .inl ha, .inl hb, .inl (k : Int)] [] t2 (fun r t' => r = none ∧ hy_F fX t t' ∧ ∃ t2 : hy_T, t2 49 4 = hz_iand hb (hz_ixor ha (-1)) ∧ t2 49 5 = hz_iand ha (hz_ixor hb (-1)) ∧
      (∀ w : Nat, w < 144 → dl_chosen (t2 49 4) (t2 49 5) w = true → t2 50 w = dl_worth t a q (dl_plainA ha w) ∧ t2 51 w = dl_worth t b q (dl_plainB hb w)) ∧ t' 49 6 = dl_twos t2 144 ∧ t' 49 7 = dl_a (dl_first t2 144) ∧ t' 49 8 = dl_b (dl_first t2 144)) := by
    intro n
    induction n with
    | zero =>
      intro k t1 t2 hn hF hF2 h4 h5 hP hWA hWB
      obtain rfl : k = 144 := by omega
      have hG : hy_F fX t t2 := hF.tr' (hF2.w (fun r j q => by revert q; simp [fX, f2X]; omega))
      have e4 : t2 49 4 = t1 49 4 := hF2 49 4 rfl
      have e5 : t2 49 5 = t1 49 5 := hF2 49 5 rfl
      refine hy_iload (i := 69) rfl rfl ?_
      refine hy_const (i := 70) rfl (by decide) ?_
      refine hy_ic_ge (i := 71) (tt := 96) rfl (fun zc1 => ?_) (fun zc1 => ?_)
      · refine hy_aload (i := 96) rfl rfl ?_
        refine hy_cV0 (i := 97) rfl mj_D_findTwos (by decide) rfl (Nat.le_of_ble_eq_true rfl) rfl rfl rfl (c_D_findTwos) (fun r1_ t1_ h1 => ?_)
        obtain ⟨rfl, hD1, hF1⟩ := h1
        dsimp only [hy_st, List.nil_append]
        refine hy_return (i := 98) rfl rfl ?_
        refine ⟨rfl, hG.tr' (hF1.w (fun r j q => by revert q; simp [fX, dfX]; omega)), t2, by rw [e4, h4], by rw [e5, h5], fun w hw hc => ?_, hD1.1, hD1.2.1, hD1.2.2⟩
        rw [e4, e5] at hc
        exact ⟨by rw [hF2 50 w rfl]; exact hWA w hw hc, hWB w hw hc⟩
      · omega
    | succ n ih =>
      intro k t1 t2 hn hF hF2 h4 h5 hP hWA hWB
      have hG : hy_F fX t t2 := hF.tr' (hF2.w (fun r j q => by revert q; simp [fX, f2X]; omega))
      have e4 : t2 49 4 = t1 49 4 := hF2 49 4 rfl
      have e5 : t2 49 5 = t1 49 5 := hF2 49 5 rfl
      have e48 : t2 48 = t1 48 := funext fun j => hF2 48 j rfl
      have hk2 := lc_ok_same (fX_law hG) hk
      have hp2 : ∀ c : Nat, c < 12 → 0 ≤ t2 48 c ∧ t2 48 c ≤ 6400 := fun c hc => by rw [e48, hP c hc]; exact sp_price_le t b q 0 c
      refine hy_iload (i := 69) rfl rfl ?_
      refine hy_const (i := 70) rfl (by decide) ?_
      refine hy_ic_ge (i := 71) (tt := 96) rfl (fun zc1 => ?_) (fun zc1 => ?_)
      · omega
      · refine hy_aload (i := 72) rfl rfl ?_
        refine hy_iload (i := 73) rfl rfl ?_
        refine hy_cV1e (i := 74) rfl mj_D_isChosen (by decide) rfl (Nat.le_of_ble_eq_true rfl) rfl rfl rfl (c_D_isChosen (by omega)) ?_
        refine hy_ib_eq (i := 75) (tt := 94) rfl (fun zc2 => ?_) (fun zc2 => ?_)
        · refine hy_iinc (i := 94) rfl rfl (by omega) ?_
          refine hy_goto (i := 95) (tt := 69) rfl ?_
          refine ih (k + 1) t1 _ (by omega) hF ?_ h4 h5 hP hWA ?_
          · first | exact hF2 | exact (hF2.tr' (hF4.w (fun r j q => by revert q; simp [eX, f2X]; omega))).up rfl
          · intro w hw hc
            rcases Nat.lt_succ_iff_lt_or_eq.mp hw with h | rfl
            · first | exact hWB w h hc | (rw [hy_up_row]; unfold su; rw [if_neg (by omega), hF4 51 w rfl]; exact hWB w h hc)
            · first | (rw [hy_up_row]; unfold su; rw [if_pos rfl]; rfl) | (rw [e4, e5, hc] at zc2; cases zc2)
        · refine hy_aload (i := 76) rfl rfl ?_
          refine hy_getr (i := 77) rfl rfl ?_
          refine hy_iload (i := 78) rfl rfl ?_
          refine hy_aload (i := 79) rfl rfl ?_
          refine hy_getr (i := 80) rfl rfl ?_
          refine hy_iload (i := 81) rfl rfl ?_
          refine hy_iload (i := 82) rfl rfl ?_
          refine hy_iload (i := 83) rfl rfl ?_
          refine hy_iload (i := 84) rfl rfl ?_
          refine hy_cS1e (i := 85) rfl (by decide) mj_D_lost (by decide) rfl (Nat.le_of_ble_eq_true rfl) (c_D_lost (by omega)) ?_
          refine hy_ior (i := 86) rfl ?_
          refine hy_iload (i := 87) rfl rfl ?_
          refine hy_cS1e (i := 88) rfl (by decide) mj_D_taken (by decide) rfl (Nat.le_of_ble_eq_true rfl) (c_D_taken (by omega)) ?_
          refine hy_const (i := 89) rfl (by decide) ?_
          refine hy_ixor (i := 90) rfl ?_
          refine hy_iand (i := 91) rfl ?_
          refine hy_cV3 (i := 92) rfl mj_U_worthWith (by decide) rfl (Nat.le_of_ble_eq_true rfl) rfl rfl rfl (c_U_worthWith (by assumption) (by assumption)) (fun r4_ t4_ h4 => ?_)
          obtain ⟨rfl, hF4⟩ := h4
          dsimp only [hy_st, List.cons_append, List.nil_append]
          rw [dl_worth_F hG hP e48]
          refine hy_iast (i := 93) rfl rfl (by omega) (k := k) (by omega) ?_
          refine hy_iinc (i := 94) rfl rfl (by omega) ?_
          refine hy_goto (i := 95) (tt := 69) rfl ?_
          refine ih (k + 1) t1 _ (by omega) hF ?_ h4 h5 hP hWA ?_
          · first | exact hF2 | exact (hF2.tr' (hF4.w (fun r j q => by revert q; simp [eX, f2X]; omega))).up rfl
          · intro w hw hc
            rcases Nat.lt_succ_iff_lt_or_eq.mp hw with h | rfl
            · first | exact hWB w h hc | (rw [hy_up_row]; unfold su; rw [if_neg (by omega), hF4 51 w rfl]; exact hWB w h hc)
            · first | (rw [hy_up_row]; unfold su; rw [if_pos rfl]; rfl) | (rw [e4, e5, hc] at zc2; cases zc2)
  have end1 : ∀ (n : Nat), ∀ (k : Nat) (t1 t2 : hy_T) , n + k = 144 → hy_F fX t t1 → hy_F f1X t1 t2 → t1 49 4 = hz_iand hb (hz_ixor ha (-1)) → t1 49 5 = hz_iand ha (hz_ixor hb (-1)) → (∀ c : Nat, c < 12 → t1 48 c = sp_price t a q 0 c) →
      (∀ w : Nat, w < k → dl_chosen (t1 49 4) (t1 49 5) w = true → t2 50 w = dl_worth t a q (dl_plainA ha w)) →
      hy_W sc hm_D_fight 5 34 [.inr (some 49), .inl a, .inl b, .inl q, .inl ha, .inl hb, .inl (k : Int)] [] t2 (fun r t' => r = none ∧ hy_F fX t t' ∧ ∃ t2 : hy_T, t2 49 4 = hz_iand hb (hz_ixor ha (-1)) ∧ t2 49 5 = hz_iand ha (hz_ixor hb (-1)) ∧
      (∀ w : Nat, w < 144 → dl_chosen (t2 49 4) (t2 49 5) w = true → t2 50 w = dl_worth t a q (dl_plainA ha w) ∧ t2 51 w = dl_worth t b q (dl_plainB hb w)) ∧ t' 49 6 = dl_twos t2 144 ∧ t' 49 7 = dl_a (dl_first t2 144) ∧ t' 49 8 = dl_b (dl_first t2 144)) := by
    intro n
    induction n with
    | zero =>
      intro k t1 t2 hn hF hF2 h4 h5 hP hWA
      obtain rfl : k = 144 := by omega
      have hG : hy_F fX t t2 := hF.tr' (hF2.w (fun r j q => by revert q; simp [fX, f1X]; omega))
      have e4 : t2 49 4 = t1 49 4 := hF2 49 4 rfl
      have e5 : t2 49 5 = t1 49 5 := hF2 49 5 rfl
      have hk2 := lc_ok_same (fX_law hG) hk
      refine hy_iload (i := 34) rfl rfl ?_
      refine hy_const (i := 35) rfl (by decide) ?_
      refine hy_ic_ge (i := 36) (tt := 61) rfl (fun zc1 => ?_) (fun zc1 => ?_)
      · refine hy_aload (i := 61) rfl rfl ?_
        refine hy_getr (i := 62) rfl rfl ?_
        refine hy_iload (i := 63) rfl rfl ?_
        refine hy_iload (i := 64) rfl rfl ?_
        refine hy_const (i := 65) rfl (by decide) ?_
        refine hy_cV3 (i := 66) rfl mj_U_price (by decide) rfl (Nat.le_of_ble_eq_true rfl) rfl rfl rfl (c_U_price (by assumption)) (fun r1_ t1_ h1 => ?_)
        obtain ⟨rfl, hP1, hF1⟩ := h1
        dsimp only [hy_st, List.nil_append]
        refine hy_const (i := 67) rfl (by decide) ?_
        refine hy_istore (i := 68) rfl ?_
        have hG1 : hy_F fX t t1_ := hG.tr' (hF1.w (fun r j q => by revert q; simp [fX, pX]; omega))
        exact end2 144 0 t1_ t1_ rfl hG1 hy_F.rf (by rw [hF1 49 4 rfl, e4, h4]) (by rw [hF1 49 5 rfl, e5, h5]) (fun c hc => by rw [hP1 c hc, sp_price_G hG (fX_law hG) (fun _ => rfl) (fun _ => rfl) (fun _ => rfl) rfl rfl]) (fun w hw hc => by rw [hF1 50 w rfl]; rw [hF1 49 4 rfl, hF1 49 5 rfl, e4, e5] at hc; exact hWA w hw hc) (fun w hw => by omega)
      · omega
    | succ n ih =>
      intro k t1 t2 hn hF hF2 h4 h5 hP hWA
      have hG : hy_F fX t t2 := hF.tr' (hF2.w (fun r j q => by revert q; simp [fX, f1X]; omega))
      have e4 : t2 49 4 = t1 49 4 := hF2 49 4 rfl
      have e5 : t2 49 5 = t1 49 5 := hF2 49 5 rfl
      have e48 : t2 48 = t1 48 := funext fun j => hF2 48 j rfl
      have hk2 := lc_ok_same (fX_law hG) hk
      have hp2 : ∀ c : Nat, c < 12 → 0 ≤ t2 48 c ∧ t2 48 c ≤ 6400 := fun c hc => by rw [e48, hP c hc]; exact sp_price_le t a q 0 c
      refine hy_iload (i := 34) rfl rfl ?_
      refine hy_const (i := 35) rfl (by decide) ?_
      refine hy_ic_ge (i := 36) (tt := 61) rfl (fun zc1 => ?_) (fun zc1 => ?_)
      · omega
      · refine hy_aload (i := 37) rfl rfl ?_
        refine hy_iload (i := 38) rfl rfl ?_
        refine hy_cV1e (i := 39) rfl mj_D_isChosen (by decide) rfl (Nat.le_of_ble_eq_true rfl) rfl rfl rfl (c_D_isChosen (by omega)) ?_
        refine hy_ib_eq (i := 40) (tt := 59) rfl (fun zc2 => ?_) (fun zc2 => ?_)
        · refine hy_iinc (i := 59) rfl rfl (by omega) ?_
          refine hy_goto (i := 60) (tt := 34) rfl ?_
          refine ih (k + 1) t1 _ (by omega) hF ?_ h4 h5 hP ?_
          · first | exact hF2 | exact (hF2.tr' (hF4.w (fun r j q => by revert q; simp [eX, f1X]; omega))).up rfl
          · intro w hw hc
            rcases Nat.lt_succ_iff_lt_or_eq.mp hw with h | rfl
            · first | exact hWA w h hc | (rw [hy_up_row]; unfold su; rw [if_neg (by omega), hF4 50 w rfl]; exact hWA w h hc)
            · first | (rw [hy_up_row]; unfold su; rw [if_pos rfl]; rfl) | (rw [e4, e5, hc] at zc2; cases zc2)
        · refine hy_aload (i := 41) rfl rfl ?_
          refine hy_getr (i := 42) rfl rfl ?_
          refine hy_iload (i := 43) rfl rfl ?_
          refine hy_aload (i := 44) rfl rfl ?_
          refine hy_getr (i := 45) rfl rfl ?_
          refine hy_iload (i := 46) rfl rfl ?_
          refine hy_iload (i := 47) rfl rfl ?_
          refine hy_iload (i := 48) rfl rfl ?_
          refine hy_iload (i := 49) rfl rfl ?_
          refine hy_cS1e (i := 50) rfl (by decide) mj_D_taken (by decide) rfl (Nat.le_of_ble_eq_true rfl) (c_D_taken (by omega)) ?_
          refine hy_ior (i := 51) rfl ?_
          refine hy_iload (i := 52) rfl rfl ?_
          refine hy_cS1e (i := 53) rfl (by decide) mj_D_lost (by decide) rfl (Nat.le_of_ble_eq_true rfl) (c_D_lost (by omega)) ?_
          refine hy_const (i := 54) rfl (by decide) ?_
          refine hy_ixor (i := 55) rfl ?_
          refine hy_iand (i := 56) rfl ?_
          refine hy_cV3 (i := 57) rfl mj_U_worthWith (by decide) rfl (Nat.le_of_ble_eq_true rfl) rfl rfl rfl (c_U_worthWith (by assumption) (by assumption)) (fun r4_ t4_ h4 => ?_)
          obtain ⟨rfl, hF4⟩ := h4
          dsimp only [hy_st, List.cons_append, List.nil_append]
          rw [dl_worth_F hG hP e48]
          refine hy_iast (i := 58) rfl rfl (by omega) (k := k) (by omega) ?_
          refine hy_iinc (i := 59) rfl rfl (by omega) ?_
          refine hy_goto (i := 60) (tt := 34) rfl ?_
          refine ih (k + 1) t1 _ (by omega) hF ?_ h4 h5 hP ?_
          · first | exact hF2 | exact (hF2.tr' (hF4.w (fun r j q => by revert q; simp [eX, f1X]; omega))).up rfl
          · intro w hw hc
            rcases Nat.lt_succ_iff_lt_or_eq.mp hw with h | rfl
            · first | exact hWA w h hc | (rw [hy_up_row]; unfold su; rw [if_neg (by omega), hF4 50 w rfl]; exact hWA w h hc)
            · first | (rw [hy_up_row]; unfold su; rw [if_pos rfl]; rfl) | (rw [e4, e5, hc] at zc2; cases zc2)
  have k0 : lc_ok (hy_up (hy_up t 49 4 (hz_iand hb (hz_ixor ha (-1)))) 49 5 (hz_iand ha (hz_ixor hb (-1)))) := lc_ok_same (fX_law ((hy_F.rf.up rfl).up rfl)) hk
  refine hy_aload (i := 0) rfl rfl ?_
  refine hy_getr (i := 1) rfl rfl ?_
  refine hy_iload (i := 2) rfl rfl ?_
  refine hy_iload (i := 3) rfl rfl ?_
  refine hy_cV2e (i := 4) rfl mj_S_had (by decide) rfl (Nat.le_of_ble_eq_true rfl) rfl rfl rfl (c_S_had_33) ?_
  rw [hA]
  refine hy_istore (i := 5) rfl ?_
  refine hy_aload (i := 6) rfl rfl ?_
  refine hy_getr (i := 7) rfl rfl ?_
  refine hy_iload (i := 8) rfl rfl ?_
  refine hy_iload (i := 9) rfl rfl ?_
  refine hy_cV2e (i := 10) rfl mj_S_had (by decide) rfl (Nat.le_of_ble_eq_true rfl) rfl rfl rfl (c_S_had_33) ?_
  rw [hB]
  refine hy_istore (i := 11) rfl ?_
  refine hy_aload (i := 12) rfl rfl ?_
  refine hy_iload (i := 13) rfl rfl ?_
  refine hy_iload (i := 14) rfl rfl ?_
  refine hy_const (i := 15) rfl (by decide) ?_
  refine hy_ixor (i := 16) rfl ?_
  refine hy_iand (i := 17) rfl ?_
  refine hy_put (i := 18) (fk := 4) rfl rfl rfl rfl ?_
  refine hy_aload (i := 19) rfl rfl ?_
  refine hy_iload (i := 20) rfl rfl ?_
  refine hy_iload (i := 21) rfl rfl ?_
  refine hy_const (i := 22) rfl (by decide) ?_
  refine hy_ixor (i := 23) rfl ?_
  refine hy_iand (i := 24) rfl ?_
  refine hy_put (i := 25) (fk := 5) rfl rfl rfl rfl ?_
  refine hy_aload (i := 26) rfl rfl ?_
  refine hy_getr (i := 27) rfl rfl ?_
  refine hy_iload (i := 28) rfl rfl ?_
  refine hy_iload (i := 29) rfl rfl ?_
  refine hy_const (i := 30) rfl (by decide) ?_
  refine hy_cV3 (i := 31) rfl mj_U_price (by decide) rfl (Nat.le_of_ble_eq_true rfl) rfl rfl rfl (c_U_price (by assumption)) (fun r3_ t3_ h3 => ?_)
  obtain ⟨rfl, hP3, hF3⟩ := h3
  dsimp only [hy_st, List.nil_append]
  refine hy_const (i := 32) rfl (by decide) ?_
  refine hy_istore (i := 33) rfl ?_
  have hX : hy_F fX t (hy_up (hy_up t 49 4 (hz_iand hb (hz_ixor ha (-1)))) 49 5 (hz_iand ha (hz_ixor hb (-1)))) := (hy_F.rf.up rfl).up rfl
  exact end1 144 0 _ _ rfl (hX.tr' (hF3.w (fun r j q => by revert q; simp [fX, pX]; omega))) hy_F.rf (by rw [hF3 49 4 rfl]; rfl) (by rw [hF3 49 5 rfl]; rfl) (fun c hc => by rw [hP3 c hc, sp_price_G hX (fX_law hX) (fun _ => rfl) (fun _ => rfl) (fun _ => rfl) rfl rfl]) (fun w hw => by omega)
end FI
