/-! the class's signals and ash as they are asked -/
theorem wf_sig_eq {P P' : Nat → Int} (h : ∀ c : Nat, c < 12 → P c = P' c) (s : Int) : wf_sig P s = wf_sig P' s := by
  unfold wf_sig
  exact decide_eq_decide.mpr ⟨fun a c hc hb => by rw [← h c hc]; exact a c hc hb, fun a c hc hb => by rw [h c hc]; exact a c hc hb⟩
theorem wf_setsN_eq {P P' : Nat → Int} (h : ∀ c : Nat, c < 12 → P c = P' c) (n : Int) : ∀ k, wf_setsN P n k = wf_setsN P' n k
  | 0 => rfl
  | k + 1 => by rw [wf_setsN_e, wf_setsN_e, wf_setsN_eq h n k, wf_sig_eq h]
theorem wf_firstN_eq {P P' : Nat → Int} (h : ∀ c : Nat, c < 12 → P c = P' c) (n : Int) : ∀ m k, wf_firstN P n m k = wf_firstN P' n m k
  | 0, _ => rfl
  | m + 1, k => by
    show (if sp_bc k = n ∧ wf_sig P k = true then (k : Int) else wf_firstN P n m (k + 1)) = (if sp_bc k = n ∧ wf_sig P' k = true then (k : Int) else wf_firstN P' n m (k + 1))
    rw [wf_firstN_eq h n m, wf_sig_eq h]
theorem wf_mostN_eq {P P' : Nat → Int} (h : ∀ c : Nat, c < 12 → P c = P' c) : ∀ m, wf_mostN P m = wf_mostN P' m
  | 0 => rfl
  | m + 1 => by
    show (if 0 ≤ wf_firstN P ((m : Int) + 2) 4096 0 then (m : Int) + 2 else wf_mostN P m) = (if 0 ≤ wf_firstN P' ((m : Int) + 2) 4096 0 then (m : Int) + 2 else wf_mostN P' m)
    rw [wf_mostN_eq h m, wf_firstN_eq h]
abbrev wf_sigok (n fr fo q w : Int) : Prop := ((1 ≤ fr ∧ fr < 64) ∧ 0 ≤ fo ∧ fo < 64) ∧ (hz_iand fr fo = 0 ∧ (0 ≤ q ∧ q < 4) ∧ 0 ≤ w ∧ w < 3) ∧ (w = 2 ∨ 2 ≤ n ∧ n ≤ 6)
def wf_signals (t : hy_T) (n fr fo q w : Int) : Int :=
  if wf_sigok n fr fo q w then (if w = 0 then wf_setsN (wf_pr t q fr fo 6) n 4096 else if w = 1 then wf_firstN (wf_pr t q fr fo 6) n 4096 0 else wf_mostN (wf_pr t q fr fo 6) 5) else -1
def wf_ashN (t : hy_T) : Nat → hy_T
  | 0 => t
  | n + 1 => hy_up (wf_ashN t n) 53 n (if lk (t 46) (t 9 n) = 12 then 1 else 0)
theorem wf_ashN_F (t : hy_T) : ∀ n, hy_F (fun r _ => r == 53) t (wf_ashN t n)
  | 0 => hy_F.rf
  | n + 1 => (wf_ashN_F t n).up rfl
def wf_ashes (t : hy_T) : Nat → Int
  | 0 => 0
  | n + 1 => wf_ashes t n + (if lk (t 46) (t 9 n) = 12 then 1 else 0)
theorem wf_ashes_in (t : hy_T) : ∀ n : Nat, 0 ≤ wf_ashes t n ∧ wf_ashes t n ≤ n
  | 0 => by simp [wf_ashes]
  | n + 1 => by
    have h := wf_ashes_in t n
    simp only [wf_ashes]
    split <;> omega
abbrev asX : Nat → Nat → Bool := fun r _ => r == 17 || r == 18 || r == 46 || r == 52 || r == 53 || r == 54 || r == 55 || r == 56
section WSG
variable {sc : List Int32} {t : hy_T}
theorem c_W_signals {n fr fo q w : Int} (hk : lc_ok t) : hy_Ct sc hm_W_signals 6 [.inr (some 2), .inl n, .inl fr, .inl fo, .inl q, .inl w] t (fun r t' => r = some (wf_signals t n fr fo q w) ∧ hy_F snX t t') := by
  refine hy_mk_ct ok_W_signals ck_W_signals (Nat.le_of_ble_eq_true rfl) ?_
  by_cases hq : wf_sigok n fr fo q w
  · have ea : wf_signals t n fr fo q w = if w = 0 then wf_setsN (wf_pr t q fr fo 6) n 4096 else if w = 1 then wf_firstN (wf_pr t q fr fo 6) n 4096 0 else wf_mostN (wf_pr t q fr fo 6) 5 := if_pos hq
    rw [ea]
    have fin : hy_W sc hm_W_signals 6 37 [.inr (some 2), .inl n, .inl fr, .inl fo, .inl q, .inl w] [] t (fun r t' => r = some (if w = 0 then wf_setsN (wf_pr t q fr fo 6) n 4096 else if w = 1 then wf_firstN (wf_pr t q fr fo 6) n 4096 0 else wf_mostN (wf_pr t q fr fo 6) 5) ∧ hy_F snX t t') := by
      refine hy_aload (i := 37) rfl rfl ?_
      refine hy_iload (i := 38) rfl rfl ?_
      refine hy_iload (i := 39) rfl rfl ?_
      refine hy_iload (i := 40) rfl rfl ?_
      refine hy_cV3 (i := 41) rfl mj_W_findPartners (by decide) rfl (Nat.le_of_ble_eq_true rfl) rfl rfl rfl (c_W_findPartners (by assumption)) (fun r1_ t1_ h1 => ?_)
      obtain ⟨rfl, hP1, hF1⟩ := h1
      dsimp only [hy_st, List.nil_append]
      refine hy_iload (i := 42) rfl rfl ?_
      by_cases zq1 : w = 0
      · refine hy_lsw (i := 43) (tt := 44) rfl (by rw [zq1]; rfl) ?_
        refine hy_aload (i := 44) rfl rfl ?_
        refine hy_iload (i := 45) rfl rfl ?_
        refine hy_cV1e (i := 46) rfl mj_W_setsOf (by decide) rfl (Nat.le_of_ble_eq_true rfl) rfl rfl rfl (c_W_setsOf) ?_
        refine hy_ireturn (i := 47) rfl rfl ?_
        exact ⟨by rw [if_pos (by assumption), wf_setsN_eq hP1], hF1⟩
      · skip
        by_cases zq1 : w = 1
        · refine hy_lsw (i := 43) (tt := 48) rfl (by rw [zq1]; rfl) ?_
          refine hy_aload (i := 48) rfl rfl ?_
          refine hy_iload (i := 49) rfl rfl ?_
          refine hy_cV1e (i := 50) rfl mj_W_firstSetOf (by decide) rfl (Nat.le_of_ble_eq_true rfl) rfl rfl rfl (c_W_firstSetOf) ?_
          refine hy_ireturn (i := 51) rfl rfl ?_
          exact ⟨by rw [if_neg (by omega), if_pos (by assumption), wf_firstN_eq hP1], hF1⟩
        · skip
          refine hy_lsw (i := 43) (tt := 52) rfl (by simp [hx_look]; omega) ?_
          refine hy_aload (i := 52) rfl rfl ?_
          refine hy_cV0e (i := 53) rfl mj_W_mostSignals (by decide) rfl (Nat.le_of_ble_eq_true rfl) rfl rfl rfl (c_W_mostSignals) ?_
          refine hy_ireturn (i := 54) rfl rfl ?_
          exact ⟨by rw [if_neg (by omega), if_neg (by omega), wf_mostN_eq hP1], hF1⟩
    refine hy_iload (i := 0) rfl rfl ?_
    refine hy_const (i := 1) rfl (by decide) ?_
    refine hy_ic_lt (i := 2) (tt := 11) rfl (fun zc1 => ?_) (fun zc1 => ?_)
    · omega
    · refine hy_iload (i := 3) rfl rfl ?_
      refine hy_const (i := 4) rfl (by decide) ?_
      refine hy_ic_ge (i := 5) (tt := 11) rfl (fun zc2 => ?_) (fun zc2 => ?_)
      · omega
      · refine hy_iload (i := 6) rfl rfl ?_
        refine hy_if_lt (i := 7) (tt := 11) rfl (fun zc3 => ?_) (fun zc3 => ?_)
        · omega
        · refine hy_iload (i := 8) rfl rfl ?_
          refine hy_const (i := 9) rfl (by decide) ?_
          refine hy_ic_lt (i := 10) (tt := 13) rfl (fun zc4 => ?_) (fun zc4 => ?_)
          · refine hy_iload (i := 13) rfl rfl ?_
            refine hy_iload (i := 14) rfl rfl ?_
            refine hy_iand (i := 15) rfl ?_
            refine hy_if_ne (i := 16) (tt := 24) rfl (fun zc5 => ?_) (fun zc5 => ?_)
            · exact absurd hq.2.1.1 (by assumption)
            · refine hy_iload (i := 17) rfl rfl ?_
              refine hy_cS1e (i := 18) rfl (by decide) mj_W_isQuarter (by decide) rfl (Nat.le_of_ble_eq_true rfl) (c_W_isQuarter) ?_
              refine hy_ib_eq (i := 19) (tt := 24) rfl (fun zc6 => ?_) (fun zc6 => ?_)
              · simp at zc6; omega
              · refine hy_iload (i := 20) rfl rfl ?_
                refine hy_const (i := 21) rfl (by decide) ?_
                refine hy_cS2e (i := 22) rfl (by decide) mj_W_isAmong (by decide) rfl (Nat.le_of_ble_eq_true rfl) (c_W_isAmong) ?_
                refine hy_ib_ne (i := 23) (tt := 26) rfl (fun zc7 => ?_) (fun zc7 => ?_)
                · refine hy_iload (i := 26) rfl rfl ?_
                  refine hy_const (i := 27) rfl (by decide) ?_
                  refine hy_ic_eq (i := 28) (tt := 37) rfl (fun zc8 => ?_) (fun zc8 => ?_)
                  · exact fin
                  · refine hy_iload (i := 29) rfl rfl ?_
                    refine hy_const (i := 30) rfl (by decide) ?_
                    refine hy_ic_lt (i := 31) (tt := 35) rfl (fun zc9 => ?_) (fun zc9 => ?_)
                    · omega
                    · refine hy_iload (i := 32) rfl rfl ?_
                      refine hy_const (i := 33) rfl (by decide) ?_
                      refine hy_ic_le (i := 34) (tt := 37) rfl (fun zc10 => ?_) (fun zc10 => ?_)
                      · exact fin
                      · omega
                · simp at zc7; omega
          · omega
  · have ea : wf_signals t n fr fo q w = -1 := if_neg hq
    rw [ea]
    refine hy_iload (i := 0) rfl rfl ?_
    refine hy_const (i := 1) rfl (by decide) ?_
    refine hy_ic_lt (i := 2) (tt := 11) rfl (fun zc1 => ?_) (fun zc1 => ?_)
    · refine hy_const (i := 11) rfl (by decide) ?_
      refine hy_ireturn (i := 12) rfl rfl ?_
      exact ⟨rfl, hy_F.rf⟩
    · refine hy_iload (i := 3) rfl rfl ?_
      refine hy_const (i := 4) rfl (by decide) ?_
      refine hy_ic_ge (i := 5) (tt := 11) rfl (fun zc2 => ?_) (fun zc2 => ?_)
      · refine hy_const (i := 11) rfl (by decide) ?_
        refine hy_ireturn (i := 12) rfl rfl ?_
        exact ⟨rfl, hy_F.rf⟩
      · refine hy_iload (i := 6) rfl rfl ?_
        refine hy_if_lt (i := 7) (tt := 11) rfl (fun zc3 => ?_) (fun zc3 => ?_)
        · refine hy_const (i := 11) rfl (by decide) ?_
          refine hy_ireturn (i := 12) rfl rfl ?_
          exact ⟨rfl, hy_F.rf⟩
        · refine hy_iload (i := 8) rfl rfl ?_
          refine hy_const (i := 9) rfl (by decide) ?_
          refine hy_ic_lt (i := 10) (tt := 13) rfl (fun zc4 => ?_) (fun zc4 => ?_)
          · refine hy_iload (i := 13) rfl rfl ?_
            refine hy_iload (i := 14) rfl rfl ?_
            refine hy_iand (i := 15) rfl ?_
            refine hy_if_ne (i := 16) (tt := 24) rfl (fun zc5 => ?_) (fun zc5 => ?_)
            · refine hy_const (i := 24) rfl (by decide) ?_
              refine hy_ireturn (i := 25) rfl rfl ?_
              exact ⟨rfl, hy_F.rf⟩
            · refine hy_iload (i := 17) rfl rfl ?_
              refine hy_cS1e (i := 18) rfl (by decide) mj_W_isQuarter (by decide) rfl (Nat.le_of_ble_eq_true rfl) (c_W_isQuarter) ?_
              refine hy_ib_eq (i := 19) (tt := 24) rfl (fun zc6 => ?_) (fun zc6 => ?_)
              · refine hy_const (i := 24) rfl (by decide) ?_
                refine hy_ireturn (i := 25) rfl rfl ?_
                exact ⟨rfl, hy_F.rf⟩
              · refine hy_iload (i := 20) rfl rfl ?_
                refine hy_const (i := 21) rfl (by decide) ?_
                refine hy_cS2e (i := 22) rfl (by decide) mj_W_isAmong (by decide) rfl (Nat.le_of_ble_eq_true rfl) (c_W_isAmong) ?_
                refine hy_ib_ne (i := 23) (tt := 26) rfl (fun zc7 => ?_) (fun zc7 => ?_)
                · refine hy_iload (i := 26) rfl rfl ?_
                  refine hy_const (i := 27) rfl (by decide) ?_
                  refine hy_ic_eq (i := 28) (tt := 37) rfl (fun zc8 => ?_) (fun zc8 => ?_)
                  · exfalso; simp only [decide_eq_true_eq] at zc6 zc7; exact hq ⟨⟨⟨by omega, by omega⟩, by omega, by omega⟩, ⟨by first | assumption | (exact Classical.byContradiction (by assumption)), zc6, zc7⟩, .inl (by omega)⟩
                  · refine hy_iload (i := 29) rfl rfl ?_
                    refine hy_const (i := 30) rfl (by decide) ?_
                    refine hy_ic_lt (i := 31) (tt := 35) rfl (fun zc9 => ?_) (fun zc9 => ?_)
                    · refine hy_const (i := 35) rfl (by decide) ?_
                      refine hy_ireturn (i := 36) rfl rfl ?_
                      exact ⟨rfl, hy_F.rf⟩
                    · refine hy_iload (i := 32) rfl rfl ?_
                      refine hy_const (i := 33) rfl (by decide) ?_
                      refine hy_ic_le (i := 34) (tt := 37) rfl (fun zc10 => ?_) (fun zc10 => ?_)
                      · exfalso; simp only [decide_eq_true_eq] at zc6 zc7; exact hq ⟨⟨⟨by omega, by omega⟩, by omega, by omega⟩, ⟨by first | assumption | (exact Classical.byContradiction (by assumption)), zc6, zc7⟩, .inr (by omega)⟩
                      · refine hy_const (i := 35) rfl (by decide) ?_
                        refine hy_ireturn (i := 36) rfl rfl ?_
                        exact ⟨rfl, hy_F.rf⟩
                · refine hy_const (i := 24) rfl (by decide) ?_
                  refine hy_ireturn (i := 25) rfl rfl ?_
                  exact ⟨rfl, hy_F.rf⟩
          · refine hy_const (i := 11) rfl (by decide) ?_
            refine hy_ireturn (i := 12) rfl rfl ?_
            exact ⟨rfl, hy_F.rf⟩
theorem c_W_ash {e q w : Int} (hk : lc_ok t) (hs : pa_stk t) : hy_Ct sc hm_W_ash 5 [.inr (some 2), .inl e, .inl q, .inl w] t (fun r t' => if ((0 ≤ e ∧ e < 6) ∧ 0 ≤ q ∧ q < 4) ∧ 0 ≤ w ∧ w < 3 then ∃ t1 : hy_T, hy_F lX t t1 ∧ t1 46 = wf_as t e q ∧ t' = pa_seaN (wf_ashN t1 64) 64 ∧ r = some (if w = 0 then wf_ashes t1 64 else if w = 1 then t' 52 5 else t' 52 4) else r = some (-1) ∧ t' = t) := by
  refine hy_mk_ct ok_W_ash ck_W_ash (Nat.le_of_ble_eq_true rfl) ?_
  by_cases hq : ((0 ≤ e ∧ e < 6) ∧ 0 ≤ q ∧ q < 4) ∧ 0 ≤ w ∧ w < 3
  · simp only [if_pos hq]
    have loop : ∀ (t1 : hy_T), hy_F lX t t1 → t1 46 = wf_as t e q → ∀ (m : Nat), ∀ (k : Nat) (t2 : hy_T) (v6 : hy_V), m + k = 64 → t2 = wf_ashN t1 k → hy_W sc hm_W_ash 5 21 [.inr (some 2), .inl e, .inl q, .inl w, .inl (wf_ashes t1 k), .inl (k : Int), v6] [] t2 (fun r t' => ∃ t1 : hy_T, hy_F lX t t1 ∧ t1 46 = wf_as t e q ∧ t' = pa_seaN (wf_ashN t1 64) 64 ∧ r = some (if w = 0 then wf_ashes t1 64 else if w = 1 then t' 52 5 else t' 52 4)) := by
      intro t1 hF ha m
      induction m with
      | zero =>
        intro k t2 v6 hm ht
        obtain rfl : k = 64 := by omega
        have hs2 : pa_stk t2 := by rw [ht]; exact pa_stk_F (wf_ashN_F t1 64) (fun _ => rfl) (pa_stk_F hF (fun _ => rfl) hs)
        refine hy_iload (i := 21) rfl rfl ?_
        refine hy_const (i := 22) rfl (by decide) ?_
        refine hy_ic_ge (i := 23) (tt := 52) rfl (fun zc1 => ?_) (fun zc1 => ?_)
        · refine hy_aload (i := 52) rfl rfl ?_
          refine hy_getr (i := 53) rfl rfl ?_
          refine hy_cV0v (i := 54) rfl mj_A_findSeas (by decide) rfl (Nat.le_of_ble_eq_true rfl) rfl rfl rfl (c_A_findSeas (by assumption)) ?_
          refine hy_iload (i := 55) rfl rfl ?_
          by_cases zq2 : w = 0
          · refine hy_lsw (i := 56) (tt := 57) rfl (by rw [zq2]; rfl) ?_
            refine hy_iload (i := 57) rfl rfl ?_
            refine hy_ireturn (i := 58) rfl rfl ?_
            exact ⟨t1, hF, ha, by rw [ht], by rw [if_pos (by assumption)]⟩
          · skip
            by_cases zq2 : w = 1
            · refine hy_lsw (i := 56) (tt := 59) rfl (by rw [zq2]; rfl) ?_
              refine hy_aload (i := 59) rfl rfl ?_
              refine hy_getr (i := 60) rfl rfl ?_
              refine hy_cV0e (i := 61) rfl mj_A_largestSea (by decide) rfl (Nat.le_of_ble_eq_true rfl) rfl rfl rfl (c_A_largestSea) ?_
              refine hy_ireturn (i := 62) rfl rfl ?_
              exact ⟨t1, hF, ha, by rw [ht], by rw [if_neg (by omega), if_pos (by assumption)]⟩
            · skip
              refine hy_lsw (i := 56) (tt := 63) rfl (by simp [hx_look]; omega) ?_
              refine hy_aload (i := 63) rfl rfl ?_
              refine hy_getr (i := 64) rfl rfl ?_
              refine hy_cV0e (i := 65) rfl mj_A_seas (by decide) rfl (Nat.le_of_ble_eq_true rfl) rfl rfl rfl (c_A_seas) ?_
              refine hy_ireturn (i := 66) rfl rfl ?_
              exact ⟨t1, hF, ha, by rw [ht], by rw [if_neg (by omega), if_neg (by omega)]⟩
        · omega
      | succ m ih =>
        intro k t2 v6 hm ht
        have hin := wf_ashes_in t1 k
        have e46 : t2 46 = t1 46 := by rw [ht]; exact funext fun j => wf_ashN_F t1 k 46 j rfl
        have e9 : t2 9 k = t1 9 k := by rw [ht]; exact wf_ashN_F t1 k 9 k rfl
        by_cases hl : lk (t1 46) (t1 9 k) = 12
        · have es : wf_ashes t1 (k + 1) = wf_ashes t1 k + 1 := by simp only [wf_ashes]; rw [if_pos hl]
          refine hy_iload (i := 21) rfl rfl ?_
          refine hy_const (i := 22) rfl (by decide) ?_
          refine hy_ic_ge (i := 23) (tt := 52) rfl (fun zc1 => ?_) (fun zc1 => ?_)
          · omega
          · refine hy_aload (i := 24) rfl rfl ?_
            refine hy_getr (i := 25) rfl rfl ?_
            refine hy_aload (i := 26) rfl rfl ?_
            refine hy_getr (i := 27) rfl rfl ?_
            refine hy_iload (i := 28) rfl rfl ?_
            refine hy_cV1e (i := 29) rfl mj_G_at (by decide) rfl (Nat.le_of_ble_eq_true rfl) rfl rfl rfl (c_G_at) ?_
            rw [if_pos (show 0 ≤ (k : Int) ∧ (k : Int) < 64 by omega), show t2 9 (k : Int).toNat = t1 9 k from e9]
            refine hy_cV1e (i := 30) rfl mj_E_looks (by decide) rfl (Nat.le_of_ble_eq_true rfl) rfl rfl rfl (c_E_looks) ?_
            rw [e46]
            refine hy_const (i := 31) rfl (by decide) ?_
            refine hy_ic_ne (i := 32) (tt := 35) rfl (fun zc2 => ?_) (fun zc2 => ?_)
            · exact absurd hl (by assumption)
            · refine hy_const (i := 33) rfl (by decide) ?_
              refine hy_goto (i := 34) (tt := 36) rfl ?_
              refine hy_istore (i := 36) rfl ?_
              refine hy_aload (i := 37) rfl rfl ?_
              refine hy_getr (i := 38) rfl rfl ?_
              refine hy_iload (i := 39) rfl rfl ?_
              refine hy_iload (i := 40) rfl rfl ?_
              refine hy_cV2v (i := 41) rfl mj_A_mark (by decide) rfl (Nat.le_of_ble_eq_true rfl) rfl rfl rfl (c_A_mark (.inr rfl)) ?_
              rw [if_pos (show 0 ≤ (k : Int) ∧ (k : Int) < 64 by omega)]
              refine hy_iload (i := 42) rfl rfl ?_
              refine hy_iload (i := 43) rfl rfl ?_
              refine hy_if_eq (i := 44) (tt := 47) rfl (fun zc3 => ?_) (fun zc3 => ?_)
              · exact absurd zc3 (by decide)
              · refine hy_const (i := 45) rfl (by decide) ?_
                refine hy_goto (i := 46) (tt := 48) rfl ?_
                refine hy_iadd (i := 48) rfl (by omega) ?_
                refine hy_istore (i := 49) rfl ?_
                refine hy_iinc (i := 50) rfl rfl (by omega) ?_
                refine hy_goto (i := 51) (tt := 21) rfl ?_
                rw [← es]
                exact ih (k + 1) _ _ (by omega) (by rw [ht]; simp only [wf_ashN]; rw [if_pos hl]; rfl)
        · have es : wf_ashes t1 (k + 1) = wf_ashes t1 k + 0 := by simp only [wf_ashes]; rw [if_neg hl]
          refine hy_iload (i := 21) rfl rfl ?_
          refine hy_const (i := 22) rfl (by decide) ?_
          refine hy_ic_ge (i := 23) (tt := 52) rfl (fun zc1 => ?_) (fun zc1 => ?_)
          · omega
          · refine hy_aload (i := 24) rfl rfl ?_
            refine hy_getr (i := 25) rfl rfl ?_
            refine hy_aload (i := 26) rfl rfl ?_
            refine hy_getr (i := 27) rfl rfl ?_
            refine hy_iload (i := 28) rfl rfl ?_
            refine hy_cV1e (i := 29) rfl mj_G_at (by decide) rfl (Nat.le_of_ble_eq_true rfl) rfl rfl rfl (c_G_at) ?_
            rw [if_pos (show 0 ≤ (k : Int) ∧ (k : Int) < 64 by omega), show t2 9 (k : Int).toNat = t1 9 k from e9]
            refine hy_cV1e (i := 30) rfl mj_E_looks (by decide) rfl (Nat.le_of_ble_eq_true rfl) rfl rfl rfl (c_E_looks) ?_
            rw [e46]
            refine hy_const (i := 31) rfl (by decide) ?_
            refine hy_ic_ne (i := 32) (tt := 35) rfl (fun zc2 => ?_) (fun zc2 => ?_)
            · refine hy_const (i := 35) rfl (by decide) ?_
              refine hy_istore (i := 36) rfl ?_
              refine hy_aload (i := 37) rfl rfl ?_
              refine hy_getr (i := 38) rfl rfl ?_
              refine hy_iload (i := 39) rfl rfl ?_
              refine hy_iload (i := 40) rfl rfl ?_
              refine hy_cV2v (i := 41) rfl mj_A_mark (by decide) rfl (Nat.le_of_ble_eq_true rfl) rfl rfl rfl (c_A_mark (.inl rfl)) ?_
              rw [if_pos (show 0 ≤ (k : Int) ∧ (k : Int) < 64 by omega)]
              refine hy_iload (i := 42) rfl rfl ?_
              refine hy_iload (i := 43) rfl rfl ?_
              refine hy_if_eq (i := 44) (tt := 47) rfl (fun zc3 => ?_) (fun zc3 => ?_)
              · refine hy_const (i := 47) rfl (by decide) ?_
                refine hy_iadd (i := 48) rfl (by omega) ?_
                refine hy_istore (i := 49) rfl ?_
                refine hy_iinc (i := 50) rfl rfl (by omega) ?_
                refine hy_goto (i := 51) (tt := 21) rfl ?_
                rw [← es]
                exact ih (k + 1) _ _ (by omega) (by rw [ht]; simp only [wf_ashN]; rw [if_neg hl]; rfl)
              · exact absurd rfl zc3
            · exact absurd (by first | assumption | (exact Classical.byContradiction (by assumption))) hl
    refine hy_iload (i := 0) rfl rfl ?_
    refine hy_cS1e (i := 1) rfl (by decide) mj_W_isEmpire (by decide) rfl (Nat.le_of_ble_eq_true rfl) (c_W_isEmpire) ?_
    refine hy_ib_eq (i := 2) (tt := 10) rfl (fun zc1 => ?_) (fun zc1 => ?_)
    · simp at zc1; omega
    · refine hy_iload (i := 3) rfl rfl ?_
      refine hy_cS1e (i := 4) rfl (by decide) mj_W_isQuarter (by decide) rfl (Nat.le_of_ble_eq_true rfl) (c_W_isQuarter) ?_
      refine hy_ib_eq (i := 5) (tt := 10) rfl (fun zc2 => ?_) (fun zc2 => ?_)
      · simp at zc2; omega
      · refine hy_iload (i := 6) rfl rfl ?_
        refine hy_const (i := 7) rfl (by decide) ?_
        refine hy_cS2e (i := 8) rfl (by decide) mj_W_isAmong (by decide) rfl (Nat.le_of_ble_eq_true rfl) (c_W_isAmong) ?_
        refine hy_ib_ne (i := 9) (tt := 12) rfl (fun zc3 => ?_) (fun zc3 => ?_)
        · refine hy_aload (i := 12) rfl rfl ?_
          refine hy_getr (i := 13) rfl rfl ?_
          refine hy_iload (i := 14) rfl rfl ?_
          refine hy_iload (i := 15) rfl rfl ?_
          refine hy_cV2 (i := 16) rfl mj_E_look (by decide) rfl (Nat.le_of_ble_eq_true rfl) rfl rfl rfl (c_E_look (by assumption)) (fun r4_ t4_ h4 => ?_)
          obtain ⟨rfl, hL4, hF4⟩ := h4
          dsimp only [hy_st, List.nil_append]
          refine hy_const (i := 17) rfl (by decide) ?_
          refine hy_istore (i := 18) rfl ?_
          refine hy_const (i := 19) rfl (by decide) ?_
          refine hy_istore (i := 20) rfl ?_
          exact loop _ hF4 hL4 64 0 _ _ rfl rfl
        · simp at zc3; omega
  · simp only [if_neg hq]
    refine hy_iload (i := 0) rfl rfl ?_
    refine hy_cS1e (i := 1) rfl (by decide) mj_W_isEmpire (by decide) rfl (Nat.le_of_ble_eq_true rfl) (c_W_isEmpire) ?_
    refine hy_ib_eq (i := 2) (tt := 10) rfl (fun zc1 => ?_) (fun zc1 => ?_)
    · refine hy_const (i := 10) rfl (by decide) ?_
      refine hy_ireturn (i := 11) rfl rfl ?_
      exact ⟨rfl, rfl⟩
    · refine hy_iload (i := 3) rfl rfl ?_
      refine hy_cS1e (i := 4) rfl (by decide) mj_W_isQuarter (by decide) rfl (Nat.le_of_ble_eq_true rfl) (c_W_isQuarter) ?_
      refine hy_ib_eq (i := 5) (tt := 10) rfl (fun zc2 => ?_) (fun zc2 => ?_)
      · refine hy_const (i := 10) rfl (by decide) ?_
        refine hy_ireturn (i := 11) rfl rfl ?_
        exact ⟨rfl, rfl⟩
      · refine hy_iload (i := 6) rfl rfl ?_
        refine hy_const (i := 7) rfl (by decide) ?_
        refine hy_cS2e (i := 8) rfl (by decide) mj_W_isAmong (by decide) rfl (Nat.le_of_ble_eq_true rfl) (c_W_isAmong) ?_
        refine hy_ib_ne (i := 9) (tt := 12) rfl (fun zc3 => ?_) (fun zc3 => ?_)
        · exfalso; simp at zc1 zc2 zc3; exact hq ⟨⟨zc1, zc2⟩, zc3⟩
        · refine hy_const (i := 10) rfl (by decide) ?_
          refine hy_ireturn (i := 11) rfl rfl ?_
          exact ⟨rfl, rfl⟩
end WSG
