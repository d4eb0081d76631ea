/-! the class's ground and purse -/
def sp_fields (t : hy_T) (e c : Int) : Nat → Int
  | 0 => 0
  | n + 1 => sp_fields t e c n + (if t 9 n = c ∧ t 35 n = e then 1 else 0)
theorem sp_fields_le (t : hy_T) (e c : Int) : ∀ n : Nat, 0 ≤ sp_fields t e c n ∧ sp_fields t e c n ≤ n
  | 0 => by simp [sp_fields]
  | n + 1 => by
    have h := sp_fields_le t e c n
    simp only [sp_fields]
    split <;> omega
theorem lc_clamp_le {m : Int} (hm : 0 ≤ m) (v : Int) : 0 ≤ lc_clamp m v ∧ lc_clamp m v ≤ m := by
  unfold lc_clamp
  split <;> split <;> omega
theorem lc_amt_le (t : hy_T) (V : Nat → Int) (k : Int) {m : Int} (hm : 0 ≤ m) : 0 ≤ lc_amt t V k m ∧ lc_amt t V k m ≤ m := by
  have h : ∀ n j, 0 ≤ lc_amtN t V k m n j ∧ lc_amtN t V k m n j ≤ m := by
    intro n
    induction n with
    | zero => intro j; simp [lc_amtN, hm]
    | succ n ih =>
      intro j
      simp only [lc_amtN]
      split
      · exact lc_clamp_le hm _
      · exact ih _
  exact h _ _
def sp_priceOf (t : hy_T) (e c q n g : Int) : Int := lc_amt t (LV e c q (t 33 4) (hy_b (sp_told (t 5 3) c)) 0 0 n g 0) 118 99
def sp_price (t : hy_T) (e q sup c : Int) : Int := if 0 < sp_fields t e c 64 then sp_fields t e c 64 * sp_priceOf t e c q (sp_fields t e c 64) (sp_bc (hz_ior (sp_hav (t 34) c q) (hz_ishl (hy_b (hz_b sup c)) e))) else 0
theorem sp_priceOf_le (t : hy_T) (e c q n g : Int) : 0 ≤ sp_priceOf t e c q n g ∧ sp_priceOf t e c q n g ≤ 99 := lc_amt_le t _ 118 (by decide)
theorem sp_price_le (t : hy_T) (e q sup c : Int) : 0 ≤ sp_price t e q sup c ∧ sp_price t e q sup c ≤ 6400 := by
  unfold sp_price
  have h1 := sp_fields_le t e c 64
  split
  · have h2 := sp_priceOf_le t e c q (sp_fields t e c 64) (sp_bc (hz_ior (sp_hav (t 34) c q) (hz_ishl (hy_b (hz_b sup c)) e)))
    generalize sp_priceOf t e c q (sp_fields t e c 64) (sp_bc (hz_ior (sp_hav (t 34) c q) (hz_ishl (hy_b (hz_b sup c)) e))) = p at h2
    generalize sp_fields t e c 64 = f at h1
    have h3 : f * p ≤ 64 * 99 := Int.mul_le_mul (by omega) (by omega) (by omega) (by omega)
    have h4 : 0 ≤ f * p := Int.mul_nonneg (by omega) (by omega)
    omega
  · omega
def sp_worthN (f : Nat → Int) (seen : Int) : Nat → Int
  | 0 => 0
  | n + 1 => sp_worthN f seen n + hy_b (hz_b seen n) * f n
theorem hb_mul (p : Bool) (x : Int) : hy_b p * x = if p = true then x else 0 := by cases p <;> simp [hy_b]
theorem sp_worthN_le {f : Nat → Int} (hf : ∀ c : Nat, c < 12 → 0 ≤ f c ∧ f c ≤ 6400) (seen : Int) : ∀ n : Nat, n ≤ 12 → 0 ≤ sp_worthN f seen n ∧ sp_worthN f seen n ≤ 6400 * n
  | 0, _ => by simp [sp_worthN]
  | n + 1, hn => by
    have h := sp_worthN_le hf seen n (by omega)
    have h2 := hf n (by omega)
    simp only [sp_worthN, hb_mul]
    split <;> omega
abbrev pX : Nat → Nat → Bool := fun r _ => r == 17 || r == 18 || r == 48
theorem eX_pX {t t1 : hy_T} (h : hy_F eX t t1) : hy_F pX t t1 := h.w (fun r j q => by revert q; simp [eX, pX]; omega)
theorem pX_law {t t1 : hy_T} (h : hy_F pX t t1) : lc_same t t1 := lc_same_of h (fun r j q => by revert q; simp [lawX, pX]; omega)
theorem sp_fields_F {X : Nat → Nat → Bool} {t t1 : hy_T} (h : hy_F X t t1) (h9 : ∀ j, X 9 j = false) (h35 : ∀ j, X 35 j = false) (e c : Int) : ∀ n, sp_fields t1 e c n = sp_fields t e c n
  | 0 => rfl
  | n + 1 => by simp only [sp_fields, sp_fields_F h h9 h35 e c n, h 9 n (h9 n), h 35 n (h35 n)]
section PU
variable {sc : List Int32} {t : hy_T}
theorem c_G_at {f : Int} : hy_Ct sc hm_G_at 1 [.inr (some 8), .inl f] t (hy_e (some (if 0 ≤ f ∧ f < 64 then t 9 f.toNat else 12)) t) := by
  refine hy_mk_ct ok_G_at ck_G_at (Nat.le_of_ble_eq_true rfl) ?_
  refine hy_iload (i := 0) rfl rfl ?_
  refine hy_const (i := 1) rfl (by decide) ?_
  refine hy_cS2e (i := 2) rfl (by decide) mj_W_isAmong (by decide) rfl (Nat.le_of_ble_eq_true rfl) (c_W_isAmong) ?_
  refine hy_ib_eq (i := 3) (tt := 9) rfl (fun zc1 => ?_) (fun zc1 => ?_)
  · refine hy_const (i := 9) rfl (by decide) ?_
    refine hy_ireturn (i := 10) rfl rfl ?_
    exact ⟨congrArg some (by simp at zc1; split <;> first | rfl | omega), rfl⟩
  · refine hy_aload (i := 4) rfl rfl ?_
    refine hy_getr (i := 5) rfl rfl ?_
    refine hy_iload (i := 6) rfl rfl ?_
    refine hy_iald (i := 7) rfl rfl (by simp at zc1; omega) rfl ?_
    refine hy_goto (i := 8) (tt := 10) rfl ?_
    refine hy_ireturn (i := 10) rfl rfl ?_
    exact ⟨congrArg some (by simp at zc1; split <;> first | rfl | omega), rfl⟩
def sp_paintedN (t : hy_T) : Nat → Int
  | 0 => 0
  | n + 1 => if t 9 n = 12 then sp_paintedN t n else sp_paintedN t n + 1
theorem sp_painted_le (t : hy_T) : ∀ n : Nat, 0 ≤ sp_paintedN t n ∧ sp_paintedN t n ≤ n
  | 0 => by simp [sp_paintedN]
  | n + 1 => by
    have h := sp_painted_le t n
    simp only [sp_paintedN]
    split <;> omega
theorem c_G_painted : hy_Ct sc hm_G_painted 0 [.inr (some 8)] t (hy_e (some (sp_paintedN t 64)) t) := by
  refine hy_mk_ct ok_G_painted ck_G_painted (Nat.le_of_ble_eq_true rfl) ?_
  have loop : ∀ (n : Nat), ∀ (k : Nat) (s : Int), n + k = 64 → s = sp_paintedN t k → hy_W sc hm_G_painted 0 4 [.inr (some 8), .inl s, .inl (k : Int)] [] t (hy_e (some (sp_paintedN t 64)) t) := by
    intro n
    induction n with
    | zero =>
      intro k s hn hs
      obtain rfl : k = 64 := by omega
      refine hy_iload (i := 4) rfl rfl ?_
      refine hy_const (i := 5) rfl (by decide) ?_
      refine hy_ic_ge (i := 6) (tt := 16) rfl (fun zc1 => ?_) (fun zc1 => ?_)
      · refine hy_iload (i := 16) rfl rfl ?_
        refine hy_ireturn (i := 17) rfl rfl ?_
        exact ⟨congrArg some hs, rfl⟩
      · omega
    | succ n ih =>
      intro k s hn hs
      have hb := sp_painted_le t k
      refine hy_iload (i := 4) rfl rfl ?_
      refine hy_const (i := 5) rfl (by decide) ?_
      refine hy_ic_ge (i := 6) (tt := 16) rfl (fun zc1 => ?_) (fun zc1 => ?_)
      · omega
      · refine hy_aload (i := 7) rfl rfl ?_
        refine hy_getr (i := 8) rfl rfl ?_
        refine hy_iload (i := 9) rfl rfl ?_
        refine hy_iald (i := 10) rfl rfl (by omega) rfl ?_
        refine hy_const (i := 11) rfl (by decide) ?_
        refine hy_ic_eq (i := 12) (tt := 14) rfl (fun zc2 => ?_) (fun zc2 => ?_)
        · refine hy_iinc (i := 14) rfl rfl (by omega) ?_
          refine hy_goto (i := 15) (tt := 4) rfl ?_
          refine ih (k + 1) _ (by omega) ?_
          simp only [sp_paintedN]
          rw [← hs]
          first | (rw [if_pos (show t 9 k = 12 by assumption)]; done) | (rw [if_neg (show ¬ t 9 k = 12 by assumption)]; done)
        · refine hy_iinc (i := 13) rfl rfl (by omega) ?_
          refine hy_iinc (i := 14) rfl rfl (by omega) ?_
          refine hy_goto (i := 15) (tt := 4) rfl ?_
          refine ih (k + 1) _ (by omega) ?_
          simp only [sp_paintedN]
          rw [← hs]
          first | (rw [if_pos (show t 9 k = 12 by assumption)]; done) | (rw [if_neg (show ¬ t 9 k = 12 by assumption)]; done)
  refine hy_const (i := 0) rfl (by decide) ?_
  refine hy_istore (i := 1) rfl ?_
  refine hy_const (i := 2) rfl (by decide) ?_
  refine hy_istore (i := 3) rfl ?_
  exact loop 64 0 0 rfl rfl
theorem c_U_fieldsOf {e c : Int} : hy_Ct sc hm_U_fieldsOf 2 [.inr (some 47), .inl e, .inl c] t (hy_e (some (sp_fields t e c 64)) t) := by
  refine hy_mk_ct ok_U_fieldsOf ck_U_fieldsOf (Nat.le_of_ble_eq_true rfl) ?_
  have loop : ∀ (n : Nat), ∀ (k : Nat) (s : Int), n + k = 64 → s = sp_fields t e c k → hy_W sc hm_U_fieldsOf 2 4 [.inr (some 47), .inl e, .inl c, .inl s, .inl (k : Int)] [] t (hy_e (some (sp_fields t e c 64)) t) := by
    intro n
    induction n with
    | zero =>
      intro k s hn hs
      obtain rfl : k = 64 := by omega
      refine hy_iload (i := 4) rfl rfl ?_
      refine hy_const (i := 5) rfl (by decide) ?_
      refine hy_ic_ge (i := 6) (tt := 22) rfl (fun zc1 => ?_) (fun zc1 => ?_)
      · refine hy_iload (i := 22) rfl rfl ?_
        refine hy_ireturn (i := 23) rfl rfl ?_
        exact ⟨congrArg some hs, rfl⟩
      · omega
    | succ n ih =>
      intro k s hn hs
      have hb := sp_fields_le t e c k
      refine hy_iload (i := 4) rfl rfl ?_
      refine hy_const (i := 5) rfl (by decide) ?_
      refine hy_ic_ge (i := 6) (tt := 22) rfl (fun zc1 => ?_) (fun zc1 => ?_)
      · omega
      · refine hy_aload (i := 7) rfl rfl ?_
        refine hy_getr (i := 8) rfl rfl ?_
        refine hy_iload (i := 9) rfl rfl ?_
        refine hy_cV1e (i := 10) rfl mj_G_at (by decide) rfl (Nat.le_of_ble_eq_true rfl) rfl rfl rfl (c_G_at) ?_
        rw [if_pos (show 0 ≤ (k : Int) ∧ (k : Int) < 64 by omega)]
        refine hy_iload (i := 11) rfl rfl ?_
        refine hy_ic_ne (i := 12) (tt := 20) rfl (fun zc2 => ?_) (fun zc2 => ?_)
        · refine hy_iinc (i := 20) rfl rfl (by omega) ?_
          refine hy_goto (i := 21) (tt := 4) rfl ?_
          refine ih (k + 1) _ (by omega) ?_
          simp only [sp_fields]
          rw [← hs]
          first | (rw [if_pos (show t 9 k = c ∧ t 35 k = e from ⟨by assumption, by assumption⟩)]; done) | (rw [if_neg (fun q : t 9 k = c ∧ t 35 k = e => by first | exact absurd q.1 (by assumption) | exact absurd q.2 (by assumption))]; simp; done)
        · refine hy_aload (i := 13) rfl rfl ?_
          refine hy_getr (i := 14) rfl rfl ?_
          refine hy_iload (i := 15) rfl rfl ?_
          refine hy_cV1e (i := 16) rfl mj_S_ownerOf (by decide) rfl (Nat.le_of_ble_eq_true rfl) rfl rfl rfl (c_S_ownerOf_33) ?_
          rw [if_pos (show 0 ≤ (k : Int) ∧ (k : Int) < 64 by omega)]
          refine hy_iload (i := 17) rfl rfl ?_
          refine hy_ic_ne (i := 18) (tt := 20) rfl (fun zc3 => ?_) (fun zc3 => ?_)
          · refine hy_iinc (i := 20) rfl rfl (by omega) ?_
            refine hy_goto (i := 21) (tt := 4) rfl ?_
            refine ih (k + 1) _ (by omega) ?_
            simp only [sp_fields]
            rw [← hs]
            first | (rw [if_pos (show t 9 k = c ∧ t 35 k = e from ⟨by assumption, by assumption⟩)]; done) | (rw [if_neg (fun q : t 9 k = c ∧ t 35 k = e => by first | exact absurd q.1 (by assumption) | exact absurd q.2 (by assumption))]; simp; done)
          · refine hy_iinc (i := 19) rfl rfl (by omega) ?_
            refine hy_iinc (i := 20) rfl rfl (by omega) ?_
            refine hy_goto (i := 21) (tt := 4) rfl ?_
            refine ih (k + 1) _ (by omega) ?_
            simp only [sp_fields]
            rw [← hs]
            first | (rw [if_pos (show t 9 k = c ∧ t 35 k = e from ⟨by assumption, by assumption⟩)]; done) | (rw [if_neg (fun q : t 9 k = c ∧ t 35 k = e => by first | exact absurd q.1 (by assumption) | exact absurd q.2 (by assumption))]; simp; done)
  refine hy_const (i := 0) rfl (by decide) ?_
  refine hy_istore (i := 1) rfl ?_
  refine hy_const (i := 2) rfl (by decide) ?_
  refine hy_istore (i := 3) rfl ?_
  exact loop 64 0 0 rfl rfl
theorem c_U_priceOf {e c q n g : Int} (hk : lc_ok t) : hy_Ct sc hm_U_priceOf 3 [.inr (some 47), .inl e, .inl c, .inl q, .inl n, .inl g] t (fun r t' => r = some (sp_priceOf t e c q n g) ∧ hy_F eX t t') := by
  refine hy_mk_ct ok_U_priceOf ck_U_priceOf (Nat.le_of_ble_eq_true rfl) ?_
  refine hy_aload (i := 0) rfl rfl ?_
  refine hy_getr (i := 1) rfl rfl ?_
  refine hy_iload (i := 2) rfl rfl ?_
  refine hy_cV1e (i := 3) rfl mj_P_isMixed (by decide) rfl (Nat.le_of_ble_eq_true rfl) rfl rfl rfl (c_P_isMixed) ?_
  refine hy_ib_eq (i := 4) (tt := 7) rfl (fun zc1 => ?_) (fun zc1 => ?_)
  · refine hy_const (i := 7) rfl (by decide) ?_
    refine hy_istore (i := 8) rfl ?_
    refine hy_aload (i := 9) rfl rfl ?_
    refine hy_getr (i := 10) rfl rfl ?_
    refine hy_iload (i := 11) rfl rfl ?_
    refine hy_iload (i := 12) rfl rfl ?_
    refine hy_iload (i := 13) rfl rfl ?_
    refine hy_aload (i := 14) rfl rfl ?_
    refine hy_getr (i := 15) rfl rfl ?_
    refine hy_cV0e (i := 16) rfl mj_S_day (by decide) rfl (Nat.le_of_ble_eq_true rfl) rfl rfl rfl (c_S_day_33) ?_
    refine hy_iload (i := 17) rfl rfl ?_
    refine hy_iload (i := 18) rfl rfl ?_
    refine hy_cV6v (i := 19) rfl mj_L_tell (by decide) rfl (Nat.le_of_ble_eq_true rfl) rfl rfl rfl (c_L_tell) ?_
    refine hy_aload (i := 20) rfl rfl ?_
    refine hy_getr (i := 21) rfl rfl ?_
    refine hy_iload (i := 22) rfl rfl ?_
    refine hy_cV1v (i := 23) rfl mj_L_tellFields (by decide) rfl (Nat.le_of_ble_eq_true rfl) rfl rfl rfl (c_L_tellFields) ?_
    refine hy_aload (i := 24) rfl rfl ?_
    refine hy_getr (i := 25) rfl rfl ?_
    refine hy_const (i := 26) rfl (by decide) ?_
    refine hy_const (i := 27) rfl (by decide) ?_
    refine hy_cV2 (i := 28) rfl mj_L_amount (by decide) rfl (Nat.le_of_ble_eq_true rfl) rfl rfl rfl (c_L_amount (lc_ok_same (eX_law ((rc_tell_F hy_F.rf _ _ _ _ _ _).up rfl)) hk)) (fun r5_ t5_ h5 => ?_)
    obtain ⟨rfl, hF5⟩ := h5
    dsimp only [hy_st, List.cons_append, List.nil_append]
    rw [tell_amt hy_F.rf]
    have hG := rX_eX ((rc_tell_F (hy_F.rf (t := t)) _ _ _ _ _ _).up rfl) hF5
    refine hy_ireturn (i := 29) rfl rfl ?_
    refine ⟨congrArg some ?_, hG⟩
    unfold sp_priceOf
    rw [zc1]
    rfl
  · refine hy_const (i := 5) rfl (by decide) ?_
    refine hy_goto (i := 6) (tt := 8) rfl ?_
    refine hy_istore (i := 8) rfl ?_
    refine hy_aload (i := 9) rfl rfl ?_
    refine hy_getr (i := 10) rfl rfl ?_
    refine hy_iload (i := 11) rfl rfl ?_
    refine hy_iload (i := 12) rfl rfl ?_
    refine hy_iload (i := 13) rfl rfl ?_
    refine hy_aload (i := 14) rfl rfl ?_
    refine hy_getr (i := 15) rfl rfl ?_
    refine hy_cV0e (i := 16) rfl mj_S_day (by decide) rfl (Nat.le_of_ble_eq_true rfl) rfl rfl rfl (c_S_day_33) ?_
    refine hy_iload (i := 17) rfl rfl ?_
    refine hy_iload (i := 18) rfl rfl ?_
    refine hy_cV6v (i := 19) rfl mj_L_tell (by decide) rfl (Nat.le_of_ble_eq_true rfl) rfl rfl rfl (c_L_tell) ?_
    refine hy_aload (i := 20) rfl rfl ?_
    refine hy_getr (i := 21) rfl rfl ?_
    refine hy_iload (i := 22) rfl rfl ?_
    refine hy_cV1v (i := 23) rfl mj_L_tellFields (by decide) rfl (Nat.le_of_ble_eq_true rfl) rfl rfl rfl (c_L_tellFields) ?_
    refine hy_aload (i := 24) rfl rfl ?_
    refine hy_getr (i := 25) rfl rfl ?_
    refine hy_const (i := 26) rfl (by decide) ?_
    refine hy_const (i := 27) rfl (by decide) ?_
    refine hy_cV2 (i := 28) rfl mj_L_amount (by decide) rfl (Nat.le_of_ble_eq_true rfl) rfl rfl rfl (c_L_amount (lc_ok_same (eX_law ((rc_tell_F hy_F.rf _ _ _ _ _ _).up rfl)) hk)) (fun r5_ t5_ h5 => ?_)
    obtain ⟨rfl, hF5⟩ := h5
    dsimp only [hy_st, List.cons_append, List.nil_append]
    rw [tell_amt hy_F.rf]
    have hG := rX_eX ((rc_tell_F (hy_F.rf (t := t)) _ _ _ _ _ _).up rfl) hF5
    refine hy_ireturn (i := 29) rfl rfl ?_
    refine ⟨congrArg some ?_, hG⟩
    unfold sp_priceOf
    rw [zc1]
    rfl
theorem sp_priceOf_F {X : Nat → Nat → Bool} {t t1 : hy_T} (h : hy_F X t t1) (hl : lc_same t t1) (h5 : X 5 3 = false) (h33 : X 33 4 = false) (e c q n g : Int) : sp_priceOf t1 e c q n g = sp_priceOf t e c q n g := by
  unfold sp_priceOf
  rw [lc_same_amt hl, h 5 3 h5, h 33 4 h33]
theorem c_U_price {e q sup : Int} (hk : lc_ok t) : hy_Ct sc hm_U_price 4 [.inr (some 47), .inl e, .inl q, .inl sup] t (fun r t' => r = none ∧ (∀ c : Nat, c < 12 → t' 48 c = sp_price t e q sup c) ∧ hy_F pX t t') := by
  refine hy_mk_ct ok_U_price ck_U_price (Nat.le_of_ble_eq_true rfl) ?_
  have loop : ∀ (n : Nat), ∀ (k : Nat) (t1 : hy_T) (v5 v6 : hy_V), n + k = 12 → hy_F pX t t1 → (∀ c : Nat, c < k → t1 48 c = sp_price t e q sup c) → hy_W sc hm_U_price 4 2 [.inr (some 47), .inl e, .inl q, .inl sup, .inl (k : Int), v5, v6] [] t1 (fun r t' => r = none ∧ (∀ c : Nat, c < 12 → t' 48 c = sp_price t e q sup c) ∧ hy_F pX t t') := by
    intro n
    induction n with
    | zero =>
      intro k t1 v5 v6 hn hF hs
      obtain rfl : k = 12 := by omega
      refine hy_iload (i := 2) rfl rfl ?_
      refine hy_const (i := 3) rfl (by decide) ?_
      refine hy_ic_ge (i := 4) (tt := 42) rfl (fun zc1 => ?_) (fun zc1 => ?_)
      · refine hy_return (i := 42) rfl rfl ?_
        exact ⟨rfl, hs, hF⟩
      · omega
    | succ n ih =>
      intro k t1 v5 v6 hn hF hs
      have hk1 := lc_ok_same (pX_law hF) hk
      have of := sp_fields_F hF (fun _ => rfl) (fun _ => rfl) e k 64
      have oh : t1 34 = t 34 := funext fun j => hF 34 j rfl
      have hb := sp_fields_le t e k 64
      have hpr := sp_price_le t e q sup k
      refine hy_iload (i := 2) rfl rfl ?_
      refine hy_const (i := 3) rfl (by decide) ?_
      refine hy_ic_ge (i := 4) (tt := 42) rfl (fun zc1 => ?_) (fun zc1 => ?_)
      · omega
      · refine hy_aload (i := 5) rfl rfl ?_
        refine hy_iload (i := 6) rfl rfl ?_
        refine hy_iload (i := 7) rfl rfl ?_
        refine hy_cV2e (i := 8) rfl mj_U_fieldsOf (by decide) rfl (Nat.le_of_ble_eq_true rfl) rfl rfl rfl (c_U_fieldsOf) ?_
        rw [of]
        refine hy_istore (i := 9) rfl ?_
        refine hy_aload (i := 10) rfl rfl ?_
        refine hy_getr (i := 11) rfl rfl ?_
        refine hy_iload (i := 12) rfl rfl ?_
        refine hy_iload (i := 13) rfl rfl ?_
        refine hy_cV2e (i := 14) rfl mj_S_havers (by decide) rfl (Nat.le_of_ble_eq_true rfl) rfl rfl rfl (c_S_havers_33) ?_
        rw [oh]
        refine hy_iload (i := 15) rfl rfl ?_
        refine hy_iload (i := 16) rfl rfl ?_
        refine hy_cS2e (i := 17) rfl (by decide) mj_W_bit (by decide) rfl (Nat.le_of_ble_eq_true rfl) (c_W_bit) ?_
        refine hy_iload (i := 18) rfl rfl ?_
        refine hy_ishl (i := 19) rfl ?_
        refine hy_ior (i := 20) rfl ?_
        refine hy_istore (i := 21) rfl ?_
        refine hy_aload (i := 22) rfl rfl ?_
        refine hy_getr (i := 23) rfl rfl ?_
        refine hy_iload (i := 24) rfl rfl ?_
        refine hy_iload (i := 25) rfl rfl ?_
        refine hy_if_le (i := 26) (tt := 38) rfl (fun zc2 => ?_) (fun zc2 => ?_)
        · refine hy_const (i := 38) rfl (by decide) ?_
          first | rw [← e1] | rw [show (0 : Int) = sp_price t e q sup k by unfold sp_price; rw [if_neg (by omega)]]
          refine hy_iast (i := 39) rfl rfl (by omega) (k := k) (by omega) ?_
          refine hy_iinc (i := 40) rfl rfl (by omega) ?_
          refine hy_goto (i := 41) (tt := 2) rfl ?_
          refine ih (k + 1) _ _ _ (by omega) ?_ ?_
          · first | exact (hF.tr' (eX_pX (by assumption))).up rfl | exact hF.up rfl
          · intro c hc
            rcases Nat.lt_succ_iff_lt_or_eq.mp hc with h | rfl
            · rw [hy_up_row]; unfold su; rw [if_neg (by omega)]; first | exact hs c h | (rw [hF5 48 c rfl]; exact hs c h)
            · rw [hy_up_row]; unfold su; rw [if_pos rfl]
        · refine hy_iload (i := 27) rfl rfl ?_
          refine hy_aload (i := 28) rfl rfl ?_
          refine hy_iload (i := 29) rfl rfl ?_
          refine hy_iload (i := 30) rfl rfl ?_
          refine hy_iload (i := 31) rfl rfl ?_
          refine hy_iload (i := 32) rfl rfl ?_
          refine hy_iload (i := 33) rfl rfl ?_
          refine hy_cS1e (i := 34) rfl (by decide) mj_J_bitCount (by decide) rfl (Nat.le_of_ble_eq_true rfl) (c_J_bitCount) ?_
          refine hy_cV5 (i := 35) rfl mj_U_priceOf (by decide) rfl (Nat.le_of_ble_eq_true rfl) rfl rfl rfl (c_U_priceOf (by assumption)) (fun r5_ t5_ h5 => ?_)
          obtain ⟨rfl, hF5⟩ := h5
          dsimp only [hy_st, List.cons_append, List.nil_append]
          rw [sp_priceOf_F hF (pX_law hF) rfl rfl]
          have e1 : sp_price t e q sup k = sp_fields t e k 64 * sp_priceOf t e k q (sp_fields t e k 64) (sp_bc (hz_ior (sp_hav (t 34) k q) (hz_ishl (hy_b (hz_b sup k)) e))) := by unfold sp_price; rw [if_pos (by omega)]
          refine hy_imul (i := 36) rfl (by rw [← e1]; omega) ?_
          refine hy_goto (i := 37) (tt := 39) rfl ?_
          first | rw [← e1] | rw [show (0 : Int) = sp_price t e q sup k by unfold sp_price; rw [if_neg (by omega)]]
          refine hy_iast (i := 39) rfl rfl (by omega) (k := k) (by omega) ?_
          refine hy_iinc (i := 40) rfl rfl (by omega) ?_
          refine hy_goto (i := 41) (tt := 2) rfl ?_
          refine ih (k + 1) _ _ _ (by omega) ?_ ?_
          · first | exact (hF.tr' (eX_pX (by assumption))).up rfl | exact hF.up rfl
          · intro c hc
            rcases Nat.lt_succ_iff_lt_or_eq.mp hc with h | rfl
            · rw [hy_up_row]; unfold su; rw [if_neg (by omega)]; first | exact hs c h | (rw [hF5 48 c rfl]; exact hs c h)
            · rw [hy_up_row]; unfold su; rw [if_pos rfl]
  refine hy_const (i := 0) rfl (by decide) ?_
  refine hy_istore (i := 1) rfl ?_
  exact loop 12 0 t _ _ rfl hy_F.rf (fun c hc => by omega)
theorem c_U_worthWith {e q plain : Int} (hk : lc_ok t) (hp : ∀ c : Nat, c < 12 → 0 ≤ t 48 c ∧ t 48 c ≤ 6400) : hy_Ct sc hm_U_worthWith 4 [.inr (some 47), .inl e, .inl q, .inl plain] t (fun r t' => r = some (sp_worthN (t 48) (sp_seenN t e q plain 12) 12) ∧ hy_F eX t t') := by
  refine hy_mk_ct ok_U_worthWith ck_U_worthWith (Nat.le_of_ble_eq_true rfl) ?_
  have loop : ∀ (n : Nat), ∀ (k : Nat) (s : Int) (t1 : hy_T), n + k = 12 → hy_F eX t t1 → s = sp_worthN (t 48) (sp_seenN t e q plain 12) k → hy_W sc hm_U_worthWith 4 11 [.inr (some 47), .inl e, .inl q, .inl plain, .inl (sp_seenN t e q plain 12), .inl s, .inl (k : Int)] [] t1 (fun r t' => r = some (sp_worthN (t 48) (sp_seenN t e q plain 12) 12) ∧ hy_F eX t t') := by
    intro n
    induction n with
    | zero =>
      intro k s t1 hn hF hs
      obtain rfl : k = 12 := by omega
      refine hy_iload (i := 11) rfl rfl ?_
      refine hy_const (i := 12) rfl (by decide) ?_
      refine hy_ic_ge (i := 13) (tt := 27) rfl (fun zc1 => ?_) (fun zc1 => ?_)
      · refine hy_iload (i := 27) rfl rfl ?_
        refine hy_ireturn (i := 28) rfl rfl ?_
        exact ⟨congrArg some hs, hF⟩
      · omega
    | succ n ih =>
      intro k s t1 hn hF hs
      have hb := sp_worthN_le hp (sp_seenN t e q plain 12) k (by omega)
      have hb2 := sp_worthN_le hp (sp_seenN t e q plain 12) (k + 1) (by omega)
      have hpk := hp k (by omega)
      have e1 : sp_worthN (t 48) (sp_seenN t e q plain 12) (k + 1) = s + hy_b (hz_b (sp_seenN t e q plain 12) k) * t 48 k := by rw [hs]; rfl
      refine hy_iload (i := 11) rfl rfl ?_
      refine hy_const (i := 12) rfl (by decide) ?_
      refine hy_ic_ge (i := 13) (tt := 27) rfl (fun zc1 => ?_) (fun zc1 => ?_)
      · omega
      · refine hy_iload (i := 14) rfl rfl ?_
        refine hy_iload (i := 15) rfl rfl ?_
        refine hy_iload (i := 16) rfl rfl ?_
        refine hy_cS2e (i := 17) rfl (by decide) mj_W_bit (by decide) rfl (Nat.le_of_ble_eq_true rfl) (c_W_bit) ?_
        refine hy_aload (i := 18) rfl rfl ?_
        refine hy_getr (i := 19) rfl rfl ?_
        refine hy_iload (i := 20) rfl rfl ?_
        refine hy_iald (i := 21) rfl rfl (by omega) rfl ?_
        rw [show t1 48 (k : Int).toNat = t 48 k from hF 48 k rfl]
        refine hy_imul (i := 22) rfl (by rw [hb_mul]; split <;> omega) ?_
        refine hy_iadd (i := 23) rfl (by rw [← e1]; omega) ?_
        refine hy_istore (i := 24) rfl ?_
        refine hy_iinc (i := 25) rfl rfl (by omega) ?_
        refine hy_goto (i := 26) (tt := 11) rfl ?_
        exact ih (k + 1) _ _ (by omega) hF e1.symm
  refine hy_aload (i := 0) rfl rfl ?_
  refine hy_getr (i := 1) rfl rfl ?_
  refine hy_iload (i := 2) rfl rfl ?_
  refine hy_iload (i := 3) rfl rfl ?_
  refine hy_iload (i := 4) rfl rfl ?_
  refine hy_cV3 (i := 5) rfl mj_E_seenWith (by decide) rfl (Nat.le_of_ble_eq_true rfl) rfl rfl rfl (c_E_seenWith (by assumption)) (fun r1_ t1_ h1 => ?_)
  obtain ⟨rfl, hF1⟩ := h1
  dsimp only [hy_st, List.cons_append, List.nil_append]
  refine hy_istore (i := 6) rfl ?_
  refine hy_const (i := 7) rfl (by decide) ?_
  refine hy_istore (i := 8) rfl ?_
  refine hy_const (i := 9) rfl (by decide) ?_
  refine hy_istore (i := 10) rfl ?_
  exact loop 12 0 0 _ rfl hF1 rfl
def sp_worth (t : hy_T) (e q : Int) : Int := sp_worthN (fun c => sp_price t e q 0 c) (sp_seen t e q) 12
theorem sp_worthN_eq {f g : Nat → Int} (h : ∀ c : Nat, c < 12 → f c = g c) (seen : Int) : ∀ n : Nat, n ≤ 12 → sp_worthN f seen n = sp_worthN g seen n
  | 0, _ => rfl
  | n + 1, hn => by simp only [sp_worthN, sp_worthN_eq h seen n (by omega), h n (by omega)]
theorem sp_lawS_G {X : Nat → Nat → Bool} {t t1 : hy_T} (h : hy_F X t t1) (hl : lc_same t t1) (h33 : X 33 4 = false) (e c q : Int) (a b : Bool) : sp_lawS t1 e c q a b = sp_lawS t e c q a b := by
  unfold sp_lawS
  rw [lc_same_has hl, lc_same_hold hl, h 33 4 h33]
theorem sp_seenN_G {X : Nat → Nat → Bool} {t t1 : hy_T} (h : hy_F X t t1) (hl : lc_same t t1) (h33 : X 33 4 = false) (h5 : X 5 3 = false) (h6 : ∀ j, X 6 j = false) (h7 : ∀ j, X 7 j = false) (e q plain : Int) : ∀ n, sp_seenN t1 e q plain n = sp_seenN t e q plain n
  | 0 => rfl
  | n + 1 => by
    simp only [sp_seenN]
    rw [sp_seenN_G h hl h33 h5 h6 h7 e q plain n, h 5 3 h5, h 6 n (h6 n), h 7 n (h7 n), sp_lawS_G h hl h33]
theorem c_U_worthTo {e q : Int} (hk : lc_ok t) : hy_Ct sc hm_U_worthTo 5 [.inr (some 47), .inl e, .inl q] t (fun r t' => r = some (sp_worth t e q) ∧ hy_F pX t t') := by
  refine hy_mk_ct ok_U_worthTo ck_U_worthTo (Nat.le_of_ble_eq_true rfl) ?_
  refine hy_aload (i := 0) rfl rfl ?_
  refine hy_iload (i := 1) rfl rfl ?_
  refine hy_iload (i := 2) rfl rfl ?_
  refine hy_const (i := 3) rfl (by decide) ?_
  refine hy_cV3 (i := 4) rfl mj_U_price (by decide) rfl (Nat.le_of_ble_eq_true rfl) rfl rfl rfl (c_U_price (by assumption)) (fun r1_ t1_ h1 => ?_)
  obtain ⟨rfl, hP1, hF1⟩ := h1
  dsimp only [hy_st, List.nil_append]
  have hk1 := lc_ok_same (pX_law hF1) hk
  have hp1 : ∀ c : Nat, c < 12 → 0 ≤ t1_ 48 c ∧ t1_ 48 c ≤ 6400 := fun c hc => by rw [hP1 c hc]; exact sp_price_le t e q 0 c
  refine hy_aload (i := 5) rfl rfl ?_
  refine hy_iload (i := 6) rfl rfl ?_
  refine hy_iload (i := 7) rfl rfl ?_
  refine hy_aload (i := 8) rfl rfl ?_
  refine hy_getr (i := 9) rfl rfl ?_
  refine hy_iload (i := 10) rfl rfl ?_
  refine hy_iload (i := 11) rfl rfl ?_
  refine hy_cV2e (i := 12) rfl mj_S_had (by decide) rfl (Nat.le_of_ble_eq_true rfl) rfl rfl rfl (c_S_had_33) ?_
  refine hy_cV3 (i := 13) rfl mj_U_worthWith (by decide) rfl (Nat.le_of_ble_eq_true rfl) rfl rfl rfl (c_U_worthWith hk1 hp1) (fun r3_ t3_ h3 => ?_)
  obtain ⟨rfl, hF3⟩ := h3
  dsimp only [hy_st, List.cons_append, List.nil_append]
  refine hy_ireturn (i := 14) rfl rfl ?_
  refine ⟨congrArg some ?_, hF1.tr' (eX_pX hF3)⟩
  unfold sp_worth sp_seen
  rw [show t1_ 34 = t 34 from funext fun j => hF1 34 j rfl, sp_seenN_G hF1 (pX_law hF1) rfl rfl (fun _ => rfl) (fun _ => rfl)]
  exact sp_worthN_eq hP1 _ 12 (Nat.le_refl _)
theorem c_U_orders {n : Int} : hy_Ct sc hm_U_orders 1 [.inl n] t (hy_e (some (if 0 ≤ n ∧ n < 6 then [1, 1, 2, 6, 24, 120].getD n.toNat 0 else 0)) t) := by
  refine hy_mk_ct ok_U_orders ck_U_orders (Nat.le_of_ble_eq_true rfl) ?_
  refine hy_iload (i := 0) rfl rfl ?_
  refine hy_gets (i := 1) rfl ?_
  refine hy_alen_o (i := 2) rfl ?_
  refine hy_cS2e (i := 3) rfl (by decide) mj_W_isAmong (by decide) rfl (Nat.le_of_ble_eq_true rfl) (c_W_isAmong) ?_
  refine hy_ib_eq (i := 4) (tt := 9) rfl (fun zc1 => ?_) (fun zc1 => ?_)
  · refine hy_const (i := 9) rfl (by decide) ?_
    refine hy_ireturn (i := 10) rfl rfl ?_
    exact ⟨congrArg some (by simp at zc1; first | rw [if_pos (by omega)] | rw [if_neg (by omega)]), rfl⟩
  · refine hy_gets (i := 5) rfl ?_
    refine hy_iload (i := 6) rfl rfl ?_
    refine hy_iald_o (i := 7) rfl (by simp at zc1; omega) ?_
    refine hy_goto (i := 8) (tt := 10) rfl ?_
    refine hy_ireturn (i := 10) rfl rfl ?_
    exact ⟨congrArg some (by simp at zc1; first | rw [if_pos (by omega)] | rw [if_neg (by omega)]), rfl⟩
end PU
