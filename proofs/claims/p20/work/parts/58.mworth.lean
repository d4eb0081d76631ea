/-! the model: unseen, paintings, worth, gain -/
def mo_ownN (t : hy_T) (e c : Int) : Nat → Int
  | 0 => 0
  | n + 1 => mo_ownN t e c n + (if t 64 n = e ∧ t 63 n = c then 1 else 0)
theorem mo_ownN_in (t : hy_T) (e c : Int) : ∀ n : Nat, 0 ≤ mo_ownN t e c n ∧ mo_ownN t e c n ≤ n
  | 0 => by simp [mo_ownN]
  | n + 1 => by
    have h := mo_ownN_in t e c n
    simp only [mo_ownN]
    split <;> omega
def mw_one (t : hy_T) (e q s : Int) (n : Nat) : Int := if hz_b s n = true then mo_ownN t e n 64 else 0
def mw_worthN (t : hy_T) (e q s : Int) : Nat → Int
  | 0 => 0
  | n + 1 => mw_worthN t e q s n + (if mw_one t e q s n = 0 then 0 else mw_one t e q s n * mb_amt t (mq_V t e n q 0 0 (mw_one t e q s n) 0) 118 99)
def mw_worth (t : hy_T) (e q : Int) : Int := mw_worthN t e q (mq_seenN t e q 12) 12
theorem mw_one_in (t : hy_T) (e q s : Int) (n : Nat) : 0 ≤ mw_one t e q s n ∧ mw_one t e q s n ≤ 64 := by
  unfold mw_one
  split
  · exact mo_ownN_in t e n 64
  · decide
theorem mw_term (t : hy_T) (e q s : Int) (n : Nat) : 0 ≤ mw_one t e q s n * mb_amt t (mq_V t e n q 0 0 (mw_one t e q s n) 0) 118 99 ∧ mw_one t e q s n * mb_amt t (mq_V t e n q 0 0 (mw_one t e q s n) 0) 118 99 ≤ 6336 := by
  have h1 := mw_one_in t e q s n
  have h2 := mb_amt_in t (mq_V t e n q 0 0 (mw_one t e q s n) 0) 118 (m := 99) (by decide)
  refine ⟨Int.mul_nonneg h1.1 h2.1, ?_⟩
  have := Int.mul_le_mul h1.2 h2.2 h2.1 (by decide)
  omega
theorem mw_worthN_in (t : hy_T) (e q s : Int) : ∀ n : Nat, 0 ≤ mw_worthN t e q s n ∧ mw_worthN t e q s n ≤ 6336 * n
  | 0 => by simp [mw_worthN]
  | n + 1 => by
    have h := mw_worthN_in t e q s n
    have h2 := mw_term t e q s n
    simp only [mw_worthN]
    split <;> omega
theorem mw_worth_in (t : hy_T) (e q : Int) : 0 ≤ mw_worth t e q ∧ mw_worth t e q ≤ 76032 := mw_worthN_in t e q _ 12
/-- worth rests on these -/
abbrev mwX : Nat → Nat → Bool := fun r j => meqX r j || r == 63 || r == 64
theorem mwX_meq {X : Nat → Nat → Bool} (hX : ∀ r j, mwX r j = true → X r j = false) : ∀ r j, meqX r j = true → X r j = false := fun r j h => hX r j (by simp only [mwX, h, Bool.true_or])
theorem mo_ownN_F {X : Nat → Nat → Bool} {t t1 : hy_T} (h : hy_F X t t1) (hX : ∀ r j, mwX r j = true → X r j = false) (e c : Int) : ∀ n, mo_ownN t1 e c n = mo_ownN t e c n
  | 0 => rfl
  | n + 1 => by simp only [mo_ownN, mo_ownN_F h hX e c n, h 63 n (hX 63 n (by simp [mwX])), h 64 n (hX 64 n (by simp [mwX]))]
theorem mw_one_F {X : Nat → Nat → Bool} {t t1 : hy_T} (h : hy_F X t t1) (hX : ∀ r j, mwX r j = true → X r j = false) (e q s : Int) (n : Nat) : mw_one t1 e q s n = mw_one t e q s n := by
  unfold mw_one
  rw [mo_ownN_F h hX]
theorem mw_worthN_F {X : Nat → Nat → Bool} {t t1 : hy_T} (h : hy_F X t t1) (hX : ∀ r j, mwX r j = true → X r j = false) (e q s : Int) : ∀ n, mw_worthN t1 e q s n = mw_worthN t e q s n
  | 0 => rfl
  | n + 1 => by simp only [mw_worthN, mw_worthN_F h hX e q s n, mw_one_F h hX, mq_V_F h (mwX_meq hX), mb_amt_F h (meq_law (mwX_meq hX))]
theorem mw_worth_F {X : Nat → Nat → Bool} {t t1 : hy_T} (h : hy_F X t t1) (hX : ∀ r j, mwX r j = true → X r j = false) (e q : Int) : mw_worth t1 e q = mw_worth t e q := by
  unfold mw_worth
  rw [mq_seenN_F h (mwX_meq hX), mw_worthN_F h hX]
theorem mvX_mw : ∀ r j, mwX r j = true → mvX r j = false := fun r j h => by revert h; simp [mwX, meqX, mlawX, mvX]; omega
abbrev mg_ok (t : hy_T) : Prop := ∀ f : Nat, f < 64 → 0 ≤ t 63 f ∧ t 63 f ≤ 12
def mq_ptN (t : hy_T) (cs : Int) : Nat → Int × Int
  | 0 => (0, -1)
  | n + 1 => if hz_iand cs (hz_ixor (mq_seenN t ((n : Int) / 4) ((n : Int) % 4) 12) (-1)) = 0 then ((mq_ptN t cs n).1 + 1, if (mq_ptN t cs n).2 = -1 then (n : Int) else (mq_ptN t cs n).2) else mq_ptN t cs n
theorem mq_ptN_in (t : hy_T) (cs : Int) : ∀ n : Nat, (0 ≤ (mq_ptN t cs n).1 ∧ (mq_ptN t cs n).1 ≤ n) ∧ -1 ≤ (mq_ptN t cs n).2 ∧ (mq_ptN t cs n).2 ≤ n
  | 0 => by simp [mq_ptN]
  | n + 1 => by
    have h := mq_ptN_in t cs n
    simp only [mq_ptN]
    split
    · dsimp only
      split <;> omega
    · omega
def mq_ptA (p : Int × Int) (w : Int) : Int := if w = 0 then p.1 else if p.2 = -1 then -2 else if w = 1 then p.2 / 4 else p.2 % 4
section MW
variable {sc : List Int32} {t : hy_T}
theorem c_M_isUnseen {f u : Int} (hf : 0 ≤ f ∧ f < 64) (hu : 0 ≤ u ∧ u < 13) (hg : 0 ≤ t 63 f.toNat ∧ t 63 f.toNat ≤ 12) : hy_Ct sc hm_M_isUnseen 0 [.inr (some 59), .inl f, .inl u] t (hy_e (some (hy_b (decide (t 79 (t 63 f.toNat).toNat = t 79 u.toNat)))) t) := by
  refine hy_mk_ct ok_M_isUnseen ck_M_isUnseen (Nat.le_of_ble_eq_true rfl) ?_
  refine hy_aload (i := 0) rfl rfl ?_
  refine hy_getr (i := 1) rfl rfl ?_
  refine hy_aload (i := 2) rfl rfl ?_
  refine hy_getr (i := 3) rfl rfl ?_
  refine hy_iload (i := 4) rfl rfl ?_
  refine hy_iald (i := 5) rfl rfl (by omega) rfl ?_
  refine hy_iald (i := 6) rfl rfl (by omega) rfl ?_
  refine hy_aload (i := 7) rfl rfl ?_
  refine hy_getr (i := 8) rfl rfl ?_
  refine hy_iload (i := 9) rfl rfl ?_
  refine hy_iald (i := 10) rfl rfl (by omega) rfl ?_
  refine hy_ic_ne (i := 11) (tt := 14) rfl (fun zc1 => ?_) (fun zc1 => ?_)
  · refine hy_const (i := 14) rfl (by decide) ?_
    refine hy_zreturn (i := 15) rfl rfl (by first | decide | exact hy_b01 _) ?_
    exact ⟨congrArg some (by first | (rw [decide_eq_true (by assumption)]; rfl) | (rw [decide_eq_false (by assumption)]; rfl)), rfl⟩
  · refine hy_const (i := 12) rfl (by decide) ?_
    refine hy_goto (i := 13) (tt := 15) rfl ?_
    refine hy_zreturn (i := 15) rfl rfl (by first | decide | exact hy_b01 _) ?_
    exact ⟨congrArg some (by first | (rw [decide_eq_true (by assumption)]; rfl) | (rw [decide_eq_false (by assumption)]; rfl)), rfl⟩
theorem c_M_unseen {x y u e q : Int} (hk : ml_ok t) (hp : me_pal t) (hg : mg_ok t) : hy_Ct sc hm_M_unseen 7 [.inr (some 59), .inl x, .inl y, .inl u, .inl e, .inl q] t (fun r t' => r = some (if ((0 ≤ x ∧ x < 8) ∧ 0 ≤ y ∧ y < 8) ∧ mq_ecq t e u q then hy_b (decide (mq_as t e q (t 63 (8 * y + x).toNat).toNat = mq_as t e q u.toNat)) else -1) ∧ hy_F meX t t') := by
  refine hy_mk_ct ok_M_unseen ck_M_unseen (Nat.le_of_ble_eq_true rfl) ?_
  by_cases hq : ((0 ≤ x ∧ x < 8) ∧ 0 ≤ y ∧ y < 8) ∧ mq_ecq t e u q
  · rw [if_pos hq]
    have hc := sp_told_in hq.2.2.1
    have hgf := hg (8 * y + x).toNat (by omega)
    refine hy_iload (i := 0) rfl rfl ?_
    refine hy_const (i := 1) rfl (by decide) ?_
    refine hy_const (i := 2) rfl (by decide) ?_
    refine hy_cS3e (i := 3) rfl (by decide) mj_M_in (by decide) rfl (Nat.le_of_ble_eq_true rfl) (c_M_in) ?_
    refine hy_ib_eq (i := 4) (tt := 20) rfl (fun zc1 => ?_) (fun zc1 => ?_)
    · simp only [decide_eq_false_iff_not] at zc1; omega
    · refine hy_iload (i := 5) rfl rfl ?_
      refine hy_const (i := 6) rfl (by decide) ?_
      refine hy_const (i := 7) rfl (by decide) ?_
      refine hy_cS3e (i := 8) rfl (by decide) mj_M_in (by decide) rfl (Nat.le_of_ble_eq_true rfl) (c_M_in) ?_
      refine hy_ib_eq (i := 9) (tt := 20) rfl (fun zc2 => ?_) (fun zc2 => ?_)
      · simp only [decide_eq_false_iff_not] at zc2; omega
      · refine hy_aload (i := 10) rfl rfl ?_
        refine hy_iload (i := 11) rfl rfl ?_
        refine hy_cV1e (i := 12) rfl mj_M_isColour (by decide) rfl (Nat.le_of_ble_eq_true rfl) rfl rfl rfl (c_M_isColour) ?_
        refine hy_ib_eq (i := 13) (tt := 20) rfl (fun zc3 => ?_) (fun zc3 => ?_)
        · exact absurd (hq.2.2.1.symm.trans zc3) (by decide)
        · refine hy_iload (i := 14) rfl rfl ?_
          refine hy_cS1e (i := 15) rfl (by decide) mj_M_isEmpire (by decide) rfl (Nat.le_of_ble_eq_true rfl) (c_M_isEmpire) ?_
          refine hy_ib_eq (i := 16) (tt := 20) rfl (fun zc4 => ?_) (fun zc4 => ?_)
          · simp only [decide_eq_false_iff_not] at zc4; omega
          · refine hy_iload (i := 17) rfl rfl ?_
            refine hy_cS1e (i := 18) rfl (by decide) mj_M_isQuarter (by decide) rfl (Nat.le_of_ble_eq_true rfl) (c_M_isQuarter) ?_
            refine hy_ib_ne (i := 19) (tt := 22) rfl (fun zc5 => ?_) (fun zc5 => ?_)
            · refine hy_aload (i := 22) rfl rfl ?_
              refine hy_iload (i := 23) rfl rfl ?_
              refine hy_iload (i := 24) rfl rfl ?_
              refine hy_cV2 (i := 25) rfl mj_M_laysAs (by decide) rfl (Nat.le_of_ble_eq_true rfl) rfl rfl rfl (c_M_laysAs (by assumption) (by assumption) (by omega)) (fun r6_ t6_ h6 => ?_)
              obtain ⟨rfl, hF6, hA6⟩ := h6
              dsimp only [hy_st, List.nil_append]
              have g63 : t6_ 63 (8 * y + x).toNat = t 63 (8 * y + x).toNat := hF6 63 _ rfl
              have hg6 : 0 ≤ t6_ 63 (8 * y + x).toNat ∧ t6_ 63 (8 * y + x).toNat ≤ 12 := by rw [g63]; exact hgf
              refine hy_aload (i := 26) rfl rfl ?_
              refine hy_const (i := 27) rfl (by decide) ?_
              refine hy_iload (i := 28) rfl rfl ?_
              refine hy_imul (i := 29) rfl (by omega) ?_
              refine hy_iload (i := 30) rfl rfl ?_
              refine hy_iadd (i := 31) rfl (by omega) ?_
              refine hy_iload (i := 32) rfl rfl ?_
              refine hy_cV2e (i := 33) rfl mj_M_isUnseen (by decide) rfl (Nat.le_of_ble_eq_true rfl) rfl rfl rfl (c_M_isUnseen (by omega) (by omega) (by first | assumption | omega)) ?_
              refine hy_ib_eq (i := 34) (tt := 37) rfl (fun zc6 => ?_) (fun zc6 => ?_)
              · refine hy_const (i := 37) rfl (by decide) ?_
                refine hy_ireturn (i := 38) rfl rfl ?_
                first | (have q1 := of_decide_eq_true (show decide (_ = _) = true by assumption); rw [g63, hA6 _ (by omega), hA6 _ (by omega)] at q1; exact ⟨congrArg some (by rw [decide_eq_true q1]; rfl), hF6⟩) | (have q1 := of_decide_eq_false (show decide (_ = _) = false by assumption); rw [g63, hA6 _ (by omega), hA6 _ (by omega)] at q1; exact ⟨congrArg some (by rw [decide_eq_false q1]; rfl), hF6⟩)
              · refine hy_const (i := 35) rfl (by decide) ?_
                refine hy_goto (i := 36) (tt := 38) rfl ?_
                refine hy_ireturn (i := 38) rfl rfl ?_
                first | (have q1 := of_decide_eq_true (show decide (_ = _) = true by assumption); rw [g63, hA6 _ (by omega), hA6 _ (by omega)] at q1; exact ⟨congrArg some (by rw [decide_eq_true q1]; rfl), hF6⟩) | (have q1 := of_decide_eq_false (show decide (_ = _) = false by assumption); rw [g63, hA6 _ (by omega), hA6 _ (by omega)] at q1; exact ⟨congrArg some (by rw [decide_eq_false q1]; rfl), hF6⟩)
            · simp only [decide_eq_false_iff_not] at zc5; omega
  · rw [if_neg hq]
    refine hy_iload (i := 0) rfl rfl ?_
    refine hy_const (i := 1) rfl (by decide) ?_
    refine hy_const (i := 2) rfl (by decide) ?_
    refine hy_cS3e (i := 3) rfl (by decide) mj_M_in (by decide) rfl (Nat.le_of_ble_eq_true rfl) (c_M_in) ?_
    refine hy_ib_eq (i := 4) (tt := 20) rfl (fun zc1 => ?_) (fun zc1 => ?_)
    · refine hy_const (i := 20) rfl (by decide) ?_
      refine hy_ireturn (i := 21) rfl rfl ?_
      exact ⟨rfl, hy_F.rf⟩
    · refine hy_iload (i := 5) rfl rfl ?_
      refine hy_const (i := 6) rfl (by decide) ?_
      refine hy_const (i := 7) rfl (by decide) ?_
      refine hy_cS3e (i := 8) rfl (by decide) mj_M_in (by decide) rfl (Nat.le_of_ble_eq_true rfl) (c_M_in) ?_
      refine hy_ib_eq (i := 9) (tt := 20) rfl (fun zc2 => ?_) (fun zc2 => ?_)
      · refine hy_const (i := 20) rfl (by decide) ?_
        refine hy_ireturn (i := 21) rfl rfl ?_
        exact ⟨rfl, hy_F.rf⟩
      · refine hy_aload (i := 10) rfl rfl ?_
        refine hy_iload (i := 11) rfl rfl ?_
        refine hy_cV1e (i := 12) rfl mj_M_isColour (by decide) rfl (Nat.le_of_ble_eq_true rfl) rfl rfl rfl (c_M_isColour) ?_
        refine hy_ib_eq (i := 13) (tt := 20) rfl (fun zc3 => ?_) (fun zc3 => ?_)
        · refine hy_const (i := 20) rfl (by decide) ?_
          refine hy_ireturn (i := 21) rfl rfl ?_
          exact ⟨rfl, hy_F.rf⟩
        · refine hy_iload (i := 14) rfl rfl ?_
          refine hy_cS1e (i := 15) rfl (by decide) mj_M_isEmpire (by decide) rfl (Nat.le_of_ble_eq_true rfl) (c_M_isEmpire) ?_
          refine hy_ib_eq (i := 16) (tt := 20) rfl (fun zc4 => ?_) (fun zc4 => ?_)
          · refine hy_const (i := 20) rfl (by decide) ?_
            refine hy_ireturn (i := 21) rfl rfl ?_
            exact ⟨rfl, hy_F.rf⟩
          · refine hy_iload (i := 17) rfl rfl ?_
            refine hy_cS1e (i := 18) rfl (by decide) mj_M_isQuarter (by decide) rfl (Nat.le_of_ble_eq_true rfl) (c_M_isQuarter) ?_
            refine hy_ib_ne (i := 19) (tt := 22) rfl (fun zc5 => ?_) (fun zc5 => ?_)
            · exfalso; simp only [decide_eq_true_eq] at *; exact hq ⟨⟨by omega, by omega⟩, by assumption, by assumption, by assumption⟩
            · refine hy_const (i := 20) rfl (by decide) ?_
              refine hy_ireturn (i := 21) rfl rfl ?_
              exact ⟨rfl, hy_F.rf⟩
theorem c_M_painting {cs w : Int} (hk : ml_ok t) : hy_Ct sc hm_M_painting 6 [.inr (some 59), .inl cs, .inl w] t (fun r t' => r = some (if (0 ≤ cs ∧ cs ≤ 4095) ∧ hz_iand cs (hz_ixor (t 59 0) (-1)) = 0 ∧ 0 ≤ w ∧ w ≤ 2 then mq_ptA (mq_ptN t cs 24) w else -1) ∧ hy_F mvX t t') := by
  refine hy_mk_ct ok_M_painting ck_M_painting (Nat.le_of_ble_eq_true rfl) ?_
  by_cases hq : (0 ≤ cs ∧ cs ≤ 4095) ∧ hz_iand cs (hz_ixor (t 59 0) (-1)) = 0 ∧ 0 ≤ w ∧ w ≤ 2
  · rw [if_pos hq]
    have loop : ∀ (m : Nat), ∀ (k : Nat) (t1 : hy_T), m + k = 24 → hy_F mvX t t1 → hy_W sc hm_M_painting 6 25 [.inr (some 59), .inl cs, .inl w, .inl (mq_ptN t cs k).1, .inl (mq_ptN t cs k).2, .inl (k : Int)] [] t1 (fun r t' => r = some (mq_ptA (mq_ptN t cs 24) w) ∧ hy_F mvX t t') := by
      intro m
      induction m with
      | zero =>
        intro k t1 hm hF
        obtain rfl : k = 24 := by omega
        have hin := mq_ptN_in t cs 24
        refine hy_iload (i := 25) rfl rfl ?_
        refine hy_const (i := 26) rfl (by decide) ?_
        refine hy_ic_ge (i := 27) (tt := 55) rfl (fun zc1 => ?_) (fun zc1 => ?_)
        · refine hy_iload (i := 55) rfl rfl ?_
          refine hy_if_ne (i := 56) (tt := 59) rfl (fun zc2 => ?_) (fun zc2 => ?_)
          · refine hy_iload (i := 59) rfl rfl ?_
            refine hy_const (i := 60) rfl (by decide) ?_
            refine hy_ic_ne (i := 61) (tt := 64) rfl (fun zc3 => ?_) (fun zc3 => ?_)
            · refine hy_iload (i := 64) rfl rfl ?_
              refine hy_const (i := 65) rfl (by decide) ?_
              refine hy_ic_ne (i := 66) (tt := 71) rfl (fun zc4 => ?_) (fun zc4 => ?_)
              · refine hy_iload (i := 71) rfl rfl ?_
                refine hy_const (i := 72) rfl (by decide) ?_
                refine hy_irem (i := 73) rfl (by omega) (by omega) ?_
                refine hy_ireturn (i := 74) rfl rfl ?_
                refine ⟨congrArg some ?_, hF⟩
                unfold mq_ptA
                (repeat (first | rw [if_pos (by omega)] | rw [if_neg (by omega)]))
              · refine hy_iload (i := 67) rfl rfl ?_
                refine hy_const (i := 68) rfl (by decide) ?_
                refine hy_idiv (i := 69) rfl (by omega) (by omega) ?_
                refine hy_goto (i := 70) (tt := 74) rfl ?_
                refine hy_ireturn (i := 74) rfl rfl ?_
                refine ⟨congrArg some ?_, hF⟩
                unfold mq_ptA
                (repeat (first | rw [if_pos (by omega)] | rw [if_neg (by omega)]))
            · refine hy_const (i := 62) rfl (by decide) ?_
              refine hy_goto (i := 63) (tt := 74) rfl ?_
              refine hy_ireturn (i := 74) rfl rfl ?_
              refine ⟨congrArg some ?_, hF⟩
              unfold mq_ptA
              (repeat (first | rw [if_pos (by omega)] | rw [if_neg (by omega)]))
          · refine hy_iload (i := 57) rfl rfl ?_
            refine hy_goto (i := 58) (tt := 74) rfl ?_
            refine hy_ireturn (i := 74) rfl rfl ?_
            refine ⟨congrArg some ?_, hF⟩
            unfold mq_ptA
            (repeat (first | rw [if_pos (by omega)] | rw [if_neg (by omega)]))
        · omega
      | succ m ih =>
        intro k t1 hm hF
        have hin := mq_ptN_in t cs k
        have hk1 := ml_ok_F hF (meq_law mvX_meq) hk
        have e1 : mq_ptN t cs (k + 1) = if hz_iand cs (hz_ixor (mq_seenN t ((k : Int) / 4) ((k : Int) % 4) 12) (-1)) = 0 then ((mq_ptN t cs k).1 + 1, if (mq_ptN t cs k).2 = -1 then (k : Int) else (mq_ptN t cs k).2) else mq_ptN t cs k := rfl
        have ih' := ih (k + 1)
        rw [e1] at ih'
        refine hy_iload (i := 25) rfl rfl ?_
        refine hy_const (i := 26) rfl (by decide) ?_
        refine hy_ic_ge (i := 27) (tt := 55) rfl (fun zc1 => ?_) (fun zc1 => ?_)
        · omega
        · refine hy_iload (i := 28) rfl rfl ?_
          refine hy_aload (i := 29) rfl rfl ?_
          refine hy_iload (i := 30) rfl rfl ?_
          refine hy_const (i := 31) rfl (by decide) ?_
          refine hy_idiv (i := 32) rfl (by omega) (by omega) ?_
          refine hy_iload (i := 33) rfl rfl ?_
          refine hy_const (i := 34) rfl (by decide) ?_
          refine hy_irem (i := 35) rfl (by omega) (by omega) ?_
          refine hy_cV2 (i := 36) rfl mj_M_seenBy (by decide) rfl (Nat.le_of_ble_eq_true rfl) rfl rfl rfl (c_M_seenBy (by assumption) (by omega)) (fun r1_ t1_ h1 => ?_)
          obtain ⟨rfl, hF1⟩ := h1
          dsimp only [hy_st, List.cons_append, List.nil_append]
          rw [mq_seenN_F hF mvX_meq]
          refine hy_const (i := 37) rfl (by decide) ?_
          refine hy_ixor (i := 38) rfl ?_
          refine hy_iand (i := 39) rfl ?_
          refine hy_if_eq (i := 40) (tt := 42) rfl (fun zc2 => ?_) (fun zc2 => ?_)
          · refine hy_iload (i := 42) rfl rfl ?_
            refine hy_const (i := 43) rfl (by decide) ?_
            refine hy_ic_ne (i := 44) (tt := 47) rfl (fun zc3 => ?_) (fun zc3 => ?_)
            · refine hy_iload (i := 47) rfl rfl ?_
              refine hy_istore (i := 48) rfl ?_
              refine hy_iload (i := 49) rfl rfl ?_
              refine hy_const (i := 50) rfl (by decide) ?_
              refine hy_iadd (i := 51) rfl (by omega) ?_
              refine hy_istore (i := 52) rfl ?_
              refine hy_iinc (i := 53) rfl rfl (by omega) ?_
              refine hy_goto (i := 54) (tt := 25) rfl ?_
              first | (rw [if_pos (by assumption)] at ih'; dsimp only at ih'; first | (rw [if_pos (by assumption)] at ih'; exact ih' _ (by omega) (hF.tr' hF1)) | (rw [if_neg (by assumption)] at ih'; exact ih' _ (by omega) (hF.tr' hF1))) | (rw [if_neg (by assumption)] at ih'; exact ih' _ (by omega) (hF.tr' hF1))
            · refine hy_iload (i := 45) rfl rfl ?_
              refine hy_goto (i := 46) (tt := 48) rfl ?_
              refine hy_istore (i := 48) rfl ?_
              refine hy_iload (i := 49) rfl rfl ?_
              refine hy_const (i := 50) rfl (by decide) ?_
              refine hy_iadd (i := 51) rfl (by omega) ?_
              refine hy_istore (i := 52) rfl ?_
              refine hy_iinc (i := 53) rfl rfl (by omega) ?_
              refine hy_goto (i := 54) (tt := 25) rfl ?_
              first | (rw [if_pos (by assumption)] at ih'; dsimp only at ih'; first | (rw [if_pos (by assumption)] at ih'; exact ih' _ (by omega) (hF.tr' hF1)) | (rw [if_neg (by assumption)] at ih'; exact ih' _ (by omega) (hF.tr' hF1))) | (rw [if_neg (by assumption)] at ih'; exact ih' _ (by omega) (hF.tr' hF1))
          · refine hy_goto (i := 41) (tt := 53) rfl ?_
            refine hy_iinc (i := 53) rfl rfl (by omega) ?_
            refine hy_goto (i := 54) (tt := 25) rfl ?_
            first | (rw [if_pos (by assumption)] at ih'; dsimp only at ih'; first | (rw [if_pos (by assumption)] at ih'; exact ih' _ (by omega) (hF.tr' hF1)) | (rw [if_neg (by assumption)] at ih'; exact ih' _ (by omega) (hF.tr' hF1))) | (rw [if_neg (by assumption)] at ih'; exact ih' _ (by omega) (hF.tr' hF1))
    refine hy_iload (i := 0) rfl rfl ?_
    refine hy_const (i := 1) rfl (by decide) ?_
    refine hy_const (i := 2) rfl (by decide) ?_
    refine hy_cS3e (i := 3) rfl (by decide) mj_M_in (by decide) rfl (Nat.le_of_ble_eq_true rfl) (c_M_in) ?_
    refine hy_ib_eq (i := 4) (tt := 17) rfl (fun zc1 => ?_) (fun zc1 => ?_)
    · simp only [decide_eq_false_iff_not] at zc1; omega
    · refine hy_iload (i := 5) rfl rfl ?_
      refine hy_aload (i := 6) rfl rfl ?_
      refine hy_get (i := 7) (fk := 0) rfl rfl rfl ?_
      refine hy_const (i := 8) rfl (by decide) ?_
      refine hy_ixor (i := 9) rfl ?_
      refine hy_iand (i := 10) rfl ?_
      refine hy_if_ne (i := 11) (tt := 17) rfl (fun zc2 => ?_) (fun zc2 => ?_)
      · exact absurd hq.2.1 zc2
      · refine hy_iload (i := 12) rfl rfl ?_
        refine hy_const (i := 13) rfl (by decide) ?_
        refine hy_const (i := 14) rfl (by decide) ?_
        refine hy_cS3e (i := 15) rfl (by decide) mj_M_in (by decide) rfl (Nat.le_of_ble_eq_true rfl) (c_M_in) ?_
        refine hy_ib_ne (i := 16) (tt := 19) rfl (fun zc3 => ?_) (fun zc3 => ?_)
        · refine hy_const (i := 19) rfl (by decide) ?_
          refine hy_istore (i := 20) rfl ?_
          refine hy_const (i := 21) rfl (by decide) ?_
          refine hy_istore (i := 22) rfl ?_
          refine hy_const (i := 23) rfl (by decide) ?_
          refine hy_istore (i := 24) rfl ?_
          exact loop 24 0 t rfl hy_F.rf
        · simp only [decide_eq_false_iff_not] at zc3; omega
  · rw [if_neg hq]
    refine hy_iload (i := 0) rfl rfl ?_
    refine hy_const (i := 1) rfl (by decide) ?_
    refine hy_const (i := 2) rfl (by decide) ?_
    refine hy_cS3e (i := 3) rfl (by decide) mj_M_in (by decide) rfl (Nat.le_of_ble_eq_true rfl) (c_M_in) ?_
    refine hy_ib_eq (i := 4) (tt := 17) rfl (fun zc1 => ?_) (fun zc1 => ?_)
    · refine hy_const (i := 17) rfl (by decide) ?_
      refine hy_ireturn (i := 18) rfl rfl ?_
      exact ⟨rfl, hy_F.rf⟩
    · refine hy_iload (i := 5) rfl rfl ?_
      refine hy_aload (i := 6) rfl rfl ?_
      refine hy_get (i := 7) (fk := 0) rfl rfl rfl ?_
      refine hy_const (i := 8) rfl (by decide) ?_
      refine hy_ixor (i := 9) rfl ?_
      refine hy_iand (i := 10) rfl ?_
      refine hy_if_ne (i := 11) (tt := 17) rfl (fun zc2 => ?_) (fun zc2 => ?_)
      · refine hy_const (i := 17) rfl (by decide) ?_
        refine hy_ireturn (i := 18) rfl rfl ?_
        exact ⟨rfl, hy_F.rf⟩
      · refine hy_iload (i := 12) rfl rfl ?_
        refine hy_const (i := 13) rfl (by decide) ?_
        refine hy_const (i := 14) rfl (by decide) ?_
        refine hy_cS3e (i := 15) rfl (by decide) mj_M_in (by decide) rfl (Nat.le_of_ble_eq_true rfl) (c_M_in) ?_
        refine hy_ib_ne (i := 16) (tt := 19) rfl (fun zc3 => ?_) (fun zc3 => ?_)
        · exfalso; simp only [decide_eq_true_eq] at zc1 zc3; exact hq ⟨zc1, zc2, zc3⟩
        · refine hy_const (i := 17) rfl (by decide) ?_
          refine hy_ireturn (i := 18) rfl rfl ?_
          exact ⟨rfl, hy_F.rf⟩
theorem c_M_ownedOf {e c : Int} : hy_Ct sc hm_M_ownedOf 0 [.inr (some 59), .inl e, .inl c] t (hy_e (some (mo_ownN t e c 64)) t) := by
  refine hy_mk_ct ok_M_ownedOf ck_M_ownedOf (Nat.le_of_ble_eq_true rfl) ?_
  have loop : ∀ (m : Nat), ∀ (k : Nat), m + k = 64 → hy_W sc hm_M_ownedOf 0 4 [.inr (some 59), .inl e, .inl c, .inl (mo_ownN t e c k), .inl (k : Int)] [] t (hy_e (some (mo_ownN t e c 64)) t) := by
    intro m
    induction m with
    | zero =>
      intro k hm
      obtain rfl : k = 64 := by omega
      refine hy_iload (i := 4) rfl rfl ?_
      refine hy_const (i := 5) rfl (by decide) ?_
      refine hy_ic_ge (i := 6) (tt := 27) rfl (fun zc1 => ?_) (fun zc1 => ?_)
      · refine hy_iload (i := 27) rfl rfl ?_
        refine hy_ireturn (i := 28) rfl rfl ?_
        exact ⟨rfl, rfl⟩
      · omega
    | succ m ih =>
      intro k hm
      have hin := mo_ownN_in t e c k
      have e1 : mo_ownN t e c (k + 1) = mo_ownN t e c k + (if t 64 k = e ∧ t 63 k = c then 1 else 0) := rfl
      have ih' := ih (k + 1) (by omega)
      rw [e1] at ih'
      refine hy_iload (i := 4) rfl rfl ?_
      refine hy_const (i := 5) rfl (by decide) ?_
      refine hy_ic_ge (i := 6) (tt := 27) rfl (fun zc1 => ?_) (fun zc1 => ?_)
      · omega
      · refine hy_iload (i := 7) rfl rfl ?_
        refine hy_aload (i := 8) rfl rfl ?_
        refine hy_getr (i := 9) rfl rfl ?_
        refine hy_iload (i := 10) rfl rfl ?_
        refine hy_iald (i := 11) rfl rfl (by omega) (k := k) (by omega) ?_
        refine hy_iload (i := 12) rfl rfl ?_
        refine hy_ic_ne (i := 13) (tt := 22) rfl (fun zc2 => ?_) (fun zc2 => ?_)
        · refine hy_const (i := 22) rfl (by decide) ?_
          refine hy_iadd (i := 23) rfl (by omega) ?_
          refine hy_istore (i := 24) rfl ?_
          refine hy_iinc (i := 25) rfl rfl (by omega) ?_
          refine hy_goto (i := 26) (tt := 4) rfl ?_
          first | (rw [if_pos ⟨by assumption, by assumption⟩] at ih'; exact ih') | (rw [if_neg (fun h => absurd h.1 (by assumption))] at ih'; exact ih') | (rw [if_neg (fun h => absurd h.2 (by assumption))] at ih'; exact ih')
        · refine hy_aload (i := 14) rfl rfl ?_
          refine hy_getr (i := 15) rfl rfl ?_
          refine hy_iload (i := 16) rfl rfl ?_
          refine hy_iald (i := 17) rfl rfl (by omega) (k := k) (by omega) ?_
          refine hy_iload (i := 18) rfl rfl ?_
          refine hy_ic_ne (i := 19) (tt := 22) rfl (fun zc3 => ?_) (fun zc3 => ?_)
          · refine hy_const (i := 22) rfl (by decide) ?_
            refine hy_iadd (i := 23) rfl (by omega) ?_
            refine hy_istore (i := 24) rfl ?_
            refine hy_iinc (i := 25) rfl rfl (by omega) ?_
            refine hy_goto (i := 26) (tt := 4) rfl ?_
            first | (rw [if_pos ⟨by assumption, by assumption⟩] at ih'; exact ih') | (rw [if_neg (fun h => absurd h.1 (by assumption))] at ih'; exact ih') | (rw [if_neg (fun h => absurd h.2 (by assumption))] at ih'; exact ih')
          · refine hy_const (i := 20) rfl (by decide) ?_
            refine hy_goto (i := 21) (tt := 23) rfl ?_
            refine hy_iadd (i := 23) rfl (by omega) ?_
            refine hy_istore (i := 24) rfl ?_
            refine hy_iinc (i := 25) rfl rfl (by omega) ?_
            refine hy_goto (i := 26) (tt := 4) rfl ?_
            first | (rw [if_pos ⟨by assumption, by assumption⟩] at ih'; exact ih') | (rw [if_neg (fun h => absurd h.1 (by assumption))] at ih'; exact ih') | (rw [if_neg (fun h => absurd h.2 (by assumption))] at ih'; exact ih')
  refine hy_const (i := 0) rfl (by decide) ?_
  refine hy_istore (i := 1) rfl ?_
  refine hy_const (i := 2) rfl (by decide) ?_
  refine hy_istore (i := 3) rfl ?_
  exact loop 64 0 rfl
theorem c_M_worthOf {e q : Int} (hk : ml_ok t) (hq : 0 ≤ q ∧ q < 4) : hy_Ct sc hm_M_worthOf 6 [.inr (some 59), .inl e, .inl q] t (fun r t' => r = some (mw_worth t e q) ∧ hy_F mvX t t') := by
  refine hy_mk_ct ok_M_worthOf ck_M_worthOf (Nat.le_of_ble_eq_true rfl) ?_
  have loop : ∀ (s : Int), s = mq_seenN t e q 12 → ∀ (m : Nat), ∀ (k : Nat) (t1 : hy_T) (v6 : hy_V), m + k = 12 → hy_F mvX t t1 → hy_W sc hm_M_worthOf 6 9 [.inr (some 59), .inl e, .inl q, .inl s, .inl (mw_worthN t e q s k), .inl (k : Int), v6] [] t1 (fun r t' => r = some (mw_worth t e q) ∧ hy_F mvX t t') := by
    intro s hs m
    induction m with
    | zero =>
      intro k t1 v6 hm hF
      obtain rfl : k = 12 := by omega
      refine hy_iload (i := 9) rfl rfl ?_
      refine hy_const (i := 10) rfl (by decide) ?_
      refine hy_ic_ge (i := 11) (tt := 47) rfl (fun zc1 => ?_) (fun zc1 => ?_)
      · refine hy_iload (i := 47) rfl rfl ?_
        refine hy_ireturn (i := 48) rfl rfl ?_
        exact ⟨congrArg some (by rw [hs]; rfl), hF⟩
      · omega
    | succ m ih =>
      intro k t1 v6 hm hF
      have hin := mw_worthN_in t e q s k
      have hk1 := ml_ok_F hF (meq_law mvX_meq) hk
      have h1 := mw_one_in t e q s k
      have hT := mw_term t e q s k
      have e1 : mw_worthN t e q s (k + 1) = mw_worthN t e q s k + (if mw_one t e q s k = 0 then 0 else mw_one t e q s k * mb_amt t (mq_V t e k q 0 0 (mw_one t e q s k) 0) 118 99) := rfl
      have ih' := ih (k + 1)
      rw [e1] at ih'
      have mid : ∀ (x : Int), x = mw_one t e q s k → hy_W sc hm_M_worthOf 6 23 [.inr (some 59), .inl e, .inl q, .inl s, .inl (mw_worthN t e q s k), .inl (k : Int), .inl x] [] t1 (fun r t' => r = some (mw_worth t e q) ∧ hy_F mvX t t') := by
        intro x hx
        subst hx
        by_cases h0 : mw_one t e q s k = 0
        · rw [if_pos h0, Int.add_zero] at ih'
          refine hy_iload (i := 23) rfl rfl ?_
          refine hy_if_ne (i := 24) (tt := 26) rfl (fun zc1 => ?_) (fun zc1 => ?_)
          · exact absurd h0 zc1
          · refine hy_goto (i := 25) (tt := 45) rfl ?_
            refine hy_iinc (i := 45) rfl rfl (by omega) ?_
            refine hy_goto (i := 46) (tt := 9) rfl ?_
            exact ih' _ _ (by omega) hF
        · rw [if_neg h0] at ih'
          refine hy_iload (i := 23) rfl rfl ?_
          refine hy_if_ne (i := 24) (tt := 26) rfl (fun zc1 => ?_) (fun zc1 => ?_)
          · refine hy_aload (i := 26) rfl rfl ?_
            refine hy_iload (i := 27) rfl rfl ?_
            refine hy_iload (i := 28) rfl rfl ?_
            refine hy_iload (i := 29) rfl rfl ?_
            refine hy_cV3 (i := 30) rfl mj_M_feels (by decide) rfl (Nat.le_of_ble_eq_true rfl) rfl rfl rfl (c_M_feels (by omega) (by omega)) (fun r1_ t1_ h1 => ?_)
            obtain ⟨rfl, hF1, hV1⟩ := h1
            dsimp only [hy_st, List.nil_append]
            refine hy_aload (i := 31) rfl rfl ?_
            refine hy_getr (i := 32) rfl rfl ?_
            refine hy_const (i := 33) rfl (by decide) ?_
            refine hy_iload (i := 34) rfl rfl ?_
            refine hy_iast (i := 35) rfl rfl (by omega) (show _ = 7 from rfl) ?_
            refine hy_iload (i := 36) rfl rfl ?_
            refine hy_iload (i := 37) rfl rfl ?_
            refine hy_aload (i := 38) rfl rfl ?_
            refine hy_const (i := 39) rfl (by decide) ?_
            refine hy_const (i := 40) rfl (by decide) ?_
            have hk4 := ml_ok_F (hF1.up (r := 78) (j := 7) (v := mw_one t e q s k) rfl) (fun r j h => by revert h; simp [mlawX]; omega) hk1
            have ev := mq_tellN hk1 hF1 hV1 (mw_one t e q s k) 118 99 (.inr rfl)
            rw [mq_V_F hF mvX_meq, mb_amt_F hF (meq_law mvX_meq)] at ev
            refine hy_cV2 (i := 41) rfl mj_M_byLaw (by decide) rfl (Nat.le_of_ble_eq_true rfl) rfl rfl rfl (c_M_byLaw hk4 (.inr rfl)) (fun r2_ t2_ h2 => ?_)
            obtain ⟨rfl, hF2⟩ := h2
            dsimp only [hy_st, List.cons_append, List.nil_append]
            rw [ev]
            refine hy_imul (i := 42) rfl (by omega) ?_
            refine hy_iadd (i := 43) rfl (by omega) ?_
            refine hy_istore (i := 44) rfl ?_
            refine hy_iinc (i := 45) rfl rfl (by omega) ?_
            refine hy_goto (i := 46) (tt := 9) rfl ?_
            exact ih' _ _ (by omega) (hF.tr' ((mv_78 (hF1.up rfl)).tr' (ml_mv hF2)))
          · exact absurd zc1 h0
      have eb : hz_b s k = true → mw_one t e q s k = mo_ownN t e k 64 := fun h => by unfold mw_one; rw [if_pos h]
      have ec : hz_b s k = false → mw_one t e q s k = 0 := fun h => by unfold mw_one; rw [h]; rfl
      refine hy_iload (i := 9) rfl rfl ?_
      refine hy_const (i := 10) rfl (by decide) ?_
      refine hy_ic_ge (i := 11) (tt := 47) rfl (fun zc1 => ?_) (fun zc1 => ?_)
      · omega
      · refine hy_iload (i := 12) rfl rfl ?_
        refine hy_iload (i := 13) rfl rfl ?_
        refine hy_cS2e (i := 14) rfl (by decide) mj_M_has (by decide) rfl (Nat.le_of_ble_eq_true rfl) (c_M_has) ?_
        refine hy_ib_eq (i := 15) (tt := 21) rfl (fun zc2 => ?_) (fun zc2 => ?_)
        · refine hy_const (i := 21) rfl (by decide) ?_
          refine hy_istore (i := 22) rfl ?_
          first | exact mid _ ((mo_ownN_F hF mvX_mw e k 64).trans (eb (by assumption)).symm) | exact mid _ (ec (by assumption)).symm
        · refine hy_aload (i := 16) rfl rfl ?_
          refine hy_iload (i := 17) rfl rfl ?_
          refine hy_iload (i := 18) rfl rfl ?_
          refine hy_cV2e (i := 19) rfl mj_M_ownedOf (by decide) rfl (Nat.le_of_ble_eq_true rfl) rfl rfl rfl (c_M_ownedOf) ?_
          refine hy_goto (i := 20) (tt := 22) rfl ?_
          refine hy_istore (i := 22) rfl ?_
          first | exact mid _ ((mo_ownN_F hF mvX_mw e k 64).trans (eb (by assumption)).symm) | exact mid _ (ec (by assumption)).symm
  refine hy_aload (i := 0) rfl rfl ?_
  refine hy_iload (i := 1) rfl rfl ?_
  refine hy_iload (i := 2) rfl rfl ?_
  refine hy_cV2 (i := 3) rfl mj_M_seenBy (by decide) rfl (Nat.le_of_ble_eq_true rfl) rfl rfl rfl (c_M_seenBy (by assumption) (by omega)) (fun r1_ t1_ h1 => ?_)
  obtain ⟨rfl, hF1⟩ := h1
  dsimp only [hy_st, List.cons_append, List.nil_append]
  refine hy_istore (i := 4) rfl ?_
  refine hy_const (i := 5) rfl (by decide) ?_
  refine hy_istore (i := 6) rfl ?_
  refine hy_const (i := 7) rfl (by decide) ?_
  refine hy_istore (i := 8) rfl ?_
  exact loop _ rfl 12 0 _ _ rfl hF1
theorem c_M_worth {e q : Int} (hk : ml_ok t) : hy_Ct sc hm_M_worth 7 [.inr (some 59), .inl e, .inl q] t (fun r t' => r = some (if (0 ≤ e ∧ e < 6) ∧ 0 ≤ q ∧ q < 4 then mw_worth t e q else -1) ∧ hy_F mvX t t') := by
  refine hy_mk_ct ok_M_worth ck_M_worth (Nat.le_of_ble_eq_true rfl) ?_
  by_cases hq : (0 ≤ e ∧ e < 6) ∧ 0 ≤ q ∧ q < 4
  · rw [if_pos hq]
    refine hy_iload (i := 0) rfl rfl ?_
    refine hy_cS1e (i := 1) rfl (by decide) mj_M_isEmpire (by decide) rfl (Nat.le_of_ble_eq_true rfl) (c_M_isEmpire) ?_
    refine hy_ib_eq (i := 2) (tt := 11) rfl (fun zc1 => ?_) (fun zc1 => ?_)
    · simp only [decide_eq_false_iff_not] at zc1; omega
    · refine hy_iload (i := 3) rfl rfl ?_
      refine hy_cS1e (i := 4) rfl (by decide) mj_M_isQuarter (by decide) rfl (Nat.le_of_ble_eq_true rfl) (c_M_isQuarter) ?_
      refine hy_ib_eq (i := 5) (tt := 11) rfl (fun zc2 => ?_) (fun zc2 => ?_)
      · simp only [decide_eq_false_iff_not] at zc2; omega
      · refine hy_aload (i := 6) rfl rfl ?_
        refine hy_iload (i := 7) rfl rfl ?_
        refine hy_iload (i := 8) rfl rfl ?_
        refine hy_cV2 (i := 9) rfl mj_M_worthOf (by decide) rfl (Nat.le_of_ble_eq_true rfl) rfl rfl rfl (c_M_worthOf (by assumption) (by omega)) (fun r3_ t3_ h3 => ?_)
        obtain ⟨rfl, hF3⟩ := h3
        dsimp only [hy_st, List.cons_append, List.nil_append]
        refine hy_goto (i := 10) (tt := 12) rfl ?_
        refine hy_ireturn (i := 12) rfl rfl ?_
        exact ⟨rfl, by assumption⟩
  · rw [if_neg hq]
    refine hy_iload (i := 0) rfl rfl ?_
    refine hy_cS1e (i := 1) rfl (by decide) mj_M_isEmpire (by decide) rfl (Nat.le_of_ble_eq_true rfl) (c_M_isEmpire) ?_
    refine hy_ib_eq (i := 2) (tt := 11) rfl (fun zc1 => ?_) (fun zc1 => ?_)
    · refine hy_const (i := 11) rfl (by decide) ?_
      refine hy_ireturn (i := 12) rfl rfl ?_
      exact ⟨rfl, hy_F.rf⟩
    · refine hy_iload (i := 3) rfl rfl ?_
      refine hy_cS1e (i := 4) rfl (by decide) mj_M_isQuarter (by decide) rfl (Nat.le_of_ble_eq_true rfl) (c_M_isQuarter) ?_
      refine hy_ib_eq (i := 5) (tt := 11) rfl (fun zc2 => ?_) (fun zc2 => ?_)
      · refine hy_const (i := 11) rfl (by decide) ?_
        refine hy_ireturn (i := 12) rfl rfl ?_
        exact ⟨rfl, hy_F.rf⟩
      · exfalso; simp only [decide_eq_true_eq] at *; exact hq ⟨by assumption, by assumption⟩
end MW
