/-! the class's ground: a row, and all of them -/
def gd_rowE (t : hy_T) (x : Int) : hy_T := if x < 8 then tp_fail t 1 (t 3 3) else t
def gd_rowN (y : Int) : Nat → hy_T → Int → hy_T
  | 0, t, x => gd_rowE t x
  | n + 1, t, x => if (49 ≤ tp_next t ∧ tp_next t ≤ 56) ∨ 0 ≤ gd_col (tp_next t) then gd_rowN y n (gd_fields t y x).1 (x + (gd_fields t y x).2) else gd_rowE t x
def gd_row (t : hy_T) (y : Int) : hy_T := gd_rowN y 9 t 0
theorem gd_rowE_s {t : hy_T} (h : tp_ok t) (x : Int) : tp_ok (gd_rowE t x) ∧ hy_F gdX t (gd_rowE t x) := by
  unfold gd_rowE
  split
  · exact ⟨tp_fail_ok h _ _, gdX_tp (tp_fail_G _ _ _)⟩
  · exact ⟨h, hy_F.rf⟩
theorem gd_rowN_s (y : Int) : ∀ (n : Nat) {t : hy_T} {x : Int}, tp_ok t → (0 ≤ x ∧ x ≤ 8) → tp_ok (gd_rowN y n t x) ∧ hy_F gdX t (gd_rowN y n t x)
  | 0, t, x, h, hx => gd_rowE_s h x
  | n + 1, t, x, h, hx => by
    simp only [gd_rowN]
    split
    · obtain ⟨a1, a2, a3, a4⟩ := gd_fields_s h (y := y) hx
      obtain ⟨b1, b2⟩ := gd_rowN_s y n a1 (x := x + (gd_fields t y x).2) (by omega)
      exact ⟨b1, a2.tr' b2⟩
    · exact gd_rowE_s h x
def gd_sep (t : hy_T) (k : Nat) : hy_T := if 0 < k then tp_take t 47 else t
def gd_rowsN (t : hy_T) (n : Int) : Nat → hy_T
  | 0 => tp_start t n
  | k + 1 => gd_row (gd_sep (gd_rowsN t n k) k) k
theorem gd_sep_s {t : hy_T} (h : tp_ok t) (k : Nat) : tp_ok (gd_sep t k) ∧ hy_F gdX t (gd_sep t k) := by
  unfold gd_sep
  split
  · exact ⟨tp_take_ok h (by decide), gdX_tp (tp_take_F _ _)⟩
  · exact ⟨h, hy_F.rf⟩
theorem gd_rowsN_s {t : hy_T} (h : tp_ok t) (n : Int) : ∀ k : Nat, tp_ok (gd_rowsN t n k) ∧ hy_F gdX t (gd_rowsN t n k)
  | 0 => ⟨tp_start_ok h n, ((hy_F.rf.up rfl).up rfl).up rfl⟩
  | k + 1 => by
    obtain ⟨a1, a2⟩ := gd_rowsN_s h n k
    obtain ⟨b1, b2⟩ := gd_sep_s a1 k
    obtain ⟨c1, c2⟩ := gd_rowN_s k 9 b1 (x := 0) (by decide)
    exact ⟨c1, (a2.tr' b2).tr' c2⟩
def gd_read (t : hy_T) (n : Int) : hy_T := if tp_finish (gd_rowsN t n 8) 3 4 = 0 then hy_cp (tp_finish (gd_rowsN t n 8)) 10 9 64 else tp_finish (gd_rowsN t n 8)
section GE
variable {sc : List Int32} {t : hy_T}
theorem c_G_readRow {y : Int} (h : tp_ok t) (hy : 0 ≤ y ∧ y < 8) : hy_Ct sc hm_G_readRow 3 [.inr (some 8), .inl y] t (hy_e none (gd_row t y)) := by
  refine hy_mk_ct ok_G_readRow ck_G_readRow (Nat.le_of_ble_eq_true rfl) ?_
  have fin : ∀ (x : Int) (t1 : hy_T) (v3 : hy_V), tp_ok t1 → hy_W sc hm_G_readRow 3 21 [.inr (some 8), .inl y, .inl x, v3] [] t1 (hy_e none (gd_rowE t1 x)) := by
    intro x t1 v3 h1
    unfold gd_rowE
    refine hy_iload (i := 21) rfl rfl ?_
    refine hy_const (i := 22) rfl (by decide) ?_
    refine hy_ic_ge (i := 23) (tt := 28) rfl (fun zc1 => ?_) (fun zc1 => ?_)
    · refine hy_return (i := 28) rfl rfl ?_
      first | (rw [if_pos (by omega)]; exact ⟨rfl, rfl⟩) | (rw [if_neg (by omega)]; exact ⟨rfl, rfl⟩)
    · refine hy_aload (i := 24) rfl rfl ?_
      refine hy_getr (i := 25) rfl rfl ?_
      refine hy_const (i := 26) rfl (by decide) ?_
      refine hy_cV1v (i := 27) rfl mj_T_fail (by decide) rfl (Nat.le_of_ble_eq_true rfl) rfl rfl rfl (c_T_fail (by decide) (by have := tp_ok.p (by assumption); omega)) ?_
      refine hy_return (i := 28) rfl rfl ?_
      first | (rw [if_pos (by omega)]; exact ⟨rfl, rfl⟩) | (rw [if_neg (by omega)]; exact ⟨rfl, rfl⟩)
  have loop : ∀ (n : Nat), ∀ (k : Nat) (x : Int) (t1 : hy_T), n + k = 9 → tp_ok t1 → (0 ≤ x ∧ x ≤ 8) → gd_rowN y n t1 x = gd_row t y → hy_W sc hm_G_readRow 3 4 [.inr (some 8), .inl y, .inl x, .inl (k : Int)] [] t1 (hy_e none (gd_row t y)) := by
    intro n
    induction n with
    | zero =>
      intro k x t1 hn h1 hx he
      obtain rfl : k = 9 := by omega
      rw [← he]
      refine hy_iload (i := 4) rfl rfl ?_
      refine hy_const (i := 5) rfl (by decide) ?_
      refine hy_ic_gt (i := 6) (tt := 21) rfl (fun zc1 => ?_) (fun zc1 => ?_)
      · exact fin x t1 _ h1
      · omega
    | succ n ih =>
      intro k x t1 hn h1 hx he
      by_cases hd : (49 ≤ tp_next t1 ∧ tp_next t1 ≤ 56) ∨ 0 ≤ gd_col (tp_next t1)
      · obtain ⟨a1, a2, a3, a4⟩ := gd_fields_s h1 (y := y) hx
        have e : gd_rowN y (n + 1) t1 x = gd_rowN y n (gd_fields t1 y x).1 (x + (gd_fields t1 y x).2) := by simp only [gd_rowN]; rw [if_pos hd]
        rw [e] at he
        refine hy_iload (i := 4) rfl rfl ?_
        refine hy_const (i := 5) rfl (by decide) ?_
        refine hy_ic_gt (i := 6) (tt := 21) rfl (fun zc1 => ?_) (fun zc1 => ?_)
        · omega
        · refine hy_aload (i := 7) rfl rfl ?_
          refine hy_getr (i := 8) rfl rfl ?_
          refine hy_cV0e (i := 9) rfl mj_T_next (by decide) rfl (Nat.le_of_ble_eq_true rfl) rfl rfl rfl (c_T_next (tp_ok.e (by assumption))) ?_
          refine hy_cS1e (i := 10) rfl (by decide) mj_G_isFieldsStart (by decide) rfl (Nat.le_of_ble_eq_true rfl) (c_G_isFieldsStart) ?_
          refine hy_ib_eq (i := 11) (tt := 21) rfl (fun zc2 => ?_) (fun zc2 => ?_)
          · simp at zc2; omega
          · refine hy_iload (i := 12) rfl rfl ?_
            refine hy_aload (i := 13) rfl rfl ?_
            refine hy_iload (i := 14) rfl rfl ?_
            refine hy_iload (i := 15) rfl rfl ?_
            refine hy_cV2e (i := 16) rfl mj_G_readFields (by decide) rfl (Nat.le_of_ble_eq_true rfl) rfl rfl rfl (c_G_readFields (by assumption) (by omega) (by omega)) ?_
            refine hy_iadd (i := 17) rfl (by omega) ?_
            refine hy_istore (i := 18) rfl ?_
            refine hy_iinc (i := 19) rfl rfl (by omega) ?_
            refine hy_goto (i := 20) (tt := 4) rfl ?_
            exact ih (k + 1) _ _ (by omega) a1 (by omega) he
      · have e : gd_rowN y (n + 1) t1 x = gd_rowE t1 x := by simp only [gd_rowN]; rw [if_neg hd]
        rw [e] at he
        rw [← he]
        refine hy_iload (i := 4) rfl rfl ?_
        refine hy_const (i := 5) rfl (by decide) ?_
        refine hy_ic_gt (i := 6) (tt := 21) rfl (fun zc1 => ?_) (fun zc1 => ?_)
        · omega
        · refine hy_aload (i := 7) rfl rfl ?_
          refine hy_getr (i := 8) rfl rfl ?_
          refine hy_cV0e (i := 9) rfl mj_T_next (by decide) rfl (Nat.le_of_ble_eq_true rfl) rfl rfl rfl (c_T_next (tp_ok.e (by assumption))) ?_
          refine hy_cS1e (i := 10) rfl (by decide) mj_G_isFieldsStart (by decide) rfl (Nat.le_of_ble_eq_true rfl) (c_G_isFieldsStart) ?_
          refine hy_ib_eq (i := 11) (tt := 21) rfl (fun zc2 => ?_) (fun zc2 => ?_)
          · exact fin x t1 _ h1
          · simp at zc2; omega
  refine hy_const (i := 0) rfl (by decide) ?_
  refine hy_istore (i := 1) rfl ?_
  refine hy_const (i := 2) rfl (by decide) ?_
  refine hy_istore (i := 3) rfl ?_
  exact loop 9 0 0 _ rfl h (by decide) rfl
theorem c_G_read {n : Int} (h : tp_ok t) : hy_Ct sc hm_G_read 4 [.inr (some 8), .inl n] t (hy_e (some (gd_read t n 3 4)) (gd_read t n)) := by
  refine hy_mk_ct ok_G_read ck_G_read (Nat.le_of_ble_eq_true rfl) ?_
  have loop : ∀ (m : Nat), ∀ (k : Nat) (t1 : hy_T), m + k = 8 → t1 = gd_rowsN t n k → hy_W sc hm_G_read 4 6 [.inr (some 8), .inl n, .inl (k : Int)] [] t1 (hy_e (some (gd_read t n 3 4)) (gd_read t n)) := by
    intro m
    induction m with
    | zero =>
      intro k t1 hn ht
      obtain rfl : k = 8 := by omega
      have h1 : tp_ok t1 := by rw [ht]; exact (gd_rowsN_s h n 8).1
      unfold gd_read
      rw [← ht]
      refine hy_iload (i := 6) rfl rfl ?_
      refine hy_const (i := 7) rfl (by decide) ?_
      refine hy_ic_ge (i := 8) (tt := 20) rfl (fun zc1 => ?_) (fun zc1 => ?_)
      · refine hy_aload (i := 20) rfl rfl ?_
        refine hy_getr (i := 21) rfl rfl ?_
        refine hy_cV0v (i := 22) rfl mj_T_finish (by decide) rfl (Nat.le_of_ble_eq_true rfl) rfl rfl rfl (c_T_finish (by have := tp_ok.p (by assumption); omega)) ?_
        refine hy_aload (i := 23) rfl rfl ?_
        refine hy_getr (i := 24) rfl rfl ?_
        refine hy_cV0e (i := 25) rfl mj_T_fault (by decide) rfl (Nat.le_of_ble_eq_true rfl) rfl rfl rfl (c_T_fault) ?_
        refine hy_if_ne (i := 26) (tt := 35) rfl (fun zc2 => ?_) (fun zc2 => ?_)
        · refine hy_aload (i := 35) rfl rfl ?_
          refine hy_getr (i := 36) rfl rfl ?_
          refine hy_cV0e (i := 37) rfl mj_T_fault (by decide) rfl (Nat.le_of_ble_eq_true rfl) rfl rfl rfl (c_T_fault) ?_
          refine hy_ireturn (i := 38) rfl rfl ?_
          first | (rw [if_pos (by omega)]; exact ⟨rfl, rfl⟩) | (rw [if_neg (by omega)]; exact ⟨rfl, rfl⟩)
        · refine hy_aload (i := 27) rfl rfl ?_
          refine hy_getr (i := 28) rfl rfl ?_
          refine hy_const (i := 29) rfl (by decide) ?_
          refine hy_aload (i := 30) rfl rfl ?_
          refine hy_getr (i := 31) rfl rfl ?_
          refine hy_const (i := 32) rfl (by decide) ?_
          refine hy_const (i := 33) rfl (by decide) ?_
          refine hy_copy (i := 34) rfl (Nat.le_of_ble_eq_true rfl) rfl rfl (by omega) ?_
          refine hy_aload (i := 35) rfl rfl ?_
          refine hy_getr (i := 36) rfl rfl ?_
          refine hy_cV0e (i := 37) rfl mj_T_fault (by decide) rfl (Nat.le_of_ble_eq_true rfl) rfl rfl rfl (c_T_fault) ?_
          refine hy_ireturn (i := 38) rfl rfl ?_
          first | (rw [if_pos (by omega)]; exact ⟨rfl, rfl⟩) | (rw [if_neg (by omega)]; exact ⟨rfl, rfl⟩)
      · omega
    | succ m ih =>
      intro k t1 hn ht
      have h1 : tp_ok t1 := by rw [ht]; exact (gd_rowsN_s h n k).1
      have h2 := (gd_sep_s h1 k).1
      by_cases hk : 0 < k
      · have e : gd_sep t1 k = tp_take t1 47 := by unfold gd_sep; rw [if_pos hk]
        rw [e] at h2
        refine hy_iload (i := 6) rfl rfl ?_
        refine hy_const (i := 7) rfl (by decide) ?_
        refine hy_ic_ge (i := 8) (tt := 20) rfl (fun zc1 => ?_) (fun zc1 => ?_)
        · omega
        · refine hy_iload (i := 9) rfl rfl ?_
          refine hy_if_le (i := 10) (tt := 15) rfl (fun zc2 => ?_) (fun zc2 => ?_)
          · omega
          · refine hy_aload (i := 11) rfl rfl ?_
            refine hy_getr (i := 12) rfl rfl ?_
            refine hy_const (i := 13) rfl (by decide) ?_
            refine hy_cV1v (i := 14) rfl mj_T_take (by decide) rfl (Nat.le_of_ble_eq_true rfl) rfl rfl rfl (c_T_take (tp_ok.e (by assumption)) (by have := tp_ok.p (by assumption); omega)) ?_
            refine hy_aload (i := 15) rfl rfl ?_
            refine hy_iload (i := 16) rfl rfl ?_
            refine hy_cV1v (i := 17) rfl mj_G_readRow (by decide) rfl (Nat.le_of_ble_eq_true rfl) rfl rfl rfl (c_G_readRow h2 (by omega)) ?_
            refine hy_iinc (i := 18) rfl rfl (by omega) ?_
            refine hy_goto (i := 19) (tt := 6) rfl ?_
            exact ih (k + 1) _ (by omega) (by rw [← e, ht]; rfl)
      · have e : gd_sep t1 k = t1 := by unfold gd_sep; rw [if_neg hk]
        refine hy_iload (i := 6) rfl rfl ?_
        refine hy_const (i := 7) rfl (by decide) ?_
        refine hy_ic_ge (i := 8) (tt := 20) rfl (fun zc1 => ?_) (fun zc1 => ?_)
        · omega
        · refine hy_iload (i := 9) rfl rfl ?_
          refine hy_if_le (i := 10) (tt := 15) rfl (fun zc2 => ?_) (fun zc2 => ?_)
          · refine hy_aload (i := 15) rfl rfl ?_
            refine hy_iload (i := 16) rfl rfl ?_
            refine hy_cV1v (i := 17) rfl mj_G_readRow (by decide) rfl (Nat.le_of_ble_eq_true rfl) rfl rfl rfl (c_G_readRow (by assumption) (by omega)) ?_
            refine hy_iinc (i := 18) rfl rfl (by omega) ?_
            refine hy_goto (i := 19) (tt := 6) rfl ?_
            exact ih (k + 1) _ (by omega) (by show _ = gd_row (gd_sep (gd_rowsN t n k) k) k; rw [← ht, e])
          · omega
  refine hy_aload (i := 0) rfl rfl ?_
  refine hy_getr (i := 1) rfl rfl ?_
  refine hy_iload (i := 2) rfl rfl ?_
  refine hy_cV1v (i := 3) rfl mj_T_start (by decide) rfl (Nat.le_of_ble_eq_true rfl) rfl rfl rfl (c_T_start) ?_
  refine hy_const (i := 4) rfl (by decide) ?_
  refine hy_istore (i := 5) rfl ?_
  exact loop 8 0 _ rfl rfl
end GE
