/-! the model, where nothing is told yet -/
theorem hz_iand_0 (x : Int) : hz_iand 0 x = 0 := by
  unfold hz_iand
  rw [show Int32.ofInt 0 = 0 from rfl, Int32.zero_and]
  rfl
theorem hz_ishr_0 (k : Int) : hz_ishr 0 k = 0 := by
  unfold hz_ishr
  rw [show Int32.ofInt 0 = 0 from rfl, Int32.zero_shiftRight]
  rfl
theorem hz_b_0 (k : Int) : hz_b 0 k = false := by
  unfold hz_b
  rw [hz_ishr_0, hz_iand_0]
  rfl
theorem sp_told_0 (c : Int) : sp_told 0 c = false := by
  unfold sp_told
  rw [hz_b_0, Bool.and_false]
theorem hz_iand_n0 {x : Int} (h : hy_R x) : hz_iand x (hz_ixor 0 (-1)) = x := by
  unfold hz_iand
  rw [show Int32.ofInt (hz_ixor 0 (-1)) = -1 from by decide, Int32.and_neg_one]
  exact hy_ti h
abbrev hy_r (x : Int) : Option Int → hy_T → Prop := fun r _ => r = some x
def mf_as0N (t : hy_T) : Nat → hy_T
  | 0 => hy_up t 79 12 12
  | c + 1 => hy_up (mf_as0N t c) 79 c 12
theorem mf_as0N_F (t : hy_T) : ∀ n, hy_F (fun r _ => r == 79) t (mf_as0N t n)
  | 0 => hy_F.rf.up rfl
  | n + 1 => (mf_as0N_F t n).up rfl
theorem mf_as0N_v (t : hy_T) : ∀ (n c : Nat), n ≤ 12 → (c < n ∨ c = 12) → mf_as0N t n 79 c = 12
  | 0, c, _, h => by
    obtain rfl : c = 12 := by omega
    rfl
  | n + 1, c, hn, h => by
    by_cases hc : c = n
    · simp [mf_as0N, hy_up, hc]
    · rw [show mf_as0N t (n + 1) 79 c = mf_as0N t n 79 c by simp [mf_as0N, hy_up, hc]]
      exact mf_as0N_v t n c (by omega) (by omega)
section MC
variable {sc : List Int32} {t : hy_T}
theorem c_M_isSeen0 {e c q s : Int} (h0 : t 59 0 = 0) : hy_Ct sc hm_M_isSeen 4 [.inr (some 59), .inl e, .inl c, .inl q, .inl s] t (hy_e (some 0) t) := by
  refine hy_mk_ct ok_M_isSeen ck_M_isSeen (Nat.le_of_ble_eq_true rfl) ?_
  refine hy_aload (i := 0) rfl rfl ?_
  refine hy_iload (i := 1) rfl rfl ?_
  refine hy_cV1e (i := 2) rfl mj_M_isMixed (by decide) rfl (Nat.le_of_ble_eq_true rfl) rfl rfl rfl (c_M_isMixed) ?_
  refine hy_ib_ne (i := 3) (tt := 23) rfl (fun zc1 => ?_) (fun zc1 => ?_)
  · rw [h0, sp_told_0, Bool.false_and] at zc1; cases zc1
  · refine hy_aload (i := 4) rfl rfl ?_
    refine hy_iload (i := 5) rfl rfl ?_
    refine hy_cV1e (i := 6) rfl mj_M_isPlain (by decide) rfl (Nat.le_of_ble_eq_true rfl) rfl rfl rfl (c_M_isPlain) ?_
    refine hy_ib_eq (i := 7) (tt := 21) rfl (fun zc2 => ?_) (fun zc2 => ?_)
    · refine hy_const (i := 21) rfl (by decide) ?_
      refine hy_zreturn (i := 22) rfl rfl (by first | decide | exact hy_b01 _) ?_
      exact ⟨rfl, rfl⟩
    · rw [h0, sp_told_0, Bool.false_and] at zc2; cases zc2
theorem c_M_seenBy0 {e q : Int} (h0 : t 59 0 = 0) : hy_Ct sc hm_M_seenBy 5 [.inr (some 59), .inl e, .inl q] t (hy_e (some 0) t) := by
  refine hy_mk_ct ok_M_seenBy ck_M_seenBy (Nat.le_of_ble_eq_true rfl) ?_
  have loop : ∀ (m : Nat), ∀ (k : Nat), m + k = 12 → hy_W sc hm_M_seenBy 5 4 [.inr (some 59), .inl e, .inl q, .inl 0, .inl (k : Int)] [] t (hy_e (some 0) t) := by
    intro m
    induction m with
    | zero =>
      intro k hm
      refine hy_iload (i := 4) rfl rfl ?_
      refine hy_const (i := 5) rfl (by decide) ?_
      refine hy_ic_ge (i := 6) (tt := 22) rfl (fun zc1 => ?_) (fun zc1 => ?_)
      · refine hy_iload (i := 22) rfl rfl ?_
        refine hy_ireturn (i := 23) rfl rfl ?_
        exact ⟨rfl, rfl⟩
      · omega
    | succ m ih =>
      intro k hm
      refine hy_iload (i := 4) rfl rfl ?_
      refine hy_const (i := 5) rfl (by decide) ?_
      refine hy_ic_ge (i := 6) (tt := 22) rfl (fun zc1 => ?_) (fun zc1 => ?_)
      · omega
      · refine hy_aload (i := 7) rfl rfl ?_
        refine hy_iload (i := 8) rfl rfl ?_
        refine hy_iload (i := 9) rfl rfl ?_
        refine hy_iload (i := 10) rfl rfl ?_
        refine hy_iload (i := 11) rfl rfl ?_
        refine hy_cV4e (i := 12) rfl mj_M_isSeen (by decide) rfl (Nat.le_of_ble_eq_true rfl) rfl rfl rfl (c_M_isSeen0 h0) ?_
        refine hy_if_eq (i := 13) (tt := 20) rfl (fun zc2 => ?_) (fun zc2 => ?_)
        · refine hy_iinc (i := 20) rfl rfl (by omega) ?_
          refine hy_goto (i := 21) (tt := 4) rfl ?_
          exact ih (k + 1) (by omega)
        · exact absurd rfl zc2
  refine hy_const (i := 0) rfl (by decide) ?_
  refine hy_istore (i := 1) rfl ?_
  refine hy_const (i := 2) rfl (by decide) ?_
  refine hy_istore (i := 3) rfl ?_
  exact loop 12 0 rfl
theorem c_M_laysAs0 {e q : Int} (h0 : t 59 0 = 0) : hy_Ct sc hm_M_laysAs 6 [.inr (some 59), .inl e, .inl q] t (hy_e none (mf_as0N t 12)) := by
  refine hy_mk_ct ok_M_laysAs ck_M_laysAs (Nat.le_of_ble_eq_true rfl) ?_
  have loop : ∀ (m : Nat), ∀ (k : Nat) (t1 : hy_T), m + k = 12 → t1 = mf_as0N t k → hy_W sc hm_M_laysAs 6 12 [.inr (some 59), .inl e, .inl q, .inl 0, .inl (k : Int)] [] t1 (hy_e none (mf_as0N t 12)) := by
    intro m
    induction m with
    | zero =>
      intro k t1 hm ht
      obtain rfl : k = 12 := by omega
      refine hy_iload (i := 12) rfl rfl ?_
      refine hy_const (i := 13) rfl (by decide) ?_
      refine hy_ic_ge (i := 14) (tt := 65) rfl (fun zc1 => ?_) (fun zc1 => ?_)
      · refine hy_return (i := 65) rfl rfl ?_
        exact ⟨rfl, ht⟩
      · omega
    | succ m ih =>
      intro k t1 hm ht
      have e0 : t1 59 0 = 0 := by rw [ht, mf_as0N_F t k 59 0 rfl]; exact h0
      refine hy_iload (i := 12) rfl rfl ?_
      refine hy_const (i := 13) rfl (by decide) ?_
      refine hy_ic_ge (i := 14) (tt := 65) rfl (fun zc1 => ?_) (fun zc1 => ?_)
      · omega
      · refine hy_aload (i := 15) rfl rfl ?_
        refine hy_getr (i := 16) rfl rfl ?_
        refine hy_iload (i := 17) rfl rfl ?_
        refine hy_iload (i := 18) rfl rfl ?_
        refine hy_iload (i := 19) rfl rfl ?_
        refine hy_cS2e (i := 20) rfl (by decide) mj_M_has (by decide) rfl (Nat.le_of_ble_eq_true rfl) (c_M_has) ?_
        refine hy_ib_eq (i := 21) (tt := 24) rfl (fun zc2 => ?_) (fun zc2 => ?_)
        · refine hy_const (i := 24) rfl (by decide) ?_
          refine hy_iast (i := 25) rfl rfl (by omega) (k := k) (by omega) ?_
          refine hy_iload (i := 26) rfl rfl ?_
          refine hy_iload (i := 27) rfl rfl ?_
          refine hy_cS2e (i := 28) rfl (by decide) mj_M_has (by decide) rfl (Nat.le_of_ble_eq_true rfl) (c_M_has) ?_
          refine hy_ib_ne (i := 29) (tt := 63) rfl (fun zc3 => ?_) (fun zc3 => ?_)
          · rw [hz_b_0] at zc3; cases zc3
          · refine hy_aload (i := 30) rfl rfl ?_
            refine hy_iload (i := 31) rfl rfl ?_
            refine hy_cV1e (i := 32) rfl mj_M_isMixed (by decide) rfl (Nat.le_of_ble_eq_true rfl) rfl rfl rfl (c_M_isMixed) ?_
            refine hy_ib_ne (i := 33) (tt := 35) rfl (fun zc4 => ?_) (fun zc4 => ?_)
            · rw [show ∀ (i : Nat) (x : Int), hy_up t1 79 i x 59 0 = t1 59 0 from fun _ _ => rfl, e0, sp_told_0, Bool.false_and] at zc4; cases zc4
            · refine hy_goto (i := 34) (tt := 63) rfl ?_
              refine hy_iinc (i := 63) rfl rfl (by omega) ?_
              refine hy_goto (i := 64) (tt := 12) rfl ?_
              exact ih (k + 1) _ (by omega) (by rw [ht]; rfl)
        · rw [hz_b_0] at zc2; cases zc2
  refine hy_aload (i := 0) rfl rfl ?_
  refine hy_iload (i := 1) rfl rfl ?_
  refine hy_iload (i := 2) rfl rfl ?_
  refine hy_cV2e (i := 3) rfl mj_M_seenBy (by decide) rfl (Nat.le_of_ble_eq_true rfl) rfl rfl rfl (c_M_seenBy0 h0) ?_
  refine hy_istore (i := 4) rfl ?_
  refine hy_aload (i := 5) rfl rfl ?_
  refine hy_getr (i := 6) rfl rfl ?_
  refine hy_const (i := 7) rfl (by decide) ?_
  refine hy_const (i := 8) rfl (by decide) ?_
  refine hy_iast (i := 9) rfl rfl (by omega) (show _ = 12 from rfl) ?_
  refine hy_const (i := 10) rfl (by decide) ?_
  refine hy_istore (i := 11) rfl ?_
  exact loop 12 0 _ rfl rfl
theorem c_M_sees0 {e c q : Int} (h0 : t 59 0 = 0) : hy_Ct sc hm_M_sees 6 [.inr (some 59), .inl e, .inl c, .inl q] t (hy_r (-1)) := by
  refine hy_mk_ct ok_M_sees ck_M_sees (Nat.le_of_ble_eq_true rfl) ?_
  refine hy_iload (i := 0) rfl rfl ?_
  refine hy_cS1e (i := 1) rfl (by decide) mj_M_isEmpire (by decide) rfl (Nat.le_of_ble_eq_true rfl) (c_M_isEmpire) ?_
  refine hy_ib_eq (i := 2) (tt := 10) rfl (fun zc1 => ?_) (fun zc1 => ?_)
  · refine hy_const (i := 10) rfl (by decide) ?_
    refine hy_ireturn (i := 11) rfl rfl ?_
    exact rfl
  · refine hy_aload (i := 3) rfl rfl ?_
    refine hy_iload (i := 4) rfl rfl ?_
    refine hy_cV1e (i := 5) rfl mj_M_isColour (by decide) rfl (Nat.le_of_ble_eq_true rfl) rfl rfl rfl (c_M_isColour) ?_
    refine hy_ib_eq (i := 6) (tt := 10) rfl (fun zc2 => ?_) (fun zc2 => ?_)
    · refine hy_const (i := 10) rfl (by decide) ?_
      refine hy_ireturn (i := 11) rfl rfl ?_
      exact rfl
    · rw [h0, sp_told_0] at zc2; cases zc2
theorem c_M_appears0 {e c q : Int} (h0 : t 59 0 = 0) : hy_Ct sc hm_M_appears 7 [.inr (some 59), .inl e, .inl c, .inl q] t (hy_r (if (0 ≤ e ∧ e < 6) ∧ c = 12 ∧ 0 ≤ q ∧ q < 4 then 12 else -1)) := by
  refine hy_mk_ct ok_M_appears ck_M_appears (Nat.le_of_ble_eq_true rfl) ?_
  by_cases hq : (0 ≤ e ∧ e < 6) ∧ c = 12 ∧ 0 ≤ q ∧ q < 4
  · rw [if_pos hq]
    refine hy_iload (i := 0) rfl rfl ?_
    refine hy_cS1e (i := 1) rfl (by decide) mj_M_isEmpire (by decide) rfl (Nat.le_of_ble_eq_true rfl) (c_M_isEmpire) ?_
    refine hy_ib_eq (i := 2) (tt := 13) rfl (fun zc1 => ?_) (fun zc1 => ?_)
    · simp at zc1; omega
    · refine hy_iload (i := 3) rfl rfl ?_
      refine hy_const (i := 4) rfl (by decide) ?_
      refine hy_ic_eq (i := 5) (tt := 10) rfl (fun zc2 => ?_) (fun zc2 => ?_)
      · refine hy_iload (i := 10) rfl rfl ?_
        refine hy_cS1e (i := 11) rfl (by decide) mj_M_isQuarter (by decide) rfl (Nat.le_of_ble_eq_true rfl) (c_M_isQuarter) ?_
        refine hy_ib_ne (i := 12) (tt := 15) rfl (fun zc3 => ?_) (fun zc3 => ?_)
        · refine hy_aload (i := 15) rfl rfl ?_
          refine hy_iload (i := 16) rfl rfl ?_
          refine hy_iload (i := 17) rfl rfl ?_
          refine hy_cV2v (i := 18) rfl mj_M_laysAs (by decide) rfl (Nat.le_of_ble_eq_true rfl) rfl rfl rfl (c_M_laysAs0 h0) ?_
          refine hy_aload (i := 19) rfl rfl ?_
          refine hy_getr (i := 20) rfl rfl ?_
          refine hy_iload (i := 21) rfl rfl ?_
          refine hy_iald (i := 22) rfl rfl (by omega) rfl ?_
          refine hy_ireturn (i := 23) rfl rfl ?_
          exact congrArg some (by rw [show c.toNat = 12 by omega]; exact mf_as0N_v t 12 12 (by omega) (by omega))
        · simp at zc3; omega
      · omega
  · rw [if_neg hq]
    refine hy_iload (i := 0) rfl rfl ?_
    refine hy_cS1e (i := 1) rfl (by decide) mj_M_isEmpire (by decide) rfl (Nat.le_of_ble_eq_true rfl) (c_M_isEmpire) ?_
    refine hy_ib_eq (i := 2) (tt := 13) rfl (fun zc1 => ?_) (fun zc1 => ?_)
    · refine hy_const (i := 13) rfl (by decide) ?_
      refine hy_ireturn (i := 14) rfl rfl ?_
      exact rfl
    · refine hy_iload (i := 3) rfl rfl ?_
      refine hy_const (i := 4) rfl (by decide) ?_
      refine hy_ic_eq (i := 5) (tt := 10) rfl (fun zc2 => ?_) (fun zc2 => ?_)
      · refine hy_iload (i := 10) rfl rfl ?_
        refine hy_cS1e (i := 11) rfl (by decide) mj_M_isQuarter (by decide) rfl (Nat.le_of_ble_eq_true rfl) (c_M_isQuarter) ?_
        refine hy_ib_ne (i := 12) (tt := 15) rfl (fun zc3 => ?_) (fun zc3 => ?_)
        · exfalso; simp only [decide_eq_true_eq] at zc1 zc3; exact hq ⟨zc1, zc2, zc3⟩
        · refine hy_const (i := 13) rfl (by decide) ?_
          refine hy_ireturn (i := 14) rfl rfl ?_
          exact rfl
      · refine hy_aload (i := 6) rfl rfl ?_
        refine hy_iload (i := 7) rfl rfl ?_
        refine hy_cV1e (i := 8) rfl mj_M_isColour (by decide) rfl (Nat.le_of_ble_eq_true rfl) rfl rfl rfl (c_M_isColour) ?_
        refine hy_ib_eq (i := 9) (tt := 13) rfl (fun zc3 => ?_) (fun zc3 => ?_)
        · refine hy_const (i := 13) rfl (by decide) ?_
          refine hy_ireturn (i := 14) rfl rfl ?_
          exact rfl
        · rw [h0, sp_told_0] at zc3; cases zc3
theorem c_M_child0 {a b c q : Int} (h0 : t 59 0 = 0) : hy_Ct sc hm_M_child 6 [.inr (some 59), .inl a, .inl b, .inl c, .inl q] t (hy_r (-1)) := by
  refine hy_mk_ct ok_M_child ck_M_child (Nat.le_of_ble_eq_true rfl) ?_
  refine hy_iload (i := 0) rfl rfl ?_
  refine hy_cS1e (i := 1) rfl (by decide) mj_M_isEmpire (by decide) rfl (Nat.le_of_ble_eq_true rfl) (c_M_isEmpire) ?_
  refine hy_ib_eq (i := 2) (tt := 13) rfl (fun zc1 => ?_) (fun zc1 => ?_)
  · refine hy_const (i := 13) rfl (by decide) ?_
    refine hy_ireturn (i := 14) rfl rfl ?_
    exact rfl
  · refine hy_iload (i := 3) rfl rfl ?_
    refine hy_cS1e (i := 4) rfl (by decide) mj_M_isEmpire (by decide) rfl (Nat.le_of_ble_eq_true rfl) (c_M_isEmpire) ?_
    refine hy_ib_eq (i := 5) (tt := 13) rfl (fun zc2 => ?_) (fun zc2 => ?_)
    · refine hy_const (i := 13) rfl (by decide) ?_
      refine hy_ireturn (i := 14) rfl rfl ?_
      exact rfl
    · refine hy_aload (i := 6) rfl rfl ?_
      refine hy_iload (i := 7) rfl rfl ?_
      refine hy_cV1e (i := 8) rfl mj_M_isColour (by decide) rfl (Nat.le_of_ble_eq_true rfl) rfl rfl rfl (c_M_isColour) ?_
      refine hy_ib_eq (i := 9) (tt := 13) rfl (fun zc3 => ?_) (fun zc3 => ?_)
      · refine hy_const (i := 13) rfl (by decide) ?_
        refine hy_ireturn (i := 14) rfl rfl ?_
        exact rfl
      · rw [h0, sp_told_0] at zc3; cases zc3
theorem c_M_unseen0 {x y u e q : Int} (h0 : t 59 0 = 0) : hy_Ct sc hm_M_unseen 7 [.inr (some 59), .inl x, .inl y, .inl u, .inl e, .inl q] t (hy_r (-1)) := by
  refine hy_mk_ct ok_M_unseen ck_M_unseen (Nat.le_of_ble_eq_true rfl) ?_
  refine hy_iload (i := 0) rfl rfl ?_
  refine hy_const (i := 1) rfl (by decide) ?_
  refine hy_const (i := 2) rfl (by decide) ?_
  refine hy_cS3e (i := 3) rfl (by decide) mj_M_in (by decide) rfl (Nat.le_of_ble_eq_true rfl) (c_M_in) ?_
  refine hy_ib_eq (i := 4) (tt := 20) rfl (fun zc1 => ?_) (fun zc1 => ?_)
  · refine hy_const (i := 20) rfl (by decide) ?_
    refine hy_ireturn (i := 21) rfl rfl ?_
    exact rfl
  · refine hy_iload (i := 5) rfl rfl ?_
    refine hy_const (i := 6) rfl (by decide) ?_
    refine hy_const (i := 7) rfl (by decide) ?_
    refine hy_cS3e (i := 8) rfl (by decide) mj_M_in (by decide) rfl (Nat.le_of_ble_eq_true rfl) (c_M_in) ?_
    refine hy_ib_eq (i := 9) (tt := 20) rfl (fun zc2 => ?_) (fun zc2 => ?_)
    · refine hy_const (i := 20) rfl (by decide) ?_
      refine hy_ireturn (i := 21) rfl rfl ?_
      exact rfl
    · refine hy_aload (i := 10) rfl rfl ?_
      refine hy_iload (i := 11) rfl rfl ?_
      refine hy_cV1e (i := 12) rfl mj_M_isColour (by decide) rfl (Nat.le_of_ble_eq_true rfl) rfl rfl rfl (c_M_isColour) ?_
      refine hy_ib_eq (i := 13) (tt := 20) rfl (fun zc3 => ?_) (fun zc3 => ?_)
      · refine hy_const (i := 20) rfl (by decide) ?_
        refine hy_ireturn (i := 21) rfl rfl ?_
        exact rfl
      · rw [h0, sp_told_0] at zc3; cases zc3
theorem c_M_way0 {a b u e q w : Int} (h0 : t 59 0 = 0) : hy_Ct sc hm_M_way 7 [.inr (some 59), .inl a, .inl b, .inl u, .inl e, .inl q, .inl w] t (hy_r (-1)) := by
  refine hy_mk_ct ok_M_way ck_M_way (Nat.le_of_ble_eq_true rfl) ?_
  refine hy_iload (i := 0) rfl rfl ?_
  refine hy_const (i := 1) rfl (by decide) ?_
  refine hy_const (i := 2) rfl (by decide) ?_
  refine hy_cS3e (i := 3) rfl (by decide) mj_M_in (by decide) rfl (Nat.le_of_ble_eq_true rfl) (c_M_in) ?_
  refine hy_ib_eq (i := 4) (tt := 25) rfl (fun zc1 => ?_) (fun zc1 => ?_)
  · refine hy_const (i := 25) rfl (by decide) ?_
    refine hy_ireturn (i := 26) rfl rfl ?_
    exact rfl
  · refine hy_iload (i := 5) rfl rfl ?_
    refine hy_const (i := 6) rfl (by decide) ?_
    refine hy_const (i := 7) rfl (by decide) ?_
    refine hy_cS3e (i := 8) rfl (by decide) mj_M_in (by decide) rfl (Nat.le_of_ble_eq_true rfl) (c_M_in) ?_
    refine hy_ib_eq (i := 9) (tt := 25) rfl (fun zc2 => ?_) (fun zc2 => ?_)
    · refine hy_const (i := 25) rfl (by decide) ?_
      refine hy_ireturn (i := 26) rfl rfl ?_
      exact rfl
    · refine hy_aload (i := 10) rfl rfl ?_
      refine hy_iload (i := 11) rfl rfl ?_
      refine hy_cV1e (i := 12) rfl mj_M_isColour (by decide) rfl (Nat.le_of_ble_eq_true rfl) rfl rfl rfl (c_M_isColour) ?_
      refine hy_ib_eq (i := 13) (tt := 25) rfl (fun zc3 => ?_) (fun zc3 => ?_)
      · refine hy_const (i := 25) rfl (by decide) ?_
        refine hy_ireturn (i := 26) rfl rfl ?_
        exact rfl
      · rw [h0, sp_told_0] at zc3; cases zc3
theorem c_M_gain0 {e c q : Int} (h0 : t 59 0 = 0) : hy_Ct sc hm_M_gain 7 [.inr (some 59), .inl e, .inl c, .inl q] t (hy_r (-1000000000)) := by
  refine hy_mk_ct ok_M_gain ck_M_gain (Nat.le_of_ble_eq_true rfl) ?_
  refine hy_iload (i := 0) rfl rfl ?_
  refine hy_cS1e (i := 1) rfl (by decide) mj_M_isEmpire (by decide) rfl (Nat.le_of_ble_eq_true rfl) (c_M_isEmpire) ?_
  refine hy_ib_eq (i := 2) (tt := 21) rfl (fun zc1 => ?_) (fun zc1 => ?_)
  · refine hy_const (i := 21) rfl (by decide) ?_
    refine hy_ireturn (i := 22) rfl rfl ?_
    exact rfl
  · refine hy_aload (i := 3) rfl rfl ?_
    refine hy_iload (i := 4) rfl rfl ?_
    refine hy_cV1e (i := 5) rfl mj_M_isPlain (by decide) rfl (Nat.le_of_ble_eq_true rfl) rfl rfl rfl (c_M_isPlain) ?_
    refine hy_ib_eq (i := 6) (tt := 21) rfl (fun zc2 => ?_) (fun zc2 => ?_)
    · refine hy_const (i := 21) rfl (by decide) ?_
      refine hy_ireturn (i := 22) rfl rfl ?_
      exact rfl
    · rw [h0, sp_told_0, Bool.false_and] at zc2; cases zc2
theorem c_M_worthOf0 {e q : Int} (h0 : t 59 0 = 0) : hy_Ct sc hm_M_worthOf 6 [.inr (some 59), .inl e, .inl q] t (hy_e (some 0) t) := by
  refine hy_mk_ct ok_M_worthOf ck_M_worthOf (Nat.le_of_ble_eq_true rfl) ?_
  have loop : ∀ (m : Nat), ∀ (k : Nat) (v6 : hy_V), m + k = 12 → hy_W sc hm_M_worthOf 6 9 [.inr (some 59), .inl e, .inl q, .inl 0, .inl 0, .inl (k : Int), v6] [] t (hy_e (some 0) t) := by
    intro m
    induction m with
    | zero =>
      intro k v6 hm
      refine hy_iload (i := 9) rfl rfl ?_
      refine hy_const (i := 10) rfl (by decide) ?_
      refine hy_ic_ge (i := 11) (tt := 47) rfl (fun zc1 => ?_) (fun zc1 => ?_)
      · refine hy_iload (i := 47) rfl rfl ?_
        refine hy_ireturn (i := 48) rfl rfl ?_
        exact ⟨rfl, rfl⟩
      · omega
    | succ m ih =>
      intro k v6 hm
      refine hy_iload (i := 9) rfl rfl ?_
      refine hy_const (i := 10) rfl (by decide) ?_
      refine hy_ic_ge (i := 11) (tt := 47) rfl (fun zc1 => ?_) (fun zc1 => ?_)
      · omega
      · refine hy_iload (i := 12) rfl rfl ?_
        refine hy_iload (i := 13) rfl rfl ?_
        refine hy_cS2e (i := 14) rfl (by decide) mj_M_has (by decide) rfl (Nat.le_of_ble_eq_true rfl) (c_M_has) ?_
        refine hy_ib_eq (i := 15) (tt := 21) rfl (fun zc2 => ?_) (fun zc2 => ?_)
        · refine hy_const (i := 21) rfl (by decide) ?_
          refine hy_istore (i := 22) rfl ?_
          refine hy_iload (i := 23) rfl rfl ?_
          refine hy_if_ne (i := 24) (tt := 26) rfl (fun zc3 => ?_) (fun zc3 => ?_)
          · exact absurd rfl zc3
          · refine hy_goto (i := 25) (tt := 45) rfl ?_
            refine hy_iinc (i := 45) rfl rfl (by omega) ?_
            refine hy_goto (i := 46) (tt := 9) rfl ?_
            exact ih (k + 1) _ (by omega)
        · rw [hz_b_0] at zc2; cases zc2
  refine hy_aload (i := 0) rfl rfl ?_
  refine hy_iload (i := 1) rfl rfl ?_
  refine hy_iload (i := 2) rfl rfl ?_
  refine hy_cV2e (i := 3) rfl mj_M_seenBy (by decide) rfl (Nat.le_of_ble_eq_true rfl) rfl rfl rfl (c_M_seenBy0 h0) ?_
  refine hy_istore (i := 4) rfl ?_
  refine hy_const (i := 5) rfl (by decide) ?_
  refine hy_istore (i := 6) rfl ?_
  refine hy_const (i := 7) rfl (by decide) ?_
  refine hy_istore (i := 8) rfl ?_
  exact loop 12 0 _ rfl
theorem c_M_worth0 {e q : Int} (h0 : t 59 0 = 0) : hy_Ct sc hm_M_worth 7 [.inr (some 59), .inl e, .inl q] t (hy_r (if (0 ≤ e ∧ e < 6) ∧ 0 ≤ q ∧ q < 4 then 0 else -1)) := by
  refine hy_mk_ct ok_M_worth ck_M_worth (Nat.le_of_ble_eq_true rfl) ?_
  refine hy_iload (i := 0) rfl rfl ?_
  refine hy_cS1e (i := 1) rfl (by decide) mj_M_isEmpire (by decide) rfl (Nat.le_of_ble_eq_true rfl) (c_M_isEmpire) ?_
  refine hy_ib_eq (i := 2) (tt := 11) rfl (fun zc1 => ?_) (fun zc1 => ?_)
  · refine hy_const (i := 11) rfl (by decide) ?_
    refine hy_ireturn (i := 12) rfl rfl ?_
    exact congrArg some (by simp only [decide_eq_true_eq, decide_eq_false_iff_not] at *; first | rw [if_pos ⟨by assumption, by assumption⟩] | rw [if_neg (by omega)])
  · refine hy_iload (i := 3) rfl rfl ?_
    refine hy_cS1e (i := 4) rfl (by decide) mj_M_isQuarter (by decide) rfl (Nat.le_of_ble_eq_true rfl) (c_M_isQuarter) ?_
    refine hy_ib_eq (i := 5) (tt := 11) rfl (fun zc2 => ?_) (fun zc2 => ?_)
    · refine hy_const (i := 11) rfl (by decide) ?_
      refine hy_ireturn (i := 12) rfl rfl ?_
      exact congrArg some (by simp only [decide_eq_true_eq, decide_eq_false_iff_not] at *; first | rw [if_pos ⟨by assumption, by assumption⟩] | rw [if_neg (by omega)])
    · refine hy_aload (i := 6) rfl rfl ?_
      refine hy_iload (i := 7) rfl rfl ?_
      refine hy_iload (i := 8) rfl rfl ?_
      refine hy_cV2e (i := 9) rfl mj_M_worthOf (by decide) rfl (Nat.le_of_ble_eq_true rfl) rfl rfl rfl (c_M_worthOf0 h0) ?_
      refine hy_goto (i := 10) (tt := 12) rfl ?_
      refine hy_ireturn (i := 12) rfl rfl ?_
      exact congrArg some (by simp only [decide_eq_true_eq, decide_eq_false_iff_not] at *; first | rw [if_pos ⟨by assumption, by assumption⟩] | rw [if_neg (by omega)])
theorem c_M_power0 {cs c e q w : Int} (h0 : t 59 0 = 0) : hy_Ct sc hm_M_power 8 [.inr (some 59), .inl cs, .inl c, .inl e, .inl q, .inl w] t (hy_r (-1000000000)) := by
  refine hy_mk_ct ok_M_power ck_M_power (Nat.le_of_ble_eq_true rfl) ?_
  have loop : ∀ (hc : 0 ≤ c ∧ c ≤ 11) (hb : hz_b cs c = true), ∀ (m : Nat), ∀ (k : Nat), m + k = 12 → (k : Int) ≤ c → hy_W sc hm_M_power 8 33 ([.inr (some 59), .inl cs, .inl c, .inl e, .inl q, .inl w, .inl (k : Int)] ++ List.replicate (hx_L hm_M_power - 7) (.inr none)) [] t (hy_r (-1000000000)) := by
    intro hc hb m
    induction m with
    | zero => intro k hm hk; omega
    | succ m ih =>
      intro k hm hk
      refine hy_iload (i := 33) rfl rfl ?_
      refine hy_const (i := 34) rfl (by decide) ?_
      refine hy_ic_ge (i := 35) (tt := 48) rfl (fun zc1 => ?_) (fun zc1 => ?_)
      · omega
      · refine hy_iload (i := 36) rfl rfl ?_
        refine hy_iload (i := 37) rfl rfl ?_
        refine hy_cS2e (i := 38) rfl (by decide) mj_M_has (by decide) rfl (Nat.le_of_ble_eq_true rfl) (c_M_has) ?_
        refine hy_ib_eq (i := 39) (tt := 46) rfl (fun zc2 => ?_) (fun zc2 => ?_)
        · refine hy_iinc (i := 46) rfl rfl (by omega) ?_
          refine hy_goto (i := 47) (tt := 33) rfl ?_
          refine ih (k + 1) (by omega) ?_
          have hne : (k : Int) ≠ c := fun h => by rw [h, hb] at zc2; cases zc2
          omega
        · refine hy_aload (i := 40) rfl rfl ?_
          refine hy_iload (i := 41) rfl rfl ?_
          refine hy_cV1e (i := 42) rfl mj_M_isPlain (by decide) rfl (Nat.le_of_ble_eq_true rfl) rfl rfl rfl (c_M_isPlain) ?_
          refine hy_ib_ne (i := 43) (tt := 46) rfl (fun zc3 => ?_) (fun zc3 => ?_)
          · rw [h0, sp_told_0, Bool.false_and] at zc3; cases zc3
          · refine hy_const (i := 44) rfl (by decide) ?_
            refine hy_ireturn (i := 45) rfl rfl ?_
            exact rfl
  refine hy_iload (i := 0) rfl rfl ?_
  refine hy_const (i := 1) rfl (by decide) ?_
  refine hy_const (i := 2) rfl (by decide) ?_
  refine hy_cS3e (i := 3) rfl (by decide) mj_M_in (by decide) rfl (Nat.le_of_ble_eq_true rfl) (c_M_in) ?_
  refine hy_ib_eq (i := 4) (tt := 29) rfl (fun zc1 => ?_) (fun zc1 => ?_)
  · refine hy_const (i := 29) rfl (by decide) ?_
    refine hy_ireturn (i := 30) rfl rfl ?_
    exact rfl
  · refine hy_iload (i := 5) rfl rfl ?_
    refine hy_cS1e (i := 6) rfl (by decide) mj_M_bits (by decide) rfl (Nat.le_of_ble_eq_true rfl) (c_M_bits) ?_
    refine hy_const (i := 7) rfl (by decide) ?_
    refine hy_ic_gt (i := 8) (tt := 29) rfl (fun zc2 => ?_) (fun zc2 => ?_)
    · refine hy_const (i := 29) rfl (by decide) ?_
      refine hy_ireturn (i := 30) rfl rfl ?_
      exact rfl
    · refine hy_iload (i := 9) rfl rfl ?_
      refine hy_const (i := 10) rfl (by decide) ?_
      refine hy_const (i := 11) rfl (by decide) ?_
      refine hy_cS3e (i := 12) rfl (by decide) mj_M_in (by decide) rfl (Nat.le_of_ble_eq_true rfl) (c_M_in) ?_
      refine hy_ib_eq (i := 13) (tt := 29) rfl (fun zc3 => ?_) (fun zc3 => ?_)
      · refine hy_const (i := 29) rfl (by decide) ?_
        refine hy_ireturn (i := 30) rfl rfl ?_
        exact rfl
      · refine hy_iload (i := 14) rfl rfl ?_
        refine hy_iload (i := 15) rfl rfl ?_
        refine hy_cS2e (i := 16) rfl (by decide) mj_M_has (by decide) rfl (Nat.le_of_ble_eq_true rfl) (c_M_has) ?_
        refine hy_ib_eq (i := 17) (tt := 29) rfl (fun zc4 => ?_) (fun zc4 => ?_)
        · refine hy_const (i := 29) rfl (by decide) ?_
          refine hy_ireturn (i := 30) rfl rfl ?_
          exact rfl
        · refine hy_iload (i := 18) rfl rfl ?_
          refine hy_cS1e (i := 19) rfl (by decide) mj_M_isEmpire (by decide) rfl (Nat.le_of_ble_eq_true rfl) (c_M_isEmpire) ?_
          refine hy_ib_eq (i := 20) (tt := 29) rfl (fun zc5 => ?_) (fun zc5 => ?_)
          · refine hy_const (i := 29) rfl (by decide) ?_
            refine hy_ireturn (i := 30) rfl rfl ?_
            exact rfl
          · refine hy_iload (i := 21) rfl rfl ?_
            refine hy_cS1e (i := 22) rfl (by decide) mj_M_isQuarter (by decide) rfl (Nat.le_of_ble_eq_true rfl) (c_M_isQuarter) ?_
            refine hy_ib_eq (i := 23) (tt := 29) rfl (fun zc6 => ?_) (fun zc6 => ?_)
            · refine hy_const (i := 29) rfl (by decide) ?_
              refine hy_ireturn (i := 30) rfl rfl ?_
              exact rfl
            · refine hy_iload (i := 24) rfl rfl ?_
              refine hy_const (i := 25) rfl (by decide) ?_
              refine hy_const (i := 26) rfl (by decide) ?_
              refine hy_cS3e (i := 27) rfl (by decide) mj_M_in (by decide) rfl (Nat.le_of_ble_eq_true rfl) (c_M_in) ?_
              refine hy_ib_ne (i := 28) (tt := 31) rfl (fun zc7 => ?_) (fun zc7 => ?_)
              · refine hy_const (i := 31) rfl (by decide) ?_
                refine hy_istore (i := 32) rfl ?_
                exact loop (by simp at zc3; omega) zc4 12 0 rfl (by simp at zc3; omega)
              · refine hy_const (i := 29) rfl (by decide) ?_
                refine hy_ireturn (i := 30) rfl rfl ?_
                exact rfl
theorem c_M_parted0 {m w : Int} (h : t 59 9 < 8) : hy_Ct sc hm_M_parted 2 [.inr (some 59), .inl m, .inl w] t (hy_r (-1)) := by
  refine hy_mk_ct ok_M_parted ck_M_parted (Nat.le_of_ble_eq_true rfl) ?_
  refine hy_iload (i := 0) rfl rfl ?_
  refine hy_const (i := 1) rfl (by decide) ?_
  refine hy_const (i := 2) rfl (by decide) ?_
  refine hy_cS3e (i := 3) rfl (by decide) mj_M_in (by decide) rfl (Nat.le_of_ble_eq_true rfl) (c_M_in) ?_
  refine hy_ib_eq (i := 4) (tt := 21) rfl (fun zc1 => ?_) (fun zc1 => ?_)
  · refine hy_const (i := 21) rfl (by decide) ?_
    refine hy_ireturn (i := 22) rfl rfl ?_
    exact rfl
  · refine hy_iload (i := 5) rfl rfl ?_
    refine hy_const (i := 6) rfl (by decide) ?_
    refine hy_const (i := 7) rfl (by decide) ?_
    refine hy_cS3e (i := 8) rfl (by decide) mj_M_in (by decide) rfl (Nat.le_of_ble_eq_true rfl) (c_M_in) ?_
    refine hy_ib_ne (i := 9) (tt := 15) rfl (fun zc2 => ?_) (fun zc2 => ?_)
    · refine hy_const (i := 15) rfl (by decide) ?_
      refine hy_iload (i := 16) rfl rfl ?_
      refine hy_imul (i := 17) rfl (by simp at zc1; omega) ?_
      refine hy_aload (i := 18) rfl rfl ?_
      refine hy_get (i := 19) (fk := 9) rfl rfl rfl ?_
      refine hy_ic_le (i := 20) (tt := 23) rfl (fun zc3 => ?_) (fun zc3 => ?_)
      · simp at zc1; omega
      · refine hy_const (i := 21) rfl (by decide) ?_
        refine hy_ireturn (i := 22) rfl rfl ?_
        exact rfl
    · refine hy_iload (i := 10) rfl rfl ?_
      refine hy_const (i := 11) rfl (by decide) ?_
      refine hy_const (i := 12) rfl (by decide) ?_
      refine hy_cS3e (i := 13) rfl (by decide) mj_M_in (by decide) rfl (Nat.le_of_ble_eq_true rfl) (c_M_in) ?_
      refine hy_ib_eq (i := 14) (tt := 21) rfl (fun zc3 => ?_) (fun zc3 => ?_)
      · refine hy_const (i := 21) rfl (by decide) ?_
        refine hy_ireturn (i := 22) rfl rfl ?_
        exact rfl
      · refine hy_const (i := 15) rfl (by decide) ?_
        refine hy_iload (i := 16) rfl rfl ?_
        refine hy_imul (i := 17) rfl (by simp at zc1; omega) ?_
        refine hy_aload (i := 18) rfl rfl ?_
        refine hy_get (i := 19) (fk := 9) rfl rfl rfl ?_
        refine hy_ic_le (i := 20) (tt := 23) rfl (fun zc4 => ?_) (fun zc4 => ?_)
        · simp at zc1; omega
        · refine hy_const (i := 21) rfl (by decide) ?_
          refine hy_ireturn (i := 22) rfl rfl ?_
          exact rfl
theorem c_M_spies0 {n w : Int} (h : t 59 9 < 3) : hy_Ct sc hm_M_spies 9 [.inr (some 59), .inl n, .inl w] t (hy_r (-1)) := by
  refine hy_mk_ct ok_M_spies ck_M_spies (Nat.le_of_ble_eq_true rfl) ?_
  refine hy_iload (i := 0) rfl rfl ?_
  refine hy_const (i := 1) rfl (by decide) ?_
  refine hy_const (i := 2) rfl (by decide) ?_
  refine hy_cS3e (i := 3) rfl (by decide) mj_M_in (by decide) rfl (Nat.le_of_ble_eq_true rfl) (c_M_in) ?_
  refine hy_ib_eq (i := 4) (tt := 16) rfl (fun zc1 => ?_) (fun zc1 => ?_)
  · refine hy_const (i := 16) rfl (by decide) ?_
    refine hy_ireturn (i := 17) rfl rfl ?_
    exact rfl
  · refine hy_iload (i := 5) rfl rfl ?_
    refine hy_const (i := 6) rfl (by decide) ?_
    refine hy_const (i := 7) rfl (by decide) ?_
    refine hy_cS3e (i := 8) rfl (by decide) mj_M_in (by decide) rfl (Nat.le_of_ble_eq_true rfl) (c_M_in) ?_
    refine hy_ib_eq (i := 9) (tt := 16) rfl (fun zc2 => ?_) (fun zc2 => ?_)
    · refine hy_const (i := 16) rfl (by decide) ?_
      refine hy_ireturn (i := 17) rfl rfl ?_
      exact rfl
    · refine hy_const (i := 10) rfl (by decide) ?_
      refine hy_iload (i := 11) rfl rfl ?_
      refine hy_imul (i := 12) rfl (by simp at zc1; omega) ?_
      refine hy_aload (i := 13) rfl rfl ?_
      refine hy_get (i := 14) (fk := 9) rfl rfl rfl ?_
      refine hy_ic_le (i := 15) (tt := 18) rfl (fun zc3 => ?_) (fun zc3 => ?_)
      · simp at zc1; omega
      · refine hy_const (i := 16) rfl (by decide) ?_
        refine hy_ireturn (i := 17) rfl rfl ?_
        exact rfl
theorem c_M_law0 {n : Int} (h : t 59 9 = 0) : hy_Ct sc hm_M_law 8 [.inr (some 59), .inl n] t (hy_r (-1)) := by
  refine hy_mk_ct ok_M_law ck_M_law (Nat.le_of_ble_eq_true rfl) ?_
  refine hy_iload (i := 0) rfl rfl ?_
  refine hy_const (i := 1) rfl (by decide) ?_
  refine hy_const (i := 2) rfl (by decide) ?_
  refine hy_cS3e (i := 3) rfl (by decide) mj_M_in (by decide) rfl (Nat.le_of_ble_eq_true rfl) (c_M_in) ?_
  refine hy_ib_eq (i := 4) (tt := 9) rfl (fun zc1 => ?_) (fun zc1 => ?_)
  · refine hy_const (i := 9) rfl (by decide) ?_
    refine hy_ireturn (i := 10) rfl rfl ?_
    exact rfl
  · refine hy_iload (i := 5) rfl rfl ?_
    refine hy_aload (i := 6) rfl rfl ?_
    refine hy_get (i := 7) (fk := 9) rfl rfl rfl ?_
    refine hy_ic_le (i := 8) (tt := 11) rfl (fun zc2 => ?_) (fun zc2 => ?_)
    · simp at zc1; omega
    · refine hy_const (i := 9) rfl (by decide) ?_
      refine hy_ireturn (i := 10) rfl rfl ?_
      exact rfl
theorem c_M_land0 {n : Int} (h : t 59 9 = 0) : hy_Ct sc hm_M_land 3 [.inr (some 59), .inl n] t (hy_r (-1)) := by
  refine hy_mk_ct ok_M_land ck_M_land (Nat.le_of_ble_eq_true rfl) ?_
  refine hy_iload (i := 0) rfl rfl ?_
  refine hy_const (i := 1) rfl (by decide) ?_
  refine hy_const (i := 2) rfl (by decide) ?_
  refine hy_cS3e (i := 3) rfl (by decide) mj_M_in (by decide) rfl (Nat.le_of_ble_eq_true rfl) (c_M_in) ?_
  refine hy_ib_eq (i := 4) (tt := 9) rfl (fun zc1 => ?_) (fun zc1 => ?_)
  · refine hy_const (i := 9) rfl (by decide) ?_
    refine hy_ireturn (i := 10) rfl rfl ?_
    exact rfl
  · refine hy_iload (i := 5) rfl rfl ?_
    refine hy_aload (i := 6) rfl rfl ?_
    refine hy_get (i := 7) (fk := 9) rfl rfl rfl ?_
    refine hy_ic_le (i := 8) (tt := 11) rfl (fun zc2 => ?_) (fun zc2 => ?_)
    · simp at zc1; omega
    · refine hy_const (i := 9) rfl (by decide) ?_
      refine hy_ireturn (i := 10) rfl rfl ?_
      exact rfl
theorem c_M_treaties0 {n : Int} (h : t 59 9 = 0) : hy_Ct sc hm_M_treaties 5 [.inr (some 59), .inl n] t (hy_r (-1)) := by
  refine hy_mk_ct ok_M_treaties ck_M_treaties (Nat.le_of_ble_eq_true rfl) ?_
  refine hy_iload (i := 0) rfl rfl ?_
  refine hy_const (i := 1) rfl (by decide) ?_
  refine hy_const (i := 2) rfl (by decide) ?_
  refine hy_cS3e (i := 3) rfl (by decide) mj_M_in (by decide) rfl (Nat.le_of_ble_eq_true rfl) (c_M_in) ?_
  refine hy_ib_eq (i := 4) (tt := 9) rfl (fun zc1 => ?_) (fun zc1 => ?_)
  · refine hy_const (i := 9) rfl (by decide) ?_
    refine hy_ireturn (i := 10) rfl rfl ?_
    exact rfl
  · refine hy_iload (i := 5) rfl rfl ?_
    refine hy_aload (i := 6) rfl rfl ?_
    refine hy_get (i := 7) (fk := 9) rfl rfl rfl ?_
    refine hy_ic_le (i := 8) (tt := 11) rfl (fun zc2 => ?_) (fun zc2 => ?_)
    · simp at zc1; omega
    · refine hy_const (i := 9) rfl (by decide) ?_
      refine hy_ireturn (i := 10) rfl rfl ?_
      exact rfl
theorem c_M_judged0 {n : Int} (h : t 59 9 = 0) : hy_Ct sc hm_M_judged 5 [.inr (some 59), .inl n] t (hy_r (-1)) := by
  refine hy_mk_ct ok_M_judged ck_M_judged (Nat.le_of_ble_eq_true rfl) ?_
  refine hy_iload (i := 0) rfl rfl ?_
  refine hy_const (i := 1) rfl (by decide) ?_
  refine hy_const (i := 2) rfl (by decide) ?_
  refine hy_cS3e (i := 3) rfl (by decide) mj_M_in (by decide) rfl (Nat.le_of_ble_eq_true rfl) (c_M_in) ?_
  refine hy_ib_eq (i := 4) (tt := 9) rfl (fun zc1 => ?_) (fun zc1 => ?_)
  · refine hy_const (i := 9) rfl (by decide) ?_
    refine hy_ireturn (i := 10) rfl rfl ?_
    exact rfl
  · refine hy_iload (i := 5) rfl rfl ?_
    refine hy_aload (i := 6) rfl rfl ?_
    refine hy_get (i := 7) (fk := 9) rfl rfl rfl ?_
    refine hy_ic_le (i := 8) (tt := 11) rfl (fun zc2 => ?_) (fun zc2 => ?_)
    · simp at zc1; omega
    · refine hy_const (i := 9) rfl (by decide) ?_
      refine hy_ireturn (i := 10) rfl rfl ?_
      exact rfl
end MC
