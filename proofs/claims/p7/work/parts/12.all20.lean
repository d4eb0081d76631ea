/-! the small ones -/
def hz_b (x k : Int) : Bool := decide (hz_iand (hz_ishr x k) 1 = 1)
theorem hy_b01 (p : Bool) : hy_b p = 0 ∨ hy_b p = 1 := by cases p <;> simp [hy_b]
theorem hz_and1 (x : Int) : hz_iand x 1 = 0 ∨ hz_iand x 1 = 1 := by
  unfold hz_iand
  have h : ((Int32.ofInt x &&& Int32.ofInt 1).toBitVec = 0#32 ∨ (Int32.ofInt x &&& Int32.ofInt 1).toBitVec = 1#32) := by
    rw [Int32.toBitVec_and, show (Int32.ofInt 1).toBitVec = 1#32 from rfl]
    generalize (Int32.ofInt x).toBitVec = v
    have h1 : v &&& 1#32 = BitVec.ofNat 32 (v.toNat % 2) := by
      apply BitVec.eq_of_toNat_eq
      simp [BitVec.toNat_and, Nat.and_one_is_mod]
      omega
    rw [h1]
    rcases (show v.toNat % 2 = 0 ∨ v.toNat % 2 = 1 by omega) with q | q <;> rw [q]
    · exact Or.inl rfl
    · exact Or.inr rfl
  rcases h with h | h
  · left
    show (Int32.ofInt x &&& Int32.ofInt 1).toBitVec.toInt = 0
    rw [h]; rfl
  · right
    show (Int32.ofInt x &&& Int32.ofInt 1).toBitVec.toInt = 1
    rw [h]; rfl
theorem hz_bit_v (x k : Int) : hz_iand (hz_ishr x k) 1 = hy_b (hz_b x k) := by
  unfold hz_b
  rcases hz_and1 (hz_ishr x k) with h | h <;> rw [h] <;> rfl
theorem hy_b_1 {p : Bool} : hy_b p = 1 ↔ p = true := by cases p <;> simp [hy_b]
theorem hy_icb_ne {sc : List Int32} {u : hx_M} {d i : Nat} {loc st : List hy_V} {t : hy_T} {Q : Option Int → hy_T → Prop} {p : Bool} {tt : Nat} (hop : (hx_ops u)[i]? = some (.if_icmp .ne (tt : Int))) (kt : p = false → hy_W sc u d tt loc st t Q) (kf : p = true → hy_W sc u d (i + 1) loc st t Q) : hy_W sc u d i loc (.inl 1 :: .inl (hy_b p) :: st) t Q :=
  hy_ic_ne hop (fun q => kt (by rw [hy_b_1] at q; simpa using q)) (fun q => kf (hy_b_1.mp q))
theorem hy_icb_eq {sc : List Int32} {u : hx_M} {d i : Nat} {loc st : List hy_V} {t : hy_T} {Q : Option Int → hy_T → Prop} {p : Bool} {tt : Nat} (hop : (hx_ops u)[i]? = some (.if_icmp .eq (tt : Int))) (kt : p = true → hy_W sc u d tt loc st t Q) (kf : p = false → hy_W sc u d (i + 1) loc st t Q) : hy_W sc u d i loc (.inl 1 :: .inl (hy_b p) :: st) t Q :=
  hy_ic_eq hop (fun q => kt (hy_b_1.mp q)) (fun q => kf (by rw [hy_b_1] at q; simpa using q))
section LF
variable {sc : List Int32} {t : hy_T}
theorem c_W_isAmong {a n : Int} : hy_Ct sc hm_W_isAmong 0 [.inl a, .inl n] t (hy_e (some (hy_b (decide (0 ≤ a ∧ a < n)))) t) := by
  refine hy_mk_ct ok_W_isAmong ck_W_isAmong (Nat.le_of_ble_eq_true rfl) ?_
  refine hy_iload (i := 0) rfl rfl ?_
  refine hy_if_lt (i := 1) (tt := 7) rfl (fun zc1 => ?_) (fun zc1 => ?_)
  · refine hy_const (i := 7) rfl (by decide) ?_
    refine hy_zreturn (i := 8) rfl rfl (by first | decide | exact hy_b01 _) ?_
    exact ⟨congrArg some (by simp [hy_b]; omega), rfl⟩
  · refine hy_iload (i := 2) rfl rfl ?_
    refine hy_iload (i := 3) rfl rfl ?_
    refine hy_ic_ge (i := 4) (tt := 7) rfl (fun zc2 => ?_) (fun zc2 => ?_)
    · refine hy_const (i := 7) rfl (by decide) ?_
      refine hy_zreturn (i := 8) rfl rfl (by first | decide | exact hy_b01 _) ?_
      exact ⟨congrArg some (by simp [hy_b]; omega), rfl⟩
    · refine hy_const (i := 5) rfl (by decide) ?_
      refine hy_goto (i := 6) (tt := 8) rfl ?_
      refine hy_zreturn (i := 8) rfl rfl (by first | decide | exact hy_b01 _) ?_
      exact ⟨congrArg some (by simp [hy_b]; omega), rfl⟩
theorem c_W_isEmpire {a : Int} : hy_Ct sc hm_W_isEmpire 1 [.inl a] t (hy_e (some (hy_b (decide (0 ≤ a ∧ a < 6)))) t) := by
  refine hy_mk_ct ok_W_isEmpire ck_W_isEmpire (Nat.le_of_ble_eq_true rfl) ?_
  refine hy_iload (i := 0) rfl rfl ?_
  refine hy_const (i := 1) rfl (by decide) ?_
  refine hy_cS2e (i := 2) rfl (by decide) mj_W_isAmong (by decide) rfl (Nat.le_of_ble_eq_true rfl) (c_W_isAmong) ?_
  refine hy_zreturn (i := 3) rfl rfl (by first | decide | exact hy_b01 _) ?_
  exact ⟨rfl, rfl⟩
theorem c_W_isQuarter {a : Int} : hy_Ct sc hm_W_isQuarter 0 [.inl a] t (hy_e (some (hy_b (decide (0 ≤ a ∧ a < 4)))) t) := by
  refine hy_mk_ct ok_W_isQuarter ck_W_isQuarter (Nat.le_of_ble_eq_true rfl) ?_
  refine hy_iload (i := 0) rfl rfl ?_
  refine hy_if_lt (i := 1) (tt := 7) rfl (fun zc1 => ?_) (fun zc1 => ?_)
  · refine hy_const (i := 7) rfl (by decide) ?_
    refine hy_zreturn (i := 8) rfl rfl (by first | decide | exact hy_b01 _) ?_
    exact ⟨congrArg some (by simp [hy_b]; omega), rfl⟩
  · refine hy_iload (i := 2) rfl rfl ?_
    refine hy_const (i := 3) rfl (by decide) ?_
    refine hy_ic_ge (i := 4) (tt := 7) rfl (fun zc2 => ?_) (fun zc2 => ?_)
    · refine hy_const (i := 7) rfl (by decide) ?_
      refine hy_zreturn (i := 8) rfl rfl (by first | decide | exact hy_b01 _) ?_
      exact ⟨congrArg some (by simp [hy_b]; omega), rfl⟩
    · refine hy_const (i := 5) rfl (by decide) ?_
      refine hy_goto (i := 6) (tt := 8) rfl ?_
      refine hy_zreturn (i := 8) rfl rfl (by first | decide | exact hy_b01 _) ?_
      exact ⟨congrArg some (by simp [hy_b]; omega), rfl⟩
theorem c_W_isPlace {a b : Int} : hy_Ct sc hm_W_isPlace 1 [.inl a, .inl b] t (hy_e (some (hy_b (decide ((0 ≤ a ∧ a < 8) ∧ 0 ≤ b ∧ b < 8)))) t) := by
  refine hy_mk_ct ok_W_isPlace ck_W_isPlace (Nat.le_of_ble_eq_true rfl) ?_
  refine hy_iload (i := 0) rfl rfl ?_
  refine hy_const (i := 1) rfl (by decide) ?_
  refine hy_cS2e (i := 2) rfl (by decide) mj_W_isAmong (by decide) rfl (Nat.le_of_ble_eq_true rfl) (c_W_isAmong) ?_
  refine hy_ib_eq (i := 3) (tt := 10) rfl (fun zc1 => ?_) (fun zc1 => ?_)
  · refine hy_const (i := 10) rfl (by decide) ?_
    refine hy_zreturn (i := 11) rfl rfl (by first | decide | exact hy_b01 _) ?_
    exact ⟨congrArg some (by simp_all [hy_b]; try omega), rfl⟩
  · refine hy_iload (i := 4) rfl rfl ?_
    refine hy_const (i := 5) rfl (by decide) ?_
    refine hy_cS2e (i := 6) rfl (by decide) mj_W_isAmong (by decide) rfl (Nat.le_of_ble_eq_true rfl) (c_W_isAmong) ?_
    refine hy_ib_eq (i := 7) (tt := 10) rfl (fun zc2 => ?_) (fun zc2 => ?_)
    · refine hy_const (i := 10) rfl (by decide) ?_
      refine hy_zreturn (i := 11) rfl rfl (by first | decide | exact hy_b01 _) ?_
      exact ⟨congrArg some (by simp_all [hy_b]; try omega), rfl⟩
    · refine hy_const (i := 8) rfl (by decide) ?_
      refine hy_goto (i := 9) (tt := 11) rfl ?_
      refine hy_zreturn (i := 11) rfl rfl (by first | decide | exact hy_b01 _) ?_
      exact ⟨congrArg some (by simp_all [hy_b]; try omega), rfl⟩
theorem c_W_isDays {a : Int} : hy_Ct sc hm_W_isDays 0 [.inl a] t (hy_e (some (hy_b (decide (1 ≤ a ∧ a ≤ 99)))) t) := by
  refine hy_mk_ct ok_W_isDays ck_W_isDays (Nat.le_of_ble_eq_true rfl) ?_
  refine hy_iload (i := 0) rfl rfl ?_
  refine hy_const (i := 1) rfl (by decide) ?_
  refine hy_ic_lt (i := 2) (tt := 8) rfl (fun zc1 => ?_) (fun zc1 => ?_)
  · refine hy_const (i := 8) rfl (by decide) ?_
    refine hy_zreturn (i := 9) rfl rfl (by first | decide | exact hy_b01 _) ?_
    exact ⟨congrArg some (by simp [hy_b]; omega), rfl⟩
  · refine hy_iload (i := 3) rfl rfl ?_
    refine hy_const (i := 4) rfl (by decide) ?_
    refine hy_ic_gt (i := 5) (tt := 8) rfl (fun zc2 => ?_) (fun zc2 => ?_)
    · refine hy_const (i := 8) rfl (by decide) ?_
      refine hy_zreturn (i := 9) rfl rfl (by first | decide | exact hy_b01 _) ?_
      exact ⟨congrArg some (by simp [hy_b]; omega), rfl⟩
    · refine hy_const (i := 6) rfl (by decide) ?_
      refine hy_goto (i := 7) (tt := 9) rfl ?_
      refine hy_zreturn (i := 9) rfl rfl (by first | decide | exact hy_b01 _) ?_
      exact ⟨congrArg some (by simp [hy_b]; omega), rfl⟩
theorem c_W_isDigit {a : Int} : hy_Ct sc hm_W_isDigit 0 [.inl a] t (hy_e (some (hy_b (decide (48 ≤ a ∧ a ≤ 57)))) t) := by
  refine hy_mk_ct ok_W_isDigit ck_W_isDigit (Nat.le_of_ble_eq_true rfl) ?_
  refine hy_iload (i := 0) rfl rfl ?_
  refine hy_const (i := 1) rfl (by decide) ?_
  refine hy_ic_lt (i := 2) (tt := 8) rfl (fun zc1 => ?_) (fun zc1 => ?_)
  · refine hy_const (i := 8) rfl (by decide) ?_
    refine hy_zreturn (i := 9) rfl rfl (by first | decide | exact hy_b01 _) ?_
    exact ⟨congrArg some (by simp [hy_b]; omega), rfl⟩
  · refine hy_iload (i := 3) rfl rfl ?_
    refine hy_const (i := 4) rfl (by decide) ?_
    refine hy_ic_gt (i := 5) (tt := 8) rfl (fun zc2 => ?_) (fun zc2 => ?_)
    · refine hy_const (i := 8) rfl (by decide) ?_
      refine hy_zreturn (i := 9) rfl rfl (by first | decide | exact hy_b01 _) ?_
      exact ⟨congrArg some (by simp [hy_b]; omega), rfl⟩
    · refine hy_const (i := 6) rfl (by decide) ?_
      refine hy_goto (i := 7) (tt := 9) rfl ?_
      refine hy_zreturn (i := 9) rfl rfl (by first | decide | exact hy_b01 _) ?_
      exact ⟨congrArg some (by simp [hy_b]; omega), rfl⟩
theorem c_W_bit {a b : Int} : hy_Ct sc hm_W_bit 0 [.inl a, .inl b] t (hy_e (some (hy_b (hz_b a b))) t) := by
  refine hy_mk_ct ok_W_bit ck_W_bit (Nat.le_of_ble_eq_true rfl) ?_
  refine hy_iload (i := 0) rfl rfl ?_
  refine hy_iload (i := 1) rfl rfl ?_
  refine hy_ishr (i := 2) rfl ?_
  refine hy_const (i := 3) rfl (by decide) ?_
  refine hy_iand (i := 4) rfl ?_
  refine hy_ireturn (i := 5) rfl rfl ?_
  exact ⟨congrArg some (hz_bit_v a b), rfl⟩
theorem c_M_in {a l h : Int} : hy_Ct sc hm_M_in 0 [.inl a, .inl l, .inl h] t (hy_e (some (hy_b (decide (l ≤ a ∧ a ≤ h)))) t) := by
  refine hy_mk_ct ok_M_in ck_M_in (Nat.le_of_ble_eq_true rfl) ?_
  refine hy_iload (i := 0) rfl rfl ?_
  refine hy_iload (i := 1) rfl rfl ?_
  refine hy_ic_lt (i := 2) (tt := 8) rfl (fun zc1 => ?_) (fun zc1 => ?_)
  · refine hy_const (i := 8) rfl (by decide) ?_
    refine hy_zreturn (i := 9) rfl rfl (by first | decide | exact hy_b01 _) ?_
    exact ⟨congrArg some (by simp [hy_b]; omega), rfl⟩
  · refine hy_iload (i := 3) rfl rfl ?_
    refine hy_iload (i := 4) rfl rfl ?_
    refine hy_ic_gt (i := 5) (tt := 8) rfl (fun zc2 => ?_) (fun zc2 => ?_)
    · refine hy_const (i := 8) rfl (by decide) ?_
      refine hy_zreturn (i := 9) rfl rfl (by first | decide | exact hy_b01 _) ?_
      exact ⟨congrArg some (by simp [hy_b]; omega), rfl⟩
    · refine hy_const (i := 6) rfl (by decide) ?_
      refine hy_goto (i := 7) (tt := 9) rfl ?_
      refine hy_zreturn (i := 9) rfl rfl (by first | decide | exact hy_b01 _) ?_
      exact ⟨congrArg some (by simp [hy_b]; omega), rfl⟩
theorem c_M_min {a b : Int} : hy_Ct sc hm_M_min 0 [.inl a, .inl b] t (hy_e (some (if a < b then a else b)) t) := by
  refine hy_mk_ct ok_M_min ck_M_min (Nat.le_of_ble_eq_true rfl) ?_
  refine hy_iload (i := 0) rfl rfl ?_
  refine hy_iload (i := 1) rfl rfl ?_
  refine hy_ic_ge (i := 2) (tt := 5) rfl (fun zc1 => ?_) (fun zc1 => ?_)
  · refine hy_iload (i := 5) rfl rfl ?_
    refine hy_ireturn (i := 6) rfl rfl ?_
    exact ⟨congrArg some (by split <;> omega), rfl⟩
  · refine hy_iload (i := 3) rfl rfl ?_
    refine hy_goto (i := 4) (tt := 6) rfl ?_
    refine hy_ireturn (i := 6) rfl rfl ?_
    exact ⟨congrArg some (by split <;> omega), rfl⟩
theorem c_M_max {a b : Int} : hy_Ct sc hm_M_max 0 [.inl a, .inl b] t (hy_e (some (if b < a then a else b)) t) := by
  refine hy_mk_ct ok_M_max ck_M_max (Nat.le_of_ble_eq_true rfl) ?_
  refine hy_iload (i := 0) rfl rfl ?_
  refine hy_iload (i := 1) rfl rfl ?_
  refine hy_ic_le (i := 2) (tt := 5) rfl (fun zc1 => ?_) (fun zc1 => ?_)
  · refine hy_iload (i := 5) rfl rfl ?_
    refine hy_ireturn (i := 6) rfl rfl ?_
    exact ⟨congrArg some (by split <;> omega), rfl⟩
  · refine hy_iload (i := 3) rfl rfl ?_
    refine hy_goto (i := 4) (tt := 6) rfl ?_
    refine hy_ireturn (i := 6) rfl rfl ?_
    exact ⟨congrArg some (by split <;> omega), rfl⟩
theorem c_M_has {a b : Int} : hy_Ct sc hm_M_has 0 [.inl a, .inl b] t (hy_e (some (hy_b (hz_b a b))) t) := by
  refine hy_mk_ct ok_M_has ck_M_has (Nat.le_of_ble_eq_true rfl) ?_
  refine hy_iload (i := 0) rfl rfl ?_
  refine hy_iload (i := 1) rfl rfl ?_
  refine hy_ishr (i := 2) rfl ?_
  refine hy_const (i := 3) rfl (by decide) ?_
  refine hy_iand (i := 4) rfl ?_
  refine hy_const (i := 5) rfl (by decide) ?_
  refine hy_ic_ne (i := 6) (tt := 9) rfl (fun zc1 => ?_) (fun zc1 => ?_)
  · refine hy_const (i := 9) rfl (by decide) ?_
    refine hy_zreturn (i := 10) rfl rfl (by first | decide | exact hy_b01 _) ?_
    exact ⟨congrArg some (by simp [hz_b, hy_b, zc1]), rfl⟩
  · refine hy_const (i := 7) rfl (by decide) ?_
    refine hy_goto (i := 8) (tt := 10) rfl ?_
    refine hy_zreturn (i := 10) rfl rfl (by first | decide | exact hy_b01 _) ?_
    exact ⟨congrArg some (by simp [hz_b, hy_b, zc1]), rfl⟩
theorem c_M_isEmpire {a : Int} : hy_Ct sc hm_M_isEmpire 0 [.inl a] t (hy_e (some (hy_b (decide (0 ≤ a ∧ a < 6)))) t) := by
  refine hy_mk_ct ok_M_isEmpire ck_M_isEmpire (Nat.le_of_ble_eq_true rfl) ?_
  refine hy_iload (i := 0) rfl rfl ?_
  refine hy_if_lt (i := 1) (tt := 7) rfl (fun zc1 => ?_) (fun zc1 => ?_)
  · refine hy_const (i := 7) rfl (by decide) ?_
    refine hy_zreturn (i := 8) rfl rfl (by first | decide | exact hy_b01 _) ?_
    exact ⟨congrArg some (by simp [hy_b]; omega), rfl⟩
  · refine hy_iload (i := 2) rfl rfl ?_
    refine hy_const (i := 3) rfl (by decide) ?_
    refine hy_ic_ge (i := 4) (tt := 7) rfl (fun zc2 => ?_) (fun zc2 => ?_)
    · refine hy_const (i := 7) rfl (by decide) ?_
      refine hy_zreturn (i := 8) rfl rfl (by first | decide | exact hy_b01 _) ?_
      exact ⟨congrArg some (by simp [hy_b]; omega), rfl⟩
    · refine hy_const (i := 5) rfl (by decide) ?_
      refine hy_goto (i := 6) (tt := 8) rfl ?_
      refine hy_zreturn (i := 8) rfl rfl (by first | decide | exact hy_b01 _) ?_
      exact ⟨congrArg some (by simp [hy_b]; omega), rfl⟩
theorem c_M_isQuarter {a : Int} : hy_Ct sc hm_M_isQuarter 0 [.inl a] t (hy_e (some (hy_b (decide (0 ≤ a ∧ a < 4)))) t) := by
  refine hy_mk_ct ok_M_isQuarter ck_M_isQuarter (Nat.le_of_ble_eq_true rfl) ?_
  refine hy_iload (i := 0) rfl rfl ?_
  refine hy_if_lt (i := 1) (tt := 7) rfl (fun zc1 => ?_) (fun zc1 => ?_)
  · refine hy_const (i := 7) rfl (by decide) ?_
    refine hy_zreturn (i := 8) rfl rfl (by first | decide | exact hy_b01 _) ?_
    exact ⟨congrArg some (by simp [hy_b]; omega), rfl⟩
  · refine hy_iload (i := 2) rfl rfl ?_
    refine hy_const (i := 3) rfl (by decide) ?_
    refine hy_ic_ge (i := 4) (tt := 7) rfl (fun zc2 => ?_) (fun zc2 => ?_)
    · refine hy_const (i := 7) rfl (by decide) ?_
      refine hy_zreturn (i := 8) rfl rfl (by first | decide | exact hy_b01 _) ?_
      exact ⟨congrArg some (by simp [hy_b]; omega), rfl⟩
    · refine hy_const (i := 5) rfl (by decide) ?_
      refine hy_goto (i := 6) (tt := 8) rfl ?_
      refine hy_zreturn (i := 8) rfl rfl (by first | decide | exact hy_b01 _) ?_
      exact ⟨congrArg some (by simp [hy_b]; omega), rfl⟩
end LF
/-! palettes and tapes -/
/-- the colours told (bits w): c is one -/
def sp_told (w c : Int) : Bool := decide (0 ≤ c ∧ c < 12) && hz_b w c
def sp_tellable (w c f s : Int) : Bool := (decide (0 ≤ c ∧ c < 12) && !sp_told w c) && (decide (f = -1 ∧ s = -1) || ((sp_told w f && sp_told w s) && decide (f ≠ s ∧ f < c ∧ s < c)))
theorem sp_told_in {w c : Int} (h : sp_told w c = true) : 0 ≤ c ∧ c < 12 := by
  unfold sp_told at h
  simp at h
  exact h.1
section PAL
variable {sc : List Int32} {t : hy_T}
theorem c_P_isTold {c : Int} : hy_Ct sc hm_P_isTold 1 [.inr (some 5), .inl c] t (hy_e (some (hy_b (sp_told (t 5 2) c))) t) := by
  refine hy_mk_ct ok_P_isTold ck_P_isTold (Nat.le_of_ble_eq_true rfl) ?_
  refine hy_iload (i := 0) rfl rfl ?_
  refine hy_const (i := 1) rfl (by decide) ?_
  refine hy_cS2e (i := 2) rfl (by decide) mj_W_isAmong (by decide) rfl (Nat.le_of_ble_eq_true rfl) (c_W_isAmong) ?_
  refine hy_ib_eq (i := 3) (tt := 12) rfl (fun zc1 => ?_) (fun zc1 => ?_)
  · refine hy_const (i := 12) rfl (by decide) ?_
    refine hy_zreturn (i := 13) rfl rfl (by first | decide | exact hy_b01 _) ?_
    exact ⟨congrArg some (by simp_all [hy_b, sp_told]; try (intros; omega)), rfl⟩
  · refine hy_aload (i := 4) rfl rfl ?_
    refine hy_get (i := 5) (fk := 2) rfl rfl rfl ?_
    refine hy_iload (i := 6) rfl rfl ?_
    refine hy_cS2e (i := 7) rfl (by decide) mj_W_bit (by decide) rfl (Nat.le_of_ble_eq_true rfl) (c_W_bit) ?_
    refine hy_const (i := 8) rfl (by decide) ?_
    refine hy_icb_ne (i := 9) (tt := 12) rfl (fun zc2 => ?_) (fun zc2 => ?_)
    · refine hy_const (i := 12) rfl (by decide) ?_
      refine hy_zreturn (i := 13) rfl rfl (by first | decide | exact hy_b01 _) ?_
      exact ⟨congrArg some (by simp_all [hy_b, sp_told]; try (intros; omega)), rfl⟩
    · refine hy_const (i := 10) rfl (by decide) ?_
      refine hy_goto (i := 11) (tt := 13) rfl ?_
      refine hy_zreturn (i := 13) rfl rfl (by first | decide | exact hy_b01 _) ?_
      exact ⟨congrArg some (by simp_all [hy_b, sp_told]; try (intros; omega)), rfl⟩
theorem c_P_isMixed {c : Int} : hy_Ct sc hm_P_isMixed 1 [.inr (some 5), .inl c] t (hy_e (some (hy_b (sp_told (t 5 3) c))) t) := by
  refine hy_mk_ct ok_P_isMixed ck_P_isMixed (Nat.le_of_ble_eq_true rfl) ?_
  refine hy_iload (i := 0) rfl rfl ?_
  refine hy_const (i := 1) rfl (by decide) ?_
  refine hy_cS2e (i := 2) rfl (by decide) mj_W_isAmong (by decide) rfl (Nat.le_of_ble_eq_true rfl) (c_W_isAmong) ?_
  refine hy_ib_eq (i := 3) (tt := 12) rfl (fun zc1 => ?_) (fun zc1 => ?_)
  · refine hy_const (i := 12) rfl (by decide) ?_
    refine hy_zreturn (i := 13) rfl rfl (by first | decide | exact hy_b01 _) ?_
    exact ⟨congrArg some (by simp_all [hy_b, sp_told]; try (intros; omega)), rfl⟩
  · refine hy_aload (i := 4) rfl rfl ?_
    refine hy_get (i := 5) (fk := 3) rfl rfl rfl ?_
    refine hy_iload (i := 6) rfl rfl ?_
    refine hy_cS2e (i := 7) rfl (by decide) mj_W_bit (by decide) rfl (Nat.le_of_ble_eq_true rfl) (c_W_bit) ?_
    refine hy_const (i := 8) rfl (by decide) ?_
    refine hy_icb_ne (i := 9) (tt := 12) rfl (fun zc2 => ?_) (fun zc2 => ?_)
    · refine hy_const (i := 12) rfl (by decide) ?_
      refine hy_zreturn (i := 13) rfl rfl (by first | decide | exact hy_b01 _) ?_
      exact ⟨congrArg some (by simp_all [hy_b, sp_told]; try (intros; omega)), rfl⟩
    · refine hy_const (i := 10) rfl (by decide) ?_
      refine hy_goto (i := 11) (tt := 13) rfl ?_
      refine hy_zreturn (i := 13) rfl rfl (by first | decide | exact hy_b01 _) ?_
      exact ⟨congrArg some (by simp_all [hy_b, sp_told]; try (intros; omega)), rfl⟩
theorem c_P_isPlain {c : Int} : hy_Ct sc hm_P_isPlain 2 [.inr (some 5), .inl c] t (hy_e (some (hy_b (sp_told (t 5 2) c && !sp_told (t 5 3) c))) t) := by
  refine hy_mk_ct ok_P_isPlain ck_P_isPlain (Nat.le_of_ble_eq_true rfl) ?_
  refine hy_aload (i := 0) rfl rfl ?_
  refine hy_iload (i := 1) rfl rfl ?_
  refine hy_cV1e (i := 2) rfl mj_P_isTold (by decide) rfl (Nat.le_of_ble_eq_true rfl) rfl rfl rfl (c_P_isTold) ?_
  refine hy_ib_eq (i := 3) (tt := 10) rfl (fun zc1 => ?_) (fun zc1 => ?_)
  · refine hy_const (i := 10) rfl (by decide) ?_
    refine hy_zreturn (i := 11) rfl rfl (by first | decide | exact hy_b01 _) ?_
    exact ⟨congrArg some (by simp_all [hy_b]), rfl⟩
  · refine hy_aload (i := 4) rfl rfl ?_
    refine hy_iload (i := 5) rfl rfl ?_
    refine hy_cV1e (i := 6) rfl mj_P_isMixed (by decide) rfl (Nat.le_of_ble_eq_true rfl) rfl rfl rfl (c_P_isMixed) ?_
    refine hy_ib_ne (i := 7) (tt := 10) rfl (fun zc2 => ?_) (fun zc2 => ?_)
    · refine hy_const (i := 10) rfl (by decide) ?_
      refine hy_zreturn (i := 11) rfl rfl (by first | decide | exact hy_b01 _) ?_
      exact ⟨congrArg some (by simp_all [hy_b]), rfl⟩
    · refine hy_const (i := 8) rfl (by decide) ?_
      refine hy_goto (i := 9) (tt := 11) rfl ?_
      refine hy_zreturn (i := 11) rfl rfl (by first | decide | exact hy_b01 _) ?_
      exact ⟨congrArg some (by simp_all [hy_b]), rfl⟩
theorem c_P_told : hy_Ct sc hm_P_told 0 [.inr (some 5)] t (hy_e (some (t 5 2)) t) := by
  refine hy_mk_ct ok_P_told ck_P_told (Nat.le_of_ble_eq_true rfl) ?_
  refine hy_aload (i := 0) rfl rfl ?_
  refine hy_get (i := 1) (fk := 2) rfl rfl rfl ?_
  refine hy_ireturn (i := 2) rfl rfl ?_
  exact ⟨rfl, rfl⟩
theorem c_P_mixed : hy_Ct sc hm_P_mixed 0 [.inr (some 5)] t (hy_e (some (t 5 3)) t) := by
  refine hy_mk_ct ok_P_mixed ck_P_mixed (Nat.le_of_ble_eq_true rfl) ?_
  refine hy_aload (i := 0) rfl rfl ?_
  refine hy_get (i := 1) (fk := 3) rfl rfl rfl ?_
  refine hy_ireturn (i := 2) rfl rfl ?_
  exact ⟨rfl, rfl⟩
theorem c_P_areTold {w : Int} : hy_Ct sc hm_P_areTold 0 [.inr (some 5), .inl w] t (hy_e (some (hy_b (decide (hz_iand w (hz_ixor (t 5 2) (-1)) = 0)))) t) := by
  refine hy_mk_ct ok_P_areTold ck_P_areTold (Nat.le_of_ble_eq_true rfl) ?_
  refine hy_iload (i := 0) rfl rfl ?_
  refine hy_aload (i := 1) rfl rfl ?_
  refine hy_get (i := 2) (fk := 2) rfl rfl rfl ?_
  refine hy_const (i := 3) rfl (by decide) ?_
  refine hy_ixor (i := 4) rfl ?_
  refine hy_iand (i := 5) rfl ?_
  refine hy_if_ne (i := 6) (tt := 9) rfl (fun zc1 => ?_) (fun zc1 => ?_)
  · refine hy_const (i := 9) rfl (by decide) ?_
    refine hy_zreturn (i := 10) rfl rfl (by first | decide | exact hy_b01 _) ?_
    exact ⟨congrArg some (by simp_all [hy_b]), rfl⟩
  · refine hy_const (i := 7) rfl (by decide) ?_
    refine hy_goto (i := 8) (tt := 10) rfl ?_
    refine hy_zreturn (i := 10) rfl rfl (by first | decide | exact hy_b01 _) ?_
    exact ⟨congrArg some (by simp_all [hy_b]), rfl⟩
theorem c_P_arePlain {w : Int} : hy_Ct sc hm_P_arePlain 0 [.inr (some 5), .inl w] t (hy_e (some (hy_b (decide (hz_iand w (hz_ixor (hz_iand (t 5 2) (hz_ixor (t 5 3) (-1))) (-1)) = 0)))) t) := by
  refine hy_mk_ct ok_P_arePlain ck_P_arePlain (Nat.le_of_ble_eq_true rfl) ?_
  refine hy_iload (i := 0) rfl rfl ?_
  refine hy_aload (i := 1) rfl rfl ?_
  refine hy_get (i := 2) (fk := 2) rfl rfl rfl ?_
  refine hy_aload (i := 3) rfl rfl ?_
  refine hy_get (i := 4) (fk := 3) rfl rfl rfl ?_
  refine hy_const (i := 5) rfl (by decide) ?_
  refine hy_ixor (i := 6) rfl ?_
  refine hy_iand (i := 7) rfl ?_
  refine hy_const (i := 8) rfl (by decide) ?_
  refine hy_ixor (i := 9) rfl ?_
  refine hy_iand (i := 10) rfl ?_
  refine hy_if_ne (i := 11) (tt := 14) rfl (fun zc1 => ?_) (fun zc1 => ?_)
  · refine hy_const (i := 14) rfl (by decide) ?_
    refine hy_zreturn (i := 15) rfl rfl (by first | decide | exact hy_b01 _) ?_
    exact ⟨congrArg some (by simp_all [hy_b]), rfl⟩
  · refine hy_const (i := 12) rfl (by decide) ?_
    refine hy_goto (i := 13) (tt := 15) rfl ?_
    refine hy_zreturn (i := 15) rfl rfl (by first | decide | exact hy_b01 _) ?_
    exact ⟨congrArg some (by simp_all [hy_b]), rfl⟩
theorem c_P_first {c : Int} : hy_Ct sc hm_P_first 2 [.inr (some 5), .inl c] t (hy_e (some (if sp_told (t 5 3) c = true then t 6 c.toNat else 0)) t) := by
  refine hy_mk_ct ok_P_first ck_P_first (Nat.le_of_ble_eq_true rfl) ?_
  refine hy_aload (i := 0) rfl rfl ?_
  refine hy_iload (i := 1) rfl rfl ?_
  refine hy_cV1e (i := 2) rfl mj_P_isMixed (by decide) rfl (Nat.le_of_ble_eq_true rfl) rfl rfl rfl (c_P_isMixed) ?_
  refine hy_ib_eq (i := 3) (tt := 9) rfl (fun zc1 => ?_) (fun zc1 => ?_)
  · refine hy_const (i := 9) rfl (by decide) ?_
    refine hy_ireturn (i := 10) rfl rfl ?_
    exact ⟨congrArg some (by simp_all), rfl⟩
  · refine hy_aload (i := 4) rfl rfl ?_
    refine hy_getr (i := 5) rfl rfl ?_
    refine hy_iload (i := 6) rfl rfl ?_
    refine hy_iald (i := 7) rfl rfl (by have := sp_told_in zc1; omega) rfl ?_
    refine hy_goto (i := 8) (tt := 10) rfl ?_
    refine hy_ireturn (i := 10) rfl rfl ?_
    exact ⟨congrArg some (by simp_all), rfl⟩
theorem c_P_second {c : Int} : hy_Ct sc hm_P_second 2 [.inr (some 5), .inl c] t (hy_e (some (if sp_told (t 5 3) c = true then t 7 c.toNat else 0)) t) := by
  refine hy_mk_ct ok_P_second ck_P_second (Nat.le_of_ble_eq_true rfl) ?_
  refine hy_aload (i := 0) rfl rfl ?_
  refine hy_iload (i := 1) rfl rfl ?_
  refine hy_cV1e (i := 2) rfl mj_P_isMixed (by decide) rfl (Nat.le_of_ble_eq_true rfl) rfl rfl rfl (c_P_isMixed) ?_
  refine hy_ib_eq (i := 3) (tt := 9) rfl (fun zc1 => ?_) (fun zc1 => ?_)
  · refine hy_const (i := 9) rfl (by decide) ?_
    refine hy_ireturn (i := 10) rfl rfl ?_
    exact ⟨congrArg some (by simp_all), rfl⟩
  · refine hy_aload (i := 4) rfl rfl ?_
    refine hy_getr (i := 5) rfl rfl ?_
    refine hy_iload (i := 6) rfl rfl ?_
    refine hy_iald (i := 7) rfl rfl (by have := sp_told_in zc1; omega) rfl ?_
    refine hy_goto (i := 8) (tt := 10) rfl ?_
    refine hy_ireturn (i := 10) rfl rfl ?_
    exact ⟨congrArg some (by simp_all), rfl⟩
theorem c_P_parts {c : Int} (hf : ∀ j : Nat, j < 12 → -1 ≤ t 6 j ∧ t 6 j < 12) (hs : ∀ j : Nat, j < 12 → -1 ≤ t 7 j ∧ t 7 j < 12) : hy_Ct sc hm_P_parts 2 [.inr (some 5), .inl c] t (hy_e (some (if sp_told (t 5 3) c = true then 100 * t 6 c.toNat + t 7 c.toNat else -1)) t) := by
  refine hy_mk_ct ok_P_parts ck_P_parts (Nat.le_of_ble_eq_true rfl) ?_
  refine hy_aload (i := 0) rfl rfl ?_
  refine hy_iload (i := 1) rfl rfl ?_
  refine hy_cV1e (i := 2) rfl mj_P_isMixed (by decide) rfl (Nat.le_of_ble_eq_true rfl) rfl rfl rfl (c_P_isMixed) ?_
  refine hy_ib_eq (i := 3) (tt := 16) rfl (fun zc1 => ?_) (fun zc1 => ?_)
  · refine hy_const (i := 16) rfl (by decide) ?_
    refine hy_ireturn (i := 17) rfl rfl ?_
    exact ⟨congrArg some (by simp_all), rfl⟩
  · refine hy_const (i := 4) rfl (by decide) ?_
    refine hy_aload (i := 5) rfl rfl ?_
    refine hy_getr (i := 6) rfl rfl ?_
    refine hy_iload (i := 7) rfl rfl ?_
    refine hy_iald (i := 8) rfl rfl (by have := sp_told_in zc1; omega) rfl ?_
    refine hy_imul (i := 9) rfl (by have h1 := sp_told_in zc1; have h2 := hf c.toNat (by omega); have h3 := hs c.toNat (by omega); omega) ?_
    refine hy_aload (i := 10) rfl rfl ?_
    refine hy_getr (i := 11) rfl rfl ?_
    refine hy_iload (i := 12) rfl rfl ?_
    refine hy_iald (i := 13) rfl rfl (by have := sp_told_in zc1; omega) rfl ?_
    refine hy_iadd (i := 14) rfl (by have h1 := sp_told_in zc1; have h2 := hf c.toNat (by omega); have h3 := hs c.toNat (by omega); omega) ?_
    refine hy_goto (i := 15) (tt := 17) rfl ?_
    refine hy_ireturn (i := 17) rfl rfl ?_
    exact ⟨congrArg some (by simp_all), rfl⟩
def sp_tellC (t : hy_T) (c f s : Int) : hy_T := if f = -1 ∧ s = -1 then hy_up t 5 2 (hz_ior (t 5 2) (hz_ishl 1 c)) else hy_up (hy_up (hy_up (hy_up t 6 c.toNat f) 7 c.toNat s) 5 3 (hz_ior (t 5 3) (hz_ishl 1 c))) 5 2 (hz_ior (t 5 2) (hz_ishl 1 c))
theorem c_P_tell {c f s : Int} : hy_Ct sc hm_P_tell 2 [.inr (some 5), .inl c, .inl f, .inl s] t (hy_e (some (hy_b (sp_tellable (t 5 2) c f s))) (if sp_tellable (t 5 2) c f s = true then sp_tellC t c f s else t)) := by
  refine hy_mk_ct ok_P_tell ck_P_tell (Nat.le_of_ble_eq_true rfl) ?_
  refine hy_iload (i := 0) rfl rfl ?_
  refine hy_const (i := 1) rfl (by decide) ?_
  refine hy_cS2e (i := 2) rfl (by decide) mj_W_isAmong (by decide) rfl (Nat.le_of_ble_eq_true rfl) (c_W_isAmong) ?_
  refine hy_ib_eq (i := 3) (tt := 8) rfl (fun zc1 => ?_) (fun zc1 => ?_)
  · refine hy_const (i := 8) rfl (by decide) ?_
    refine hy_zreturn (i := 9) rfl rfl (by first | decide | exact hy_b01 _) ?_
    refine ⟨congrArg some ?_, ?_⟩ <;> simp_all [hy_b, sp_tellable, sp_tellC, hy_up] <;> try omega
  · refine hy_aload (i := 4) rfl rfl ?_
    refine hy_iload (i := 5) rfl rfl ?_
    refine hy_cV1e (i := 6) rfl mj_P_isTold (by decide) rfl (Nat.le_of_ble_eq_true rfl) rfl rfl rfl (c_P_isTold) ?_
    refine hy_ib_eq (i := 7) (tt := 10) rfl (fun zc2 => ?_) (fun zc2 => ?_)
    · refine hy_iload (i := 10) rfl rfl ?_
      refine hy_const (i := 11) rfl (by decide) ?_
      refine hy_ic_ne (i := 12) (tt := 16) rfl (fun zc3 => ?_) (fun zc3 => ?_)
      · refine hy_iload (i := 16) rfl rfl ?_
        refine hy_iload (i := 17) rfl rfl ?_
        refine hy_ic_eq (i := 18) (tt := 33) rfl (fun zc4 => ?_) (fun zc4 => ?_)
        · refine hy_const (i := 33) rfl (by decide) ?_
          refine hy_zreturn (i := 34) rfl rfl (by first | decide | exact hy_b01 _) ?_
          refine ⟨congrArg some ?_, ?_⟩ <;> simp_all [hy_b, sp_tellable, sp_tellC, hy_up] <;> try omega
        · refine hy_iload (i := 19) rfl rfl ?_
          refine hy_iload (i := 20) rfl rfl ?_
          refine hy_ic_ge (i := 21) (tt := 33) rfl (fun zc5 => ?_) (fun zc5 => ?_)
          · refine hy_const (i := 33) rfl (by decide) ?_
            refine hy_zreturn (i := 34) rfl rfl (by first | decide | exact hy_b01 _) ?_
            refine ⟨congrArg some ?_, ?_⟩ <;> simp_all [hy_b, sp_tellable, sp_tellC, hy_up] <;> try omega
          · refine hy_iload (i := 22) rfl rfl ?_
            refine hy_iload (i := 23) rfl rfl ?_
            refine hy_ic_ge (i := 24) (tt := 33) rfl (fun zc6 => ?_) (fun zc6 => ?_)
            · refine hy_const (i := 33) rfl (by decide) ?_
              refine hy_zreturn (i := 34) rfl rfl (by first | decide | exact hy_b01 _) ?_
              refine ⟨congrArg some ?_, ?_⟩ <;> simp_all [hy_b, sp_tellable, sp_tellC, hy_up] <;> try omega
            · refine hy_aload (i := 25) rfl rfl ?_
              refine hy_iload (i := 26) rfl rfl ?_
              refine hy_cV1e (i := 27) rfl mj_P_isTold (by decide) rfl (Nat.le_of_ble_eq_true rfl) rfl rfl rfl (c_P_isTold) ?_
              refine hy_ib_eq (i := 28) (tt := 33) rfl (fun zc7 => ?_) (fun zc7 => ?_)
              · refine hy_const (i := 33) rfl (by decide) ?_
                refine hy_zreturn (i := 34) rfl rfl (by first | decide | exact hy_b01 _) ?_
                refine ⟨congrArg some ?_, ?_⟩ <;> simp_all [hy_b, sp_tellable, sp_tellC, hy_up] <;> try omega
              · refine hy_aload (i := 29) rfl rfl ?_
                refine hy_iload (i := 30) rfl rfl ?_
                refine hy_cV1e (i := 31) rfl mj_P_isTold (by decide) rfl (Nat.le_of_ble_eq_true rfl) rfl rfl rfl (c_P_isTold) ?_
                refine hy_ib_ne (i := 32) (tt := 35) rfl (fun zc8 => ?_) (fun zc8 => ?_)
                · refine hy_aload (i := 35) rfl rfl ?_
                  refine hy_getr (i := 36) rfl rfl ?_
                  refine hy_iload (i := 37) rfl rfl ?_
                  refine hy_iload (i := 38) rfl rfl ?_
                  refine hy_iast (i := 39) rfl rfl (by simp at zc1; omega) rfl ?_
                  refine hy_aload (i := 40) rfl rfl ?_
                  refine hy_getr (i := 41) rfl rfl ?_
                  refine hy_iload (i := 42) rfl rfl ?_
                  refine hy_iload (i := 43) rfl rfl ?_
                  refine hy_iast (i := 44) rfl rfl (by simp at zc1; omega) rfl ?_
                  refine hy_aload (i := 45) rfl rfl ?_
                  refine hy_dup (i := 46) rfl ?_
                  refine hy_get (i := 47) (fk := 3) rfl rfl rfl ?_
                  refine hy_const (i := 48) rfl (by decide) ?_
                  refine hy_iload (i := 49) rfl rfl ?_
                  refine hy_ishl (i := 50) rfl ?_
                  refine hy_ior (i := 51) rfl ?_
                  refine hy_put (i := 52) (fk := 3) rfl rfl rfl rfl ?_
                  refine hy_aload (i := 53) rfl rfl ?_
                  refine hy_dup (i := 54) rfl ?_
                  refine hy_get (i := 55) (fk := 2) rfl rfl rfl ?_
                  refine hy_const (i := 56) rfl (by decide) ?_
                  refine hy_iload (i := 57) rfl rfl ?_
                  refine hy_ishl (i := 58) rfl ?_
                  refine hy_ior (i := 59) rfl ?_
                  refine hy_put (i := 60) (fk := 2) rfl rfl rfl rfl ?_
                  refine hy_const (i := 61) rfl (by decide) ?_
                  refine hy_zreturn (i := 62) rfl rfl (by first | decide | exact hy_b01 _) ?_
                  refine ⟨congrArg some ?_, ?_⟩ <;> simp_all [hy_b, sp_tellable, sp_tellC, hy_up] <;> try omega
                · refine hy_const (i := 33) rfl (by decide) ?_
                  refine hy_zreturn (i := 34) rfl rfl (by first | decide | exact hy_b01 _) ?_
                  refine ⟨congrArg some ?_, ?_⟩ <;> simp_all [hy_b, sp_tellable, sp_tellC, hy_up] <;> try omega
      · refine hy_iload (i := 13) rfl rfl ?_
        refine hy_const (i := 14) rfl (by decide) ?_
        refine hy_ic_eq (i := 15) (tt := 53) rfl (fun zc4 => ?_) (fun zc4 => ?_)
        · refine hy_aload (i := 53) rfl rfl ?_
          refine hy_dup (i := 54) rfl ?_
          refine hy_get (i := 55) (fk := 2) rfl rfl rfl ?_
          refine hy_const (i := 56) rfl (by decide) ?_
          refine hy_iload (i := 57) rfl rfl ?_
          refine hy_ishl (i := 58) rfl ?_
          refine hy_ior (i := 59) rfl ?_
          refine hy_put (i := 60) (fk := 2) rfl rfl rfl rfl ?_
          refine hy_const (i := 61) rfl (by decide) ?_
          refine hy_zreturn (i := 62) rfl rfl (by first | decide | exact hy_b01 _) ?_
          refine ⟨congrArg some ?_, ?_⟩ <;> simp_all [hy_b, sp_tellable, sp_tellC, hy_up] <;> try omega
        · refine hy_iload (i := 16) rfl rfl ?_
          refine hy_iload (i := 17) rfl rfl ?_
          refine hy_ic_eq (i := 18) (tt := 33) rfl (fun zc5 => ?_) (fun zc5 => ?_)
          · refine hy_const (i := 33) rfl (by decide) ?_
            refine hy_zreturn (i := 34) rfl rfl (by first | decide | exact hy_b01 _) ?_
            refine ⟨congrArg some ?_, ?_⟩ <;> simp_all [hy_b, sp_tellable, sp_tellC, hy_up] <;> try omega
          · refine hy_iload (i := 19) rfl rfl ?_
            refine hy_iload (i := 20) rfl rfl ?_
            refine hy_ic_ge (i := 21) (tt := 33) rfl (fun zc6 => ?_) (fun zc6 => ?_)
            · refine hy_const (i := 33) rfl (by decide) ?_
              refine hy_zreturn (i := 34) rfl rfl (by first | decide | exact hy_b01 _) ?_
              refine ⟨congrArg some ?_, ?_⟩ <;> simp_all [hy_b, sp_tellable, sp_tellC, hy_up] <;> try omega
            · refine hy_iload (i := 22) rfl rfl ?_
              refine hy_iload (i := 23) rfl rfl ?_
              refine hy_ic_ge (i := 24) (tt := 33) rfl (fun zc7 => ?_) (fun zc7 => ?_)
              · refine hy_const (i := 33) rfl (by decide) ?_
                refine hy_zreturn (i := 34) rfl rfl (by first | decide | exact hy_b01 _) ?_
                refine ⟨congrArg some ?_, ?_⟩ <;> simp_all [hy_b, sp_tellable, sp_tellC, hy_up] <;> try omega
              · refine hy_aload (i := 25) rfl rfl ?_
                refine hy_iload (i := 26) rfl rfl ?_
                refine hy_cV1e (i := 27) rfl mj_P_isTold (by decide) rfl (Nat.le_of_ble_eq_true rfl) rfl rfl rfl (c_P_isTold) ?_
                refine hy_ib_eq (i := 28) (tt := 33) rfl (fun zc8 => ?_) (fun zc8 => ?_)
                · refine hy_const (i := 33) rfl (by decide) ?_
                  refine hy_zreturn (i := 34) rfl rfl (by first | decide | exact hy_b01 _) ?_
                  refine ⟨congrArg some ?_, ?_⟩ <;> simp_all [hy_b, sp_tellable, sp_tellC, hy_up] <;> try omega
                · refine hy_aload (i := 29) rfl rfl ?_
                  refine hy_iload (i := 30) rfl rfl ?_
                  refine hy_cV1e (i := 31) rfl mj_P_isTold (by decide) rfl (Nat.le_of_ble_eq_true rfl) rfl rfl rfl (c_P_isTold) ?_
                  refine hy_ib_ne (i := 32) (tt := 35) rfl (fun zc9 => ?_) (fun zc9 => ?_)
                  · refine hy_aload (i := 35) rfl rfl ?_
                    refine hy_getr (i := 36) rfl rfl ?_
                    refine hy_iload (i := 37) rfl rfl ?_
                    refine hy_iload (i := 38) rfl rfl ?_
                    refine hy_iast (i := 39) rfl rfl (by simp at zc1; omega) rfl ?_
                    refine hy_aload (i := 40) rfl rfl ?_
                    refine hy_getr (i := 41) rfl rfl ?_
                    refine hy_iload (i := 42) rfl rfl ?_
                    refine hy_iload (i := 43) rfl rfl ?_
                    refine hy_iast (i := 44) rfl rfl (by simp at zc1; omega) rfl ?_
                    refine hy_aload (i := 45) rfl rfl ?_
                    refine hy_dup (i := 46) rfl ?_
                    refine hy_get (i := 47) (fk := 3) rfl rfl rfl ?_
                    refine hy_const (i := 48) rfl (by decide) ?_
                    refine hy_iload (i := 49) rfl rfl ?_
                    refine hy_ishl (i := 50) rfl ?_
                    refine hy_ior (i := 51) rfl ?_
                    refine hy_put (i := 52) (fk := 3) rfl rfl rfl rfl ?_
                    refine hy_aload (i := 53) rfl rfl ?_
                    refine hy_dup (i := 54) rfl ?_
                    refine hy_get (i := 55) (fk := 2) rfl rfl rfl ?_
                    refine hy_const (i := 56) rfl (by decide) ?_
                    refine hy_iload (i := 57) rfl rfl ?_
                    refine hy_ishl (i := 58) rfl ?_
                    refine hy_ior (i := 59) rfl ?_
                    refine hy_put (i := 60) (fk := 2) rfl rfl rfl rfl ?_
                    refine hy_const (i := 61) rfl (by decide) ?_
                    refine hy_zreturn (i := 62) rfl rfl (by first | decide | exact hy_b01 _) ?_
                    refine ⟨congrArg some ?_, ?_⟩ <;> simp_all [hy_b, sp_tellable, sp_tellC, hy_up] <;> try omega
                  · refine hy_const (i := 33) rfl (by decide) ?_
                    refine hy_zreturn (i := 34) rfl rfl (by first | decide | exact hy_b01 _) ?_
                    refine ⟨congrArg some ?_, ?_⟩ <;> simp_all [hy_b, sp_tellable, sp_tellC, hy_up] <;> try omega
    · refine hy_const (i := 8) rfl (by decide) ?_
      refine hy_zreturn (i := 9) rfl rfl (by first | decide | exact hy_b01 _) ?_
      refine ⟨congrArg some ?_, ?_⟩ <;> simp_all [hy_b, sp_tellable, sp_tellC, hy_up] <;> try omega
/-! the model's -/
theorem c_M_isColour {c : Int} : hy_Ct sc hm_M_isColour 1 [.inr (some 59), .inl c] t (hy_e (some (hy_b (sp_told (t 59 0) c))) t) := by
  refine hy_mk_ct ok_M_isColour ck_M_isColour (Nat.le_of_ble_eq_true rfl) ?_
  refine hy_iload (i := 0) rfl rfl ?_
  refine hy_if_lt (i := 1) (tt := 12) rfl (fun zc1 => ?_) (fun zc1 => ?_)
  · refine hy_const (i := 12) rfl (by decide) ?_
    refine hy_zreturn (i := 13) rfl rfl (by first | decide | exact hy_b01 _) ?_
    exact ⟨congrArg some (by simp_all [hy_b, sp_told]; try (intros; omega)), rfl⟩
  · refine hy_iload (i := 2) rfl rfl ?_
    refine hy_const (i := 3) rfl (by decide) ?_
    refine hy_ic_ge (i := 4) (tt := 12) rfl (fun zc2 => ?_) (fun zc2 => ?_)
    · refine hy_const (i := 12) rfl (by decide) ?_
      refine hy_zreturn (i := 13) rfl rfl (by first | decide | exact hy_b01 _) ?_
      exact ⟨congrArg some (by simp_all [hy_b, sp_told]; try (intros; omega)), rfl⟩
    · refine hy_aload (i := 5) rfl rfl ?_
      refine hy_get (i := 6) (fk := 0) rfl rfl rfl ?_
      refine hy_iload (i := 7) rfl rfl ?_
      refine hy_cS2e (i := 8) rfl (by decide) mj_M_has (by decide) rfl (Nat.le_of_ble_eq_true rfl) (c_M_has) ?_
      refine hy_ib_eq (i := 9) (tt := 12) rfl (fun zc3 => ?_) (fun zc3 => ?_)
      · refine hy_const (i := 12) rfl (by decide) ?_
        refine hy_zreturn (i := 13) rfl rfl (by first | decide | exact hy_b01 _) ?_
        exact ⟨congrArg some (by simp_all [hy_b, sp_told]; try (intros; omega)), rfl⟩
      · refine hy_const (i := 10) rfl (by decide) ?_
        refine hy_goto (i := 11) (tt := 13) rfl ?_
        refine hy_zreturn (i := 13) rfl rfl (by first | decide | exact hy_b01 _) ?_
        exact ⟨congrArg some (by simp_all [hy_b, sp_told]; try (intros; omega)), rfl⟩
theorem c_M_isMixed {c : Int} : hy_Ct sc hm_M_isMixed 2 [.inr (some 59), .inl c] t (hy_e (some (hy_b (sp_told (t 59 0) c && decide (t 60 c.toNat ≠ -1)))) t) := by
  refine hy_mk_ct ok_M_isMixed ck_M_isMixed (Nat.le_of_ble_eq_true rfl) ?_
  refine hy_aload (i := 0) rfl rfl ?_
  refine hy_iload (i := 1) rfl rfl ?_
  refine hy_cV1e (i := 2) rfl mj_M_isColour (by decide) rfl (Nat.le_of_ble_eq_true rfl) rfl rfl rfl (c_M_isColour) ?_
  refine hy_ib_eq (i := 3) (tt := 12) rfl (fun zc1 => ?_) (fun zc1 => ?_)
  · refine hy_const (i := 12) rfl (by decide) ?_
    refine hy_zreturn (i := 13) rfl rfl (by first | decide | exact hy_b01 _) ?_
    exact ⟨congrArg some (by simp_all [hy_b]), rfl⟩
  · refine hy_aload (i := 4) rfl rfl ?_
    refine hy_getr (i := 5) rfl rfl ?_
    refine hy_iload (i := 6) rfl rfl ?_
    refine hy_iald (i := 7) rfl rfl (by have := sp_told_in zc1; omega) rfl ?_
    refine hy_const (i := 8) rfl (by decide) ?_
    refine hy_ic_eq (i := 9) (tt := 12) rfl (fun zc2 => ?_) (fun zc2 => ?_)
    · refine hy_const (i := 12) rfl (by decide) ?_
      refine hy_zreturn (i := 13) rfl rfl (by first | decide | exact hy_b01 _) ?_
      exact ⟨congrArg some (by simp_all [hy_b]), rfl⟩
    · refine hy_const (i := 10) rfl (by decide) ?_
      refine hy_goto (i := 11) (tt := 13) rfl ?_
      refine hy_zreturn (i := 13) rfl rfl (by first | decide | exact hy_b01 _) ?_
      exact ⟨congrArg some (by simp_all [hy_b]), rfl⟩
theorem c_M_isPlain {c : Int} : hy_Ct sc hm_M_isPlain 2 [.inr (some 59), .inl c] t (hy_e (some (hy_b (sp_told (t 59 0) c && decide (t 60 c.toNat = -1)))) t) := by
  refine hy_mk_ct ok_M_isPlain ck_M_isPlain (Nat.le_of_ble_eq_true rfl) ?_
  refine hy_aload (i := 0) rfl rfl ?_
  refine hy_iload (i := 1) rfl rfl ?_
  refine hy_cV1e (i := 2) rfl mj_M_isColour (by decide) rfl (Nat.le_of_ble_eq_true rfl) rfl rfl rfl (c_M_isColour) ?_
  refine hy_ib_eq (i := 3) (tt := 12) rfl (fun zc1 => ?_) (fun zc1 => ?_)
  · refine hy_const (i := 12) rfl (by decide) ?_
    refine hy_zreturn (i := 13) rfl rfl (by first | decide | exact hy_b01 _) ?_
    exact ⟨congrArg some (by simp_all [hy_b]), rfl⟩
  · refine hy_aload (i := 4) rfl rfl ?_
    refine hy_getr (i := 5) rfl rfl ?_
    refine hy_iload (i := 6) rfl rfl ?_
    refine hy_iald (i := 7) rfl rfl (by have := sp_told_in zc1; omega) rfl ?_
    refine hy_const (i := 8) rfl (by decide) ?_
    refine hy_ic_ne (i := 9) (tt := 12) rfl (fun zc2 => ?_) (fun zc2 => ?_)
    · refine hy_const (i := 12) rfl (by decide) ?_
      refine hy_zreturn (i := 13) rfl rfl (by first | decide | exact hy_b01 _) ?_
      exact ⟨congrArg some (by simp_all [hy_b]), rfl⟩
    · refine hy_const (i := 10) rfl (by decide) ?_
      refine hy_goto (i := 11) (tt := 13) rfl ?_
      refine hy_zreturn (i := 13) rfl rfl (by first | decide | exact hy_b01 _) ?_
      exact ⟨congrArg some (by simp_all [hy_b]), rfl⟩
def sp_tellM (t : hy_T) (c f s : Int) : hy_T := hy_up (hy_up (hy_up t 59 0 (hz_ior (t 59 0) (hz_ishl 1 c))) 60 c.toNat f) 61 c.toNat s
theorem c_M_colour {c f s : Int} : hy_Ct sc hm_M_colour 2 [.inr (some 59), .inl c, .inl f, .inl s] t (hy_e (some (hy_b (sp_tellable (t 59 0) c f s))) (if sp_tellable (t 59 0) c f s = true then sp_tellM t c f s else t)) := by
  refine hy_mk_ct ok_M_colour ck_M_colour (Nat.le_of_ble_eq_true rfl) ?_
  refine hy_iload (i := 0) rfl rfl ?_
  refine hy_const (i := 1) rfl (by decide) ?_
  refine hy_const (i := 2) rfl (by decide) ?_
  refine hy_cS3e (i := 3) rfl (by decide) mj_M_in (by decide) rfl (Nat.le_of_ble_eq_true rfl) (c_M_in) ?_
  refine hy_ib_eq (i := 4) (tt := 9) rfl (fun zc1 => ?_) (fun zc1 => ?_)
  · refine hy_const (i := 9) rfl (by decide) ?_
    refine hy_zreturn (i := 10) rfl rfl (by first | decide | exact hy_b01 _) ?_
    refine ⟨congrArg some ?_, ?_⟩ <;> first | (exfalso; simp at *; done) | (simp_all [hy_b, sp_tellable, sp_tellM, hy_up] <;> try omega)
  · refine hy_aload (i := 5) rfl rfl ?_
    refine hy_iload (i := 6) rfl rfl ?_
    refine hy_cV1e (i := 7) rfl mj_M_isColour (by decide) rfl (Nat.le_of_ble_eq_true rfl) rfl rfl rfl (c_M_isColour) ?_
    refine hy_ib_eq (i := 8) (tt := 11) rfl (fun zc2 => ?_) (fun zc2 => ?_)
    · refine hy_iload (i := 11) rfl rfl ?_
      refine hy_const (i := 12) rfl (by decide) ?_
      refine hy_ic_ne (i := 13) (tt := 19) rfl (fun zc3 => ?_) (fun zc3 => ?_)
      · refine hy_const (i := 19) rfl (by decide) ?_
        refine hy_istore (i := 20) rfl ?_
        refine hy_iload (i := 21) rfl rfl ?_
        refine hy_if_ne (i := 22) (tt := 42) rfl (fun zc4 => ?_) (fun zc4 => ?_)
        · refine hy_aload (i := 42) rfl rfl ?_
          refine hy_aload (i := 43) rfl rfl ?_
          refine hy_get (i := 44) (fk := 0) rfl rfl rfl ?_
          refine hy_const (i := 45) rfl (by decide) ?_
          refine hy_iload (i := 46) rfl rfl ?_
          refine hy_ishl (i := 47) rfl ?_
          refine hy_ior (i := 48) rfl ?_
          refine hy_put (i := 49) (fk := 0) rfl rfl rfl rfl ?_
          refine hy_aload (i := 50) rfl rfl ?_
          refine hy_getr (i := 51) rfl rfl ?_
          refine hy_iload (i := 52) rfl rfl ?_
          refine hy_iload (i := 53) rfl rfl ?_
          refine hy_iast (i := 54) rfl rfl (by simp at zc1; omega) rfl ?_
          refine hy_aload (i := 55) rfl rfl ?_
          refine hy_getr (i := 56) rfl rfl ?_
          refine hy_iload (i := 57) rfl rfl ?_
          refine hy_iload (i := 58) rfl rfl ?_
          refine hy_iast (i := 59) rfl rfl (by simp at zc1; omega) rfl ?_
          refine hy_const (i := 60) rfl (by decide) ?_
          refine hy_zreturn (i := 61) rfl rfl (by first | decide | exact hy_b01 _) ?_
          refine ⟨congrArg some ?_, ?_⟩ <;> first | (exfalso; simp at *; done) | (simp_all [hy_b, sp_tellable, sp_tellM, hy_up] <;> try omega)
        · refine hy_aload (i := 23) rfl rfl ?_
          refine hy_iload (i := 24) rfl rfl ?_
          refine hy_cV1e (i := 25) rfl mj_M_isColour (by decide) rfl (Nat.le_of_ble_eq_true rfl) rfl rfl rfl (c_M_isColour) ?_
          refine hy_ib_eq (i := 26) (tt := 40) rfl (fun zc5 => ?_) (fun zc5 => ?_)
          · refine hy_const (i := 40) rfl (by decide) ?_
            refine hy_zreturn (i := 41) rfl rfl (by first | decide | exact hy_b01 _) ?_
            refine ⟨congrArg some ?_, ?_⟩ <;> first | (exfalso; simp at *; done) | (simp_all [hy_b, sp_tellable, sp_tellM, hy_up] <;> try omega)
          · refine hy_aload (i := 27) rfl rfl ?_
            refine hy_iload (i := 28) rfl rfl ?_
            refine hy_cV1e (i := 29) rfl mj_M_isColour (by decide) rfl (Nat.le_of_ble_eq_true rfl) rfl rfl rfl (c_M_isColour) ?_
            refine hy_ib_eq (i := 30) (tt := 40) rfl (fun zc6 => ?_) (fun zc6 => ?_)
            · refine hy_const (i := 40) rfl (by decide) ?_
              refine hy_zreturn (i := 41) rfl rfl (by first | decide | exact hy_b01 _) ?_
              refine ⟨congrArg some ?_, ?_⟩ <;> first | (exfalso; simp at *; done) | (simp_all [hy_b, sp_tellable, sp_tellM, hy_up] <;> try omega)
            · refine hy_iload (i := 31) rfl rfl ?_
              refine hy_iload (i := 32) rfl rfl ?_
              refine hy_ic_eq (i := 33) (tt := 40) rfl (fun zc7 => ?_) (fun zc7 => ?_)
              · refine hy_const (i := 40) rfl (by decide) ?_
                refine hy_zreturn (i := 41) rfl rfl (by first | decide | exact hy_b01 _) ?_
                refine ⟨congrArg some ?_, ?_⟩ <;> first | (exfalso; simp at *; done) | (simp_all [hy_b, sp_tellable, sp_tellM, hy_up] <;> try omega)
              · refine hy_iload (i := 34) rfl rfl ?_
                refine hy_iload (i := 35) rfl rfl ?_
                refine hy_ic_ge (i := 36) (tt := 40) rfl (fun zc8 => ?_) (fun zc8 => ?_)
                · refine hy_const (i := 40) rfl (by decide) ?_
                  refine hy_zreturn (i := 41) rfl rfl (by first | decide | exact hy_b01 _) ?_
                  refine ⟨congrArg some ?_, ?_⟩ <;> first | (exfalso; simp at *; done) | (simp_all [hy_b, sp_tellable, sp_tellM, hy_up] <;> try omega)
                · refine hy_iload (i := 37) rfl rfl ?_
                  refine hy_iload (i := 38) rfl rfl ?_
                  refine hy_ic_lt (i := 39) (tt := 42) rfl (fun zc9 => ?_) (fun zc9 => ?_)
                  · refine hy_aload (i := 42) rfl rfl ?_
                    refine hy_aload (i := 43) rfl rfl ?_
                    refine hy_get (i := 44) (fk := 0) rfl rfl rfl ?_
                    refine hy_const (i := 45) rfl (by decide) ?_
                    refine hy_iload (i := 46) rfl rfl ?_
                    refine hy_ishl (i := 47) rfl ?_
                    refine hy_ior (i := 48) rfl ?_
                    refine hy_put (i := 49) (fk := 0) rfl rfl rfl rfl ?_
                    refine hy_aload (i := 50) rfl rfl ?_
                    refine hy_getr (i := 51) rfl rfl ?_
                    refine hy_iload (i := 52) rfl rfl ?_
                    refine hy_iload (i := 53) rfl rfl ?_
                    refine hy_iast (i := 54) rfl rfl (by simp at zc1; omega) rfl ?_
                    refine hy_aload (i := 55) rfl rfl ?_
                    refine hy_getr (i := 56) rfl rfl ?_
                    refine hy_iload (i := 57) rfl rfl ?_
                    refine hy_iload (i := 58) rfl rfl ?_
                    refine hy_iast (i := 59) rfl rfl (by simp at zc1; omega) rfl ?_
                    refine hy_const (i := 60) rfl (by decide) ?_
                    refine hy_zreturn (i := 61) rfl rfl (by first | decide | exact hy_b01 _) ?_
                    refine ⟨congrArg some ?_, ?_⟩ <;> first | (exfalso; simp at *; done) | (simp_all [hy_b, sp_tellable, sp_tellM, hy_up] <;> try omega)
                  · refine hy_const (i := 40) rfl (by decide) ?_
                    refine hy_zreturn (i := 41) rfl rfl (by first | decide | exact hy_b01 _) ?_
                    refine ⟨congrArg some ?_, ?_⟩ <;> first | (exfalso; simp at *; done) | (simp_all [hy_b, sp_tellable, sp_tellM, hy_up] <;> try omega)
      · refine hy_iload (i := 14) rfl rfl ?_
        refine hy_const (i := 15) rfl (by decide) ?_
        refine hy_ic_ne (i := 16) (tt := 19) rfl (fun zc4 => ?_) (fun zc4 => ?_)
        · refine hy_const (i := 19) rfl (by decide) ?_
          refine hy_istore (i := 20) rfl ?_
          refine hy_iload (i := 21) rfl rfl ?_
          refine hy_if_ne (i := 22) (tt := 42) rfl (fun zc5 => ?_) (fun zc5 => ?_)
          · refine hy_aload (i := 42) rfl rfl ?_
            refine hy_aload (i := 43) rfl rfl ?_
            refine hy_get (i := 44) (fk := 0) rfl rfl rfl ?_
            refine hy_const (i := 45) rfl (by decide) ?_
            refine hy_iload (i := 46) rfl rfl ?_
            refine hy_ishl (i := 47) rfl ?_
            refine hy_ior (i := 48) rfl ?_
            refine hy_put (i := 49) (fk := 0) rfl rfl rfl rfl ?_
            refine hy_aload (i := 50) rfl rfl ?_
            refine hy_getr (i := 51) rfl rfl ?_
            refine hy_iload (i := 52) rfl rfl ?_
            refine hy_iload (i := 53) rfl rfl ?_
            refine hy_iast (i := 54) rfl rfl (by simp at zc1; omega) rfl ?_
            refine hy_aload (i := 55) rfl rfl ?_
            refine hy_getr (i := 56) rfl rfl ?_
            refine hy_iload (i := 57) rfl rfl ?_
            refine hy_iload (i := 58) rfl rfl ?_
            refine hy_iast (i := 59) rfl rfl (by simp at zc1; omega) rfl ?_
            refine hy_const (i := 60) rfl (by decide) ?_
            refine hy_zreturn (i := 61) rfl rfl (by first | decide | exact hy_b01 _) ?_
            refine ⟨congrArg some ?_, ?_⟩ <;> first | (exfalso; simp at *; done) | (simp_all [hy_b, sp_tellable, sp_tellM, hy_up] <;> try omega)
          · refine hy_aload (i := 23) rfl rfl ?_
            refine hy_iload (i := 24) rfl rfl ?_
            refine hy_cV1e (i := 25) rfl mj_M_isColour (by decide) rfl (Nat.le_of_ble_eq_true rfl) rfl rfl rfl (c_M_isColour) ?_
            refine hy_ib_eq (i := 26) (tt := 40) rfl (fun zc6 => ?_) (fun zc6 => ?_)
            · refine hy_const (i := 40) rfl (by decide) ?_
              refine hy_zreturn (i := 41) rfl rfl (by first | decide | exact hy_b01 _) ?_
              refine ⟨congrArg some ?_, ?_⟩ <;> first | (exfalso; simp at *; done) | (simp_all [hy_b, sp_tellable, sp_tellM, hy_up] <;> try omega)
            · refine hy_aload (i := 27) rfl rfl ?_
              refine hy_iload (i := 28) rfl rfl ?_
              refine hy_cV1e (i := 29) rfl mj_M_isColour (by decide) rfl (Nat.le_of_ble_eq_true rfl) rfl rfl rfl (c_M_isColour) ?_
              refine hy_ib_eq (i := 30) (tt := 40) rfl (fun zc7 => ?_) (fun zc7 => ?_)
              · refine hy_const (i := 40) rfl (by decide) ?_
                refine hy_zreturn (i := 41) rfl rfl (by first | decide | exact hy_b01 _) ?_
                refine ⟨congrArg some ?_, ?_⟩ <;> first | (exfalso; simp at *; done) | (simp_all [hy_b, sp_tellable, sp_tellM, hy_up] <;> try omega)
              · refine hy_iload (i := 31) rfl rfl ?_
                refine hy_iload (i := 32) rfl rfl ?_
                refine hy_ic_eq (i := 33) (tt := 40) rfl (fun zc8 => ?_) (fun zc8 => ?_)
                · refine hy_const (i := 40) rfl (by decide) ?_
                  refine hy_zreturn (i := 41) rfl rfl (by first | decide | exact hy_b01 _) ?_
                  refine ⟨congrArg some ?_, ?_⟩ <;> first | (exfalso; simp at *; done) | (simp_all [hy_b, sp_tellable, sp_tellM, hy_up] <;> try omega)
                · refine hy_iload (i := 34) rfl rfl ?_
                  refine hy_iload (i := 35) rfl rfl ?_
                  refine hy_ic_ge (i := 36) (tt := 40) rfl (fun zc9 => ?_) (fun zc9 => ?_)
                  · refine hy_const (i := 40) rfl (by decide) ?_
                    refine hy_zreturn (i := 41) rfl rfl (by first | decide | exact hy_b01 _) ?_
                    refine ⟨congrArg some ?_, ?_⟩ <;> first | (exfalso; simp at *; done) | (simp_all [hy_b, sp_tellable, sp_tellM, hy_up] <;> try omega)
                  · refine hy_iload (i := 37) rfl rfl ?_
                    refine hy_iload (i := 38) rfl rfl ?_
                    refine hy_ic_lt (i := 39) (tt := 42) rfl (fun zc10 => ?_) (fun zc10 => ?_)
                    · refine hy_aload (i := 42) rfl rfl ?_
                      refine hy_aload (i := 43) rfl rfl ?_
                      refine hy_get (i := 44) (fk := 0) rfl rfl rfl ?_
                      refine hy_const (i := 45) rfl (by decide) ?_
                      refine hy_iload (i := 46) rfl rfl ?_
                      refine hy_ishl (i := 47) rfl ?_
                      refine hy_ior (i := 48) rfl ?_
                      refine hy_put (i := 49) (fk := 0) rfl rfl rfl rfl ?_
                      refine hy_aload (i := 50) rfl rfl ?_
                      refine hy_getr (i := 51) rfl rfl ?_
                      refine hy_iload (i := 52) rfl rfl ?_
                      refine hy_iload (i := 53) rfl rfl ?_
                      refine hy_iast (i := 54) rfl rfl (by simp at zc1; omega) rfl ?_
                      refine hy_aload (i := 55) rfl rfl ?_
                      refine hy_getr (i := 56) rfl rfl ?_
                      refine hy_iload (i := 57) rfl rfl ?_
                      refine hy_iload (i := 58) rfl rfl ?_
                      refine hy_iast (i := 59) rfl rfl (by simp at zc1; omega) rfl ?_
                      refine hy_const (i := 60) rfl (by decide) ?_
                      refine hy_zreturn (i := 61) rfl rfl (by first | decide | exact hy_b01 _) ?_
                      refine ⟨congrArg some ?_, ?_⟩ <;> first | (exfalso; simp at *; done) | (simp_all [hy_b, sp_tellable, sp_tellM, hy_up] <;> try omega)
                    · refine hy_const (i := 40) rfl (by decide) ?_
                      refine hy_zreturn (i := 41) rfl rfl (by first | decide | exact hy_b01 _) ?_
                      refine ⟨congrArg some ?_, ?_⟩ <;> first | (exfalso; simp at *; done) | (simp_all [hy_b, sp_tellable, sp_tellM, hy_up] <;> try omega)
        · refine hy_const (i := 17) rfl (by decide) ?_
          refine hy_goto (i := 18) (tt := 20) rfl ?_
          refine hy_istore (i := 20) rfl ?_
          refine hy_iload (i := 21) rfl rfl ?_
          refine hy_if_ne (i := 22) (tt := 42) rfl (fun zc5 => ?_) (fun zc5 => ?_)
          · refine hy_aload (i := 42) rfl rfl ?_
            refine hy_aload (i := 43) rfl rfl ?_
            refine hy_get (i := 44) (fk := 0) rfl rfl rfl ?_
            refine hy_const (i := 45) rfl (by decide) ?_
            refine hy_iload (i := 46) rfl rfl ?_
            refine hy_ishl (i := 47) rfl ?_
            refine hy_ior (i := 48) rfl ?_
            refine hy_put (i := 49) (fk := 0) rfl rfl rfl rfl ?_
            refine hy_aload (i := 50) rfl rfl ?_
            refine hy_getr (i := 51) rfl rfl ?_
            refine hy_iload (i := 52) rfl rfl ?_
            refine hy_iload (i := 53) rfl rfl ?_
            refine hy_iast (i := 54) rfl rfl (by simp at zc1; omega) rfl ?_
            refine hy_aload (i := 55) rfl rfl ?_
            refine hy_getr (i := 56) rfl rfl ?_
            refine hy_iload (i := 57) rfl rfl ?_
            refine hy_iload (i := 58) rfl rfl ?_
            refine hy_iast (i := 59) rfl rfl (by simp at zc1; omega) rfl ?_
            refine hy_const (i := 60) rfl (by decide) ?_
            refine hy_zreturn (i := 61) rfl rfl (by first | decide | exact hy_b01 _) ?_
            refine ⟨congrArg some ?_, ?_⟩ <;> first | (exfalso; simp at *; done) | (simp_all [hy_b, sp_tellable, sp_tellM, hy_up] <;> try omega)
          · refine hy_aload (i := 23) rfl rfl ?_
            refine hy_iload (i := 24) rfl rfl ?_
            refine hy_cV1e (i := 25) rfl mj_M_isColour (by decide) rfl (Nat.le_of_ble_eq_true rfl) rfl rfl rfl (c_M_isColour) ?_
            refine hy_ib_eq (i := 26) (tt := 40) rfl (fun zc6 => ?_) (fun zc6 => ?_)
            · refine hy_const (i := 40) rfl (by decide) ?_
              refine hy_zreturn (i := 41) rfl rfl (by first | decide | exact hy_b01 _) ?_
              refine ⟨congrArg some ?_, ?_⟩ <;> first | (exfalso; simp at *; done) | (simp_all [hy_b, sp_tellable, sp_tellM, hy_up] <;> try omega)
            · refine hy_aload (i := 27) rfl rfl ?_
              refine hy_iload (i := 28) rfl rfl ?_
              refine hy_cV1e (i := 29) rfl mj_M_isColour (by decide) rfl (Nat.le_of_ble_eq_true rfl) rfl rfl rfl (c_M_isColour) ?_
              refine hy_ib_eq (i := 30) (tt := 40) rfl (fun zc7 => ?_) (fun zc7 => ?_)
              · refine hy_const (i := 40) rfl (by decide) ?_
                refine hy_zreturn (i := 41) rfl rfl (by first | decide | exact hy_b01 _) ?_
                refine ⟨congrArg some ?_, ?_⟩ <;> first | (exfalso; simp at *; done) | (simp_all [hy_b, sp_tellable, sp_tellM, hy_up] <;> try omega)
              · refine hy_iload (i := 31) rfl rfl ?_
                refine hy_iload (i := 32) rfl rfl ?_
                refine hy_ic_eq (i := 33) (tt := 40) rfl (fun zc8 => ?_) (fun zc8 => ?_)
                · refine hy_const (i := 40) rfl (by decide) ?_
                  refine hy_zreturn (i := 41) rfl rfl (by first | decide | exact hy_b01 _) ?_
                  refine ⟨congrArg some ?_, ?_⟩ <;> first | (exfalso; simp at *; done) | (simp_all [hy_b, sp_tellable, sp_tellM, hy_up] <;> try omega)
                · refine hy_iload (i := 34) rfl rfl ?_
                  refine hy_iload (i := 35) rfl rfl ?_
                  refine hy_ic_ge (i := 36) (tt := 40) rfl (fun zc9 => ?_) (fun zc9 => ?_)
                  · refine hy_const (i := 40) rfl (by decide) ?_
                    refine hy_zreturn (i := 41) rfl rfl (by first | decide | exact hy_b01 _) ?_
                    refine ⟨congrArg some ?_, ?_⟩ <;> first | (exfalso; simp at *; done) | (simp_all [hy_b, sp_tellable, sp_tellM, hy_up] <;> try omega)
                  · refine hy_iload (i := 37) rfl rfl ?_
                    refine hy_iload (i := 38) rfl rfl ?_
                    refine hy_ic_lt (i := 39) (tt := 42) rfl (fun zc10 => ?_) (fun zc10 => ?_)
                    · refine hy_aload (i := 42) rfl rfl ?_
                      refine hy_aload (i := 43) rfl rfl ?_
                      refine hy_get (i := 44) (fk := 0) rfl rfl rfl ?_
                      refine hy_const (i := 45) rfl (by decide) ?_
                      refine hy_iload (i := 46) rfl rfl ?_
                      refine hy_ishl (i := 47) rfl ?_
                      refine hy_ior (i := 48) rfl ?_
                      refine hy_put (i := 49) (fk := 0) rfl rfl rfl rfl ?_
                      refine hy_aload (i := 50) rfl rfl ?_
                      refine hy_getr (i := 51) rfl rfl ?_
                      refine hy_iload (i := 52) rfl rfl ?_
                      refine hy_iload (i := 53) rfl rfl ?_
                      refine hy_iast (i := 54) rfl rfl (by simp at zc1; omega) rfl ?_
                      refine hy_aload (i := 55) rfl rfl ?_
                      refine hy_getr (i := 56) rfl rfl ?_
                      refine hy_iload (i := 57) rfl rfl ?_
                      refine hy_iload (i := 58) rfl rfl ?_
                      refine hy_iast (i := 59) rfl rfl (by simp at zc1; omega) rfl ?_
                      refine hy_const (i := 60) rfl (by decide) ?_
                      refine hy_zreturn (i := 61) rfl rfl (by first | decide | exact hy_b01 _) ?_
                      refine ⟨congrArg some ?_, ?_⟩ <;> first | (exfalso; simp at *; done) | (simp_all [hy_b, sp_tellable, sp_tellM, hy_up] <;> try omega)
                    · refine hy_const (i := 40) rfl (by decide) ?_
                      refine hy_zreturn (i := 41) rfl rfl (by first | decide | exact hy_b01 _) ?_
                      refine ⟨congrArg some ?_, ?_⟩ <;> first | (exfalso; simp at *; done) | (simp_all [hy_b, sp_tellable, sp_tellM, hy_up] <;> try omega)
    · refine hy_const (i := 9) rfl (by decide) ?_
      refine hy_zreturn (i := 10) rfl rfl (by first | decide | exact hy_b01 _) ?_
      refine ⟨congrArg some ?_, ?_⟩ <;> first | (exfalso; simp at *; done) | (simp_all [hy_b, sp_tellable, sp_tellM, hy_up] <;> try omega)
/-! the tape -/
def tp_next (t : hy_T) : Int := if t 3 4 = 0 ∧ 0 ≤ t 3 3 ∧ t 3 3 < t 3 2 then t 4 (t 3 3).toNat else -1
def tp_at (t : hy_T) (i : Int) : Int := if 0 ≤ i ∧ i < t 3 1 then t 4 i.toNat else 0
def tp_fail (t : hy_T) (n w : Int) : hy_T := if t 3 4 = 0 then hy_up t 3 4 (-1000 * n - w) else t
theorem c_T_length : hy_Ct sc hm_T_length 0 [.inr (some 3)] t (hy_e (some (t 3 1)) t) := by
  refine hy_mk_ct ok_T_length ck_T_length (Nat.le_of_ble_eq_true rfl) ?_
  refine hy_aload (i := 0) rfl rfl ?_
  refine hy_get (i := 1) (fk := 1) rfl rfl rfl ?_
  refine hy_ireturn (i := 2) rfl rfl ?_
  exact ⟨rfl, rfl⟩
theorem c_T_place : hy_Ct sc hm_T_place 0 [.inr (some 3)] t (hy_e (some (t 3 3)) t) := by
  refine hy_mk_ct ok_T_place ck_T_place (Nat.le_of_ble_eq_true rfl) ?_
  refine hy_aload (i := 0) rfl rfl ?_
  refine hy_get (i := 1) (fk := 3) rfl rfl rfl ?_
  refine hy_ireturn (i := 2) rfl rfl ?_
  exact ⟨rfl, rfl⟩
theorem c_T_fault : hy_Ct sc hm_T_fault 0 [.inr (some 3)] t (hy_e (some (t 3 4)) t) := by
  refine hy_mk_ct ok_T_fault ck_T_fault (Nat.le_of_ble_eq_true rfl) ?_
  refine hy_aload (i := 0) rfl rfl ?_
  refine hy_get (i := 1) (fk := 4) rfl rfl rfl ?_
  refine hy_ireturn (i := 2) rfl rfl ?_
  exact ⟨rfl, rfl⟩
theorem c_T_clear : hy_Ct sc hm_T_clear 0 [.inr (some 3)] t (hy_e none (hy_up t 3 1 0)) := by
  refine hy_mk_ct ok_T_clear ck_T_clear (Nat.le_of_ble_eq_true rfl) ?_
  refine hy_aload (i := 0) rfl rfl ?_
  refine hy_const (i := 1) rfl (by decide) ?_
  refine hy_put (i := 2) (fk := 1) rfl rfl rfl rfl ?_
  refine hy_return (i := 3) rfl rfl ?_
  exact ⟨rfl, rfl⟩
theorem c_T_at {k : Int} (hl : t 3 1 ≤ 260) : hy_Ct sc hm_T_at 0 [.inr (some 3), .inl k] t (hy_e (some (tp_at t k)) t) := by
  refine hy_mk_ct ok_T_at ck_T_at (Nat.le_of_ble_eq_true rfl) ?_
  refine hy_iload (i := 0) rfl rfl ?_
  refine hy_if_lt (i := 1) (tt := 11) rfl (fun zc1 => ?_) (fun zc1 => ?_)
  · refine hy_const (i := 11) rfl (by decide) ?_
    refine hy_ireturn (i := 12) rfl rfl ?_
    exact ⟨congrArg some (by unfold tp_at; split <;> first | rfl | omega), rfl⟩
  · refine hy_iload (i := 2) rfl rfl ?_
    refine hy_aload (i := 3) rfl rfl ?_
    refine hy_get (i := 4) (fk := 1) rfl rfl rfl ?_
    refine hy_ic_ge (i := 5) (tt := 11) rfl (fun zc2 => ?_) (fun zc2 => ?_)
    · refine hy_const (i := 11) rfl (by decide) ?_
      refine hy_ireturn (i := 12) rfl rfl ?_
      exact ⟨congrArg some (by unfold tp_at; split <;> first | rfl | omega), rfl⟩
    · refine hy_aload (i := 6) rfl rfl ?_
      refine hy_getr (i := 7) rfl rfl ?_
      refine hy_iload (i := 8) rfl rfl ?_
      refine hy_iald (i := 9) rfl rfl (by omega) rfl ?_
      refine hy_goto (i := 10) (tt := 12) rfl ?_
      refine hy_ireturn (i := 12) rfl rfl ?_
      exact ⟨congrArg some (by unfold tp_at; split <;> first | rfl | omega), rfl⟩
def tp_number (t : hy_T) (k : Int) : Int := hz_ior (hz_ior (hz_ior (hz_ishl (tp_at t k) 24) (hz_ishl (tp_at t (k + 1)) 16)) (hz_ishl (tp_at t (k + 2)) 8)) (tp_at t (k + 3))
theorem c_T_number {k : Int} (hl : t 3 1 ≤ 260) (hk : 0 ≤ k ∧ k < 1000) : hy_Ct sc hm_T_number 1 [.inr (some 3), .inl k] t (hy_e (some (tp_number t k)) t) := by
  refine hy_mk_ct ok_T_number ck_T_number (Nat.le_of_ble_eq_true rfl) ?_
  refine hy_aload (i := 0) rfl rfl ?_
  refine hy_iload (i := 1) rfl rfl ?_
  refine hy_cV1e (i := 2) rfl mj_T_at (by decide) rfl (Nat.le_of_ble_eq_true rfl) rfl rfl rfl (c_T_at (by assumption)) ?_
  refine hy_const (i := 3) rfl (by decide) ?_
  refine hy_ishl (i := 4) rfl ?_
  refine hy_aload (i := 5) rfl rfl ?_
  refine hy_iload (i := 6) rfl rfl ?_
  refine hy_const (i := 7) rfl (by decide) ?_
  refine hy_iadd (i := 8) rfl (by omega) ?_
  refine hy_cV1e (i := 9) rfl mj_T_at (by decide) rfl (Nat.le_of_ble_eq_true rfl) rfl rfl rfl (c_T_at (by assumption)) ?_
  refine hy_const (i := 10) rfl (by decide) ?_
  refine hy_ishl (i := 11) rfl ?_
  refine hy_ior (i := 12) rfl ?_
  refine hy_aload (i := 13) rfl rfl ?_
  refine hy_iload (i := 14) rfl rfl ?_
  refine hy_const (i := 15) rfl (by decide) ?_
  refine hy_iadd (i := 16) rfl (by omega) ?_
  refine hy_cV1e (i := 17) rfl mj_T_at (by decide) rfl (Nat.le_of_ble_eq_true rfl) rfl rfl rfl (c_T_at (by assumption)) ?_
  refine hy_const (i := 18) rfl (by decide) ?_
  refine hy_ishl (i := 19) rfl ?_
  refine hy_ior (i := 20) rfl ?_
  refine hy_aload (i := 21) rfl rfl ?_
  refine hy_iload (i := 22) rfl rfl ?_
  refine hy_const (i := 23) rfl (by decide) ?_
  refine hy_iadd (i := 24) rfl (by omega) ?_
  refine hy_cV1e (i := 25) rfl mj_T_at (by decide) rfl (Nat.le_of_ble_eq_true rfl) rfl rfl rfl (c_T_at (by assumption)) ?_
  refine hy_ior (i := 26) rfl ?_
  refine hy_ireturn (i := 27) rfl rfl ?_
  exact ⟨rfl, rfl⟩
theorem c_T_start {n : Int} : hy_Ct sc hm_T_start 0 [.inr (some 3), .inl n] t (hy_e none (hy_up (hy_up (hy_up t 3 2 (if t 3 1 < n then t 3 1 else n)) 3 3 0) 3 4 0)) := by
  refine hy_mk_ct ok_T_start ck_T_start (Nat.le_of_ble_eq_true rfl) ?_
  refine hy_aload (i := 0) rfl rfl ?_
  refine hy_iload (i := 1) rfl rfl ?_
  refine hy_aload (i := 2) rfl rfl ?_
  refine hy_get (i := 3) (fk := 1) rfl rfl rfl ?_
  refine hy_min (i := 4) rfl (Nat.le_of_ble_eq_true rfl) ?_
  refine hy_put (i := 5) (fk := 2) rfl rfl rfl rfl ?_
  refine hy_aload (i := 6) rfl rfl ?_
  refine hy_const (i := 7) rfl (by decide) ?_
  refine hy_put (i := 8) (fk := 3) rfl rfl rfl rfl ?_
  refine hy_aload (i := 9) rfl rfl ?_
  refine hy_const (i := 10) rfl (by decide) ?_
  refine hy_put (i := 11) (fk := 4) rfl rfl rfl rfl ?_
  refine hy_return (i := 12) rfl rfl ?_
  exact ⟨rfl, rfl⟩
theorem c_T_next (hl : t 3 2 ≤ 260) : hy_Ct sc hm_T_next 0 [.inr (some 3)] t (hy_e (some (tp_next t)) t) := by
  refine hy_mk_ct ok_T_next ck_T_next (Nat.le_of_ble_eq_true rfl) ?_
  refine hy_aload (i := 0) rfl rfl ?_
  refine hy_get (i := 1) (fk := 4) rfl rfl rfl ?_
  refine hy_if_ne (i := 2) (tt := 17) rfl (fun zc1 => ?_) (fun zc1 => ?_)
  · refine hy_const (i := 17) rfl (by decide) ?_
    refine hy_ireturn (i := 18) rfl rfl ?_
    exact ⟨congrArg some (by unfold tp_next; split <;> first | rfl | omega), rfl⟩
  · refine hy_aload (i := 3) rfl rfl ?_
    refine hy_get (i := 4) (fk := 3) rfl rfl rfl ?_
    refine hy_if_lt (i := 5) (tt := 17) rfl (fun zc2 => ?_) (fun zc2 => ?_)
    · refine hy_const (i := 17) rfl (by decide) ?_
      refine hy_ireturn (i := 18) rfl rfl ?_
      exact ⟨congrArg some (by unfold tp_next; split <;> first | rfl | omega), rfl⟩
    · refine hy_aload (i := 6) rfl rfl ?_
      refine hy_get (i := 7) (fk := 3) rfl rfl rfl ?_
      refine hy_aload (i := 8) rfl rfl ?_
      refine hy_get (i := 9) (fk := 2) rfl rfl rfl ?_
      refine hy_ic_ge (i := 10) (tt := 17) rfl (fun zc3 => ?_) (fun zc3 => ?_)
      · refine hy_const (i := 17) rfl (by decide) ?_
        refine hy_ireturn (i := 18) rfl rfl ?_
        exact ⟨congrArg some (by unfold tp_next; split <;> first | rfl | omega), rfl⟩
      · refine hy_aload (i := 11) rfl rfl ?_
        refine hy_getr (i := 12) rfl rfl ?_
        refine hy_aload (i := 13) rfl rfl ?_
        refine hy_get (i := 14) (fk := 3) rfl rfl rfl ?_
        refine hy_iald (i := 15) rfl rfl (by omega) rfl ?_
        refine hy_goto (i := 16) (tt := 18) rfl ?_
        refine hy_ireturn (i := 18) rfl rfl ?_
        exact ⟨congrArg some (by unfold tp_next; split <;> first | rfl | omega), rfl⟩
theorem c_T_step (hl : -1 ≤ t 3 3 ∧ t 3 3 ≤ 1000) : hy_Ct sc hm_T_step 0 [.inr (some 3)] t (hy_e none (hy_up t 3 3 (t 3 3 + 1))) := by
  refine hy_mk_ct ok_T_step ck_T_step (Nat.le_of_ble_eq_true rfl) ?_
  refine hy_aload (i := 0) rfl rfl ?_
  refine hy_dup (i := 1) rfl ?_
  refine hy_get (i := 2) (fk := 3) rfl rfl rfl ?_
  refine hy_const (i := 3) rfl (by decide) ?_
  refine hy_iadd (i := 4) rfl (by omega) ?_
  refine hy_put (i := 5) (fk := 3) rfl rfl rfl rfl ?_
  refine hy_return (i := 6) rfl rfl ?_
  exact ⟨rfl, rfl⟩
theorem c_T_fail {n : Int} (hn : 0 ≤ n ∧ n < 10) (hl : -1 ≤ t 3 3 ∧ t 3 3 ≤ 1000) : hy_Ct sc hm_T_fail 0 [.inr (some 3), .inl n] t (hy_e none (tp_fail t n (t 3 3))) := by
  refine hy_mk_ct ok_T_fail ck_T_fail (Nat.le_of_ble_eq_true rfl) ?_
  refine hy_aload (i := 0) rfl rfl ?_
  refine hy_get (i := 1) (fk := 4) rfl rfl rfl ?_
  refine hy_if_ne (i := 2) (tt := 11) rfl (fun zc1 => ?_) (fun zc1 => ?_)
  · refine hy_return (i := 11) rfl rfl ?_
    exact ⟨rfl, by simp_all [tp_fail]⟩
  · refine hy_aload (i := 3) rfl rfl ?_
    refine hy_const (i := 4) rfl (by decide) ?_
    refine hy_iload (i := 5) rfl rfl ?_
    refine hy_imul (i := 6) rfl (by omega) ?_
    refine hy_aload (i := 7) rfl rfl ?_
    refine hy_get (i := 8) (fk := 3) rfl rfl rfl ?_
    refine hy_isub (i := 9) rfl (by omega) ?_
    refine hy_put (i := 10) (fk := 4) rfl rfl rfl rfl ?_
    refine hy_return (i := 11) rfl rfl ?_
    exact ⟨rfl, by simp_all [tp_fail]⟩
theorem c_T_failAt {n w : Int} (hn : 0 ≤ n ∧ n < 10) (hl : -1 ≤ w ∧ w ≤ 1000) : hy_Ct sc hm_T_failAt 0 [.inr (some 3), .inl n, .inl w] t (hy_e none (tp_fail t n w)) := by
  refine hy_mk_ct ok_T_failAt ck_T_failAt (Nat.le_of_ble_eq_true rfl) ?_
  refine hy_aload (i := 0) rfl rfl ?_
  refine hy_get (i := 1) (fk := 4) rfl rfl rfl ?_
  refine hy_if_ne (i := 2) (tt := 10) rfl (fun zc1 => ?_) (fun zc1 => ?_)
  · refine hy_return (i := 10) rfl rfl ?_
    exact ⟨rfl, by simp_all [tp_fail]⟩
  · refine hy_aload (i := 3) rfl rfl ?_
    refine hy_const (i := 4) rfl (by decide) ?_
    refine hy_iload (i := 5) rfl rfl ?_
    refine hy_imul (i := 6) rfl (by omega) ?_
    refine hy_iload (i := 7) rfl rfl ?_
    refine hy_isub (i := 8) rfl (by omega) ?_
    refine hy_put (i := 9) (fk := 4) rfl rfl rfl rfl ?_
    refine hy_return (i := 10) rfl rfl ?_
    exact ⟨rfl, by simp_all [tp_fail]⟩
def tp_take (t : hy_T) (s : Int) : hy_T := if tp_next t = s then hy_up t 3 3 (t 3 3 + 1) else tp_fail t 1 (t 3 3)
theorem c_T_take {s : Int} (hl : t 3 2 ≤ 260) (hl2 : -1 ≤ t 3 3 ∧ t 3 3 ≤ 1000) : hy_Ct sc hm_T_take 1 [.inr (some 3), .inl s] t (hy_e none (tp_take t s)) := by
  refine hy_mk_ct ok_T_take ck_T_take (Nat.le_of_ble_eq_true rfl) ?_
  refine hy_aload (i := 0) rfl rfl ?_
  refine hy_cV0e (i := 1) rfl mj_T_next (by decide) rfl (Nat.le_of_ble_eq_true rfl) rfl rfl rfl (c_T_next (by assumption)) ?_
  refine hy_iload (i := 2) rfl rfl ?_
  refine hy_ic_ne (i := 3) (tt := 11) rfl (fun zc1 => ?_) (fun zc1 => ?_)
  · refine hy_aload (i := 11) rfl rfl ?_
    refine hy_const (i := 12) rfl (by decide) ?_
    refine hy_cV1v (i := 13) rfl mj_T_fail (by decide) rfl (Nat.le_of_ble_eq_true rfl) rfl rfl rfl (c_T_fail (by decide) (by omega)) ?_
    refine hy_return (i := 14) rfl rfl ?_
    exact ⟨rfl, by simp_all [tp_take]⟩
  · refine hy_aload (i := 4) rfl rfl ?_
    refine hy_dup (i := 5) rfl ?_
    refine hy_get (i := 6) (fk := 3) rfl rfl rfl ?_
    refine hy_const (i := 7) rfl (by decide) ?_
    refine hy_iadd (i := 8) rfl (by omega) ?_
    refine hy_put (i := 9) (fk := 3) rfl rfl rfl rfl ?_
    refine hy_goto (i := 10) (tt := 14) rfl ?_
    refine hy_return (i := 14) rfl rfl ?_
    exact ⟨rfl, by simp_all [tp_take]⟩
def tp_finish (t : hy_T) : hy_T := if t 3 3 < t 3 2 then tp_fail t 1 (t 3 3) else t
theorem c_T_finish (hl2 : -1 ≤ t 3 3 ∧ t 3 3 ≤ 1000) : hy_Ct sc hm_T_finish 1 [.inr (some 3)] t (hy_e none (tp_finish t)) := by
  refine hy_mk_ct ok_T_finish ck_T_finish (Nat.le_of_ble_eq_true rfl) ?_
  refine hy_aload (i := 0) rfl rfl ?_
  refine hy_get (i := 1) (fk := 3) rfl rfl rfl ?_
  refine hy_aload (i := 2) rfl rfl ?_
  refine hy_get (i := 3) (fk := 2) rfl rfl rfl ?_
  refine hy_ic_ge (i := 4) (tt := 8) rfl (fun zc1 => ?_) (fun zc1 => ?_)
  · refine hy_return (i := 8) rfl rfl ?_
    exact ⟨rfl, by simp only [tp_finish]; split <;> first | rfl | omega⟩
  · refine hy_aload (i := 5) rfl rfl ?_
    refine hy_const (i := 6) rfl (by decide) ?_
    refine hy_cV1v (i := 7) rfl mj_T_fail (by decide) rfl (Nat.le_of_ble_eq_true rfl) rfl rfl rfl (c_T_fail (by decide) (by omega)) ?_
    refine hy_return (i := 8) rfl rfl ?_
    exact ⟨rfl, by simp only [tp_finish]; split <;> first | rfl | omega⟩
end PAL
/-! a war's state: who has what, owners, treaties -/
def sp_hav (hv : Nat → Int) (c q : Int) : Int := if (0 ≤ c ∧ c < 12) ∧ 0 ≤ q ∧ q < 4 then hv (4 * c + q).toNat else 0
def sp_hadN (hv : Nat → Int) (e q : Int) : Nat → Int
  | 0 => 0
  | n + 1 => hz_ior (sp_hadN hv e q n) (hz_ishl (hy_b (hz_b (sp_hav hv n q) e)) n)
def sp_bc (x : Int) : Int :=
  let a := (Int32.ofInt (x - hz_iand (hz_iushr x 1) 1431655765)).toInt
  let b := (Int32.ofInt (hz_iand a 858993459 + hz_iand (hz_iushr a 2) 858993459)).toInt
  let c := hz_iand (Int32.ofInt (b + hz_iushr b 4)).toInt 252645135
  let d := (Int32.ofInt (c + hz_iushr c 8)).toInt
  hz_iand (Int32.ofInt (d + hz_iushr d 16)).toInt 63
def sp_lowN (w : Int) : Nat → Int → Int
  | 0, q => q
  | n + 1, q => if q < 4 ∧ hz_b w q = false then sp_lowN w n (q + 1) else q
def sp_canGo (hv : Nat → Int) (c w g o : Int) : Bool := decide (∀ q : Nat, q < 4 → (hz_b w q && (!hz_b (sp_hav hv c q) g || hz_b (sp_hav hv c q) o)) = false)
def sp_setH (b : Nat) (t : hy_T) (c q v : Int) : hy_T := if (0 ≤ c ∧ c < 12) ∧ 0 ≤ q ∧ q < 4 then hy_up t (b + 1) (4 * c + q).toNat v else t
def sp_moveN (b : Nat) (t : hy_T) (c w lo wi : Int) : Nat → hy_T
  | 0 => t
  | n + 1 =>
    let t1 := sp_moveN b t c w lo wi n
    if hz_b w n = true then sp_setH b t1 c n (hz_ior (if lo = -1 then sp_hav (t1 (b + 1)) c n else hz_iand (sp_hav (t1 (b + 1)) c n) (hz_ixor (hz_ishl 1 lo) (-1))) (hz_ishl 1 wi)) else t1
def sp_part (b : Nat) (t : hy_T) (i w : Int) : Int := if (0 ≤ i ∧ i < t b 3) ∧ 0 ≤ w ∧ w < 6 then t (b + 3) (6 * i + w).toNat else 0
def sp_lay (b : Nat) (t : hy_T) (n : Nat) (c w g o s dd : Int) : hy_T := hy_up (hy_up (hy_up (hy_up (hy_up (hy_up t (b + 3) n c) (b + 3) (n + 1) w) (b + 3) (n + 2) g) (b + 3) (n + 3) o) (b + 3) (n + 4) s) (b + 3) (n + 5) dd
/-- a line is made -/
def sp_made (b : Nat) (t : hy_T) (c w g o s : Int) : hy_T :=
  let t1 := sp_moveN b t c w (if s = 0 then g else -1) o 4
  hy_up (sp_lay b t1 (6 * t b 3).toNat c w g o (if s = 0 then 0 else 1) (t b 4)) b 3 (t b 3 + 1)
theorem sp_moveN_F (b : Nat) (t : hy_T) (c w lo wi : Int) : ∀ n, hy_F (fun r _ => r == b + 1) t (sp_moveN b t c w lo wi n)
  | 0 => hy_F.rf
  | n + 1 => by
    have ih := sp_moveN_F b t c w lo wi n
    simp only [sp_moveN]
    split
    · unfold sp_setH
      split
      · exact ih.up (by simp)
      · exact ih
    · exact ih
theorem sp_hav_up {t : hy_T} {b r j : Nat} {v c q : Int} (h : r ≠ b) : sp_hav (hy_up t r j v b) c q = sp_hav (t b) c q := by
  unfold sp_hav
  simp [hy_up, Ne.symm h]
section STJ
variable {sc : List Int32} {t : hy_T}
theorem c_J_bitCount {x : Int} : hy_Ct sc hm_J_bitCount 0 [.inl x] t (hy_e (some (sp_bc x)) t) := by
  refine hy_mk_ct ok_J_bitCount ck_J_bitCount (Nat.le_of_ble_eq_true rfl) ?_
  refine hy_iload (i := 0) rfl rfl ?_
  refine hy_iload (i := 1) rfl rfl ?_
  refine hy_const (i := 2) rfl (by decide) ?_
  refine hy_iushr (i := 3) rfl ?_
  refine hy_const (i := 4) rfl (by decide) ?_
  refine hy_iand (i := 5) rfl ?_
  refine hy_isubw (i := 6) rfl ?_
  refine hy_istore (i := 7) rfl ?_
  refine hy_iload (i := 8) rfl rfl ?_
  refine hy_const (i := 9) rfl (by decide) ?_
  refine hy_iand (i := 10) rfl ?_
  refine hy_iload (i := 11) rfl rfl ?_
  refine hy_const (i := 12) rfl (by decide) ?_
  refine hy_iushr (i := 13) rfl ?_
  refine hy_const (i := 14) rfl (by decide) ?_
  refine hy_iand (i := 15) rfl ?_
  refine hy_iaddw (i := 16) rfl ?_
  refine hy_istore (i := 17) rfl ?_
  refine hy_iload (i := 18) rfl rfl ?_
  refine hy_iload (i := 19) rfl rfl ?_
  refine hy_const (i := 20) rfl (by decide) ?_
  refine hy_iushr (i := 21) rfl ?_
  refine hy_iaddw (i := 22) rfl ?_
  refine hy_const (i := 23) rfl (by decide) ?_
  refine hy_iand (i := 24) rfl ?_
  refine hy_istore (i := 25) rfl ?_
  refine hy_iload (i := 26) rfl rfl ?_
  refine hy_iload (i := 27) rfl rfl ?_
  refine hy_const (i := 28) rfl (by decide) ?_
  refine hy_iushr (i := 29) rfl ?_
  refine hy_iaddw (i := 30) rfl ?_
  refine hy_istore (i := 31) rfl ?_
  refine hy_iload (i := 32) rfl rfl ?_
  refine hy_iload (i := 33) rfl rfl ?_
  refine hy_const (i := 34) rfl (by decide) ?_
  refine hy_iushr (i := 35) rfl ?_
  refine hy_iaddw (i := 36) rfl ?_
  refine hy_istore (i := 37) rfl ?_
  refine hy_iload (i := 38) rfl rfl ?_
  refine hy_const (i := 39) rfl (by decide) ?_
  refine hy_iand (i := 40) rfl ?_
  refine hy_ireturn (i := 41) rfl rfl ?_
  exact ⟨rfl, rfl⟩
theorem c_S_lowest {w : Int} : hy_Ct sc hm_S_lowest 1 [.inl w] t (hy_e (some (sp_lowN w 4 0)) t) := by
  refine hy_mk_ct ok_S_lowest ck_S_lowest (Nat.le_of_ble_eq_true rfl) ?_
  have loop : ∀ (n : Nat), ∀ (q : Int), 0 ≤ q → n + q = 4 → sp_lowN w n q = sp_lowN w 4 0 → hy_W sc hm_S_lowest 1 2 [.inl w, .inl q] [] t (hy_e (some (sp_lowN w 4 0)) t) := by
    intro n
    induction n with
    | zero =>
      intro q h0 h1 h2
      refine hy_iload (i := 2) rfl rfl ?_
      refine hy_const (i := 3) rfl (by decide) ?_
      refine hy_ic_ge (i := 4) (tt := 11) rfl (fun zc1 => ?_) (fun zc1 => ?_)
      · refine hy_iload (i := 11) rfl rfl ?_
        refine hy_ireturn (i := 12) rfl rfl ?_
        first | omega | exact ⟨by rw [← h2]; rfl, rfl⟩
      · refine hy_iload (i := 5) rfl rfl ?_
        refine hy_iload (i := 6) rfl rfl ?_
        refine hy_cS2e (i := 7) rfl (by decide) mj_W_bit (by decide) rfl (Nat.le_of_ble_eq_true rfl) (c_W_bit) ?_
        refine hy_ib_ne (i := 8) (tt := 11) rfl (fun zc2 => ?_) (fun zc2 => ?_)
        · refine hy_iload (i := 11) rfl rfl ?_
          refine hy_ireturn (i := 12) rfl rfl ?_
          first | omega | exact ⟨by rw [← h2]; rfl, rfl⟩
        · refine hy_iinc (i := 9) rfl rfl (by omega) ?_
          refine hy_goto (i := 10) (tt := 2) rfl ?_
          omega
    | succ n ih =>
      intro q h0 h1 h2
      refine hy_iload (i := 2) rfl rfl ?_
      refine hy_const (i := 3) rfl (by decide) ?_
      refine hy_ic_ge (i := 4) (tt := 11) rfl (fun zc1 => ?_) (fun zc1 => ?_)
      · refine hy_iload (i := 11) rfl rfl ?_
        refine hy_ireturn (i := 12) rfl rfl ?_
        first | omega | exact ⟨by rw [← h2]; simp only [sp_lowN]; rw [if_neg (by simp [zc2])], rfl⟩
      · refine hy_iload (i := 5) rfl rfl ?_
        refine hy_iload (i := 6) rfl rfl ?_
        refine hy_cS2e (i := 7) rfl (by decide) mj_W_bit (by decide) rfl (Nat.le_of_ble_eq_true rfl) (c_W_bit) ?_
        refine hy_ib_ne (i := 8) (tt := 11) rfl (fun zc2 => ?_) (fun zc2 => ?_)
        · refine hy_iload (i := 11) rfl rfl ?_
          refine hy_ireturn (i := 12) rfl rfl ?_
          first | omega | exact ⟨by rw [← h2]; simp only [sp_lowN]; rw [if_neg (by simp [zc2])], rfl⟩
        · refine hy_iinc (i := 9) rfl rfl (by omega) ?_
          refine hy_goto (i := 10) (tt := 2) rfl ?_
          exact ih (q + 1) (by omega) (by omega) (by rw [← h2]; simp only [sp_lowN]; rw [if_pos ⟨by omega, zc2⟩])
  refine hy_const (i := 0) rfl (by decide) ?_
  refine hy_istore (i := 1) rfl ?_
  exact loop 4 0 (by omega) (by omega) rfl
end STJ
section ST33
variable {sc : List Int32} {t : hy_T}
theorem c_S_ownerOf_33 {f : Int} : hy_Ct sc hm_S_ownerOf 1 [.inr (some 33), .inl f] t (hy_e (some (if 0 ≤ f ∧ f < 64 then t 35 f.toNat else 6)) t) := by
  refine hy_mk_ct ok_S_ownerOf ck_S_ownerOf (Nat.le_of_ble_eq_true rfl) ?_
  refine hy_iload (i := 0) rfl rfl ?_
  refine hy_const (i := 1) rfl (by decide) ?_
  refine hy_cS2e (i := 2) rfl (by decide) mj_W_isAmong (by decide) rfl (Nat.le_of_ble_eq_true rfl) (c_W_isAmong) ?_
  refine hy_ib_eq (i := 3) (tt := 9) rfl (fun zc1 => ?_) (fun zc1 => ?_)
  · refine hy_const (i := 9) rfl (by decide) ?_
    refine hy_ireturn (i := 10) rfl rfl ?_
    exact ⟨congrArg some (by simp at zc1; split <;> first | rfl | omega), rfl⟩
  · refine hy_aload (i := 4) rfl rfl ?_
    refine hy_getr (i := 5) rfl rfl ?_
    refine hy_iload (i := 6) rfl rfl ?_
    refine hy_iald (i := 7) rfl rfl (by simp at zc1; omega) rfl ?_
    refine hy_goto (i := 8) (tt := 10) rfl ?_
    refine hy_ireturn (i := 10) rfl rfl ?_
    exact ⟨congrArg some (by simp at zc1; split <;> first | rfl | omega), rfl⟩
theorem c_S_setOwner_33 {f v : Int} : hy_Ct sc hm_S_setOwner 1 [.inr (some 33), .inl f, .inl v] t (hy_e none (if 0 ≤ f ∧ f < 64 then hy_up t 35 f.toNat v else t)) := by
  refine hy_mk_ct ok_S_setOwner ck_S_setOwner (Nat.le_of_ble_eq_true rfl) ?_
  refine hy_iload (i := 0) rfl rfl ?_
  refine hy_const (i := 1) rfl (by decide) ?_
  refine hy_cS2e (i := 2) rfl (by decide) mj_W_isAmong (by decide) rfl (Nat.le_of_ble_eq_true rfl) (c_W_isAmong) ?_
  refine hy_ib_eq (i := 3) (tt := 9) rfl (fun zc1 => ?_) (fun zc1 => ?_)
  · refine hy_return (i := 9) rfl rfl ?_
    exact ⟨rfl, by simp at zc1; split <;> first | rfl | omega⟩
  · refine hy_aload (i := 4) rfl rfl ?_
    refine hy_getr (i := 5) rfl rfl ?_
    refine hy_iload (i := 6) rfl rfl ?_
    refine hy_iload (i := 7) rfl rfl ?_
    refine hy_iast (i := 8) rfl rfl (by simp at zc1; omega) rfl ?_
    refine hy_return (i := 9) rfl rfl ?_
    exact ⟨rfl, by simp at zc1; split <;> first | rfl | omega⟩
theorem c_S_havers_33 {c q : Int} : hy_Ct sc hm_S_havers 1 [.inr (some 33), .inl c, .inl q] t (hy_e (some (sp_hav (t 34) c q)) t) := by
  refine hy_mk_ct ok_S_havers ck_S_havers (Nat.le_of_ble_eq_true rfl) ?_
  refine hy_iload (i := 0) rfl rfl ?_
  refine hy_const (i := 1) rfl (by decide) ?_
  refine hy_cS2e (i := 2) rfl (by decide) mj_W_isAmong (by decide) rfl (Nat.le_of_ble_eq_true rfl) (c_W_isAmong) ?_
  refine hy_ib_eq (i := 3) (tt := 16) rfl (fun zc1 => ?_) (fun zc1 => ?_)
  · refine hy_const (i := 16) rfl (by decide) ?_
    refine hy_ireturn (i := 17) rfl rfl ?_
    exact ⟨congrArg some (by unfold sp_hav; first | (simp at zc1 zc2; split <;> first | rfl | omega) | (simp at zc1; split <;> first | rfl | omega)), rfl⟩
  · refine hy_iload (i := 4) rfl rfl ?_
    refine hy_cS1e (i := 5) rfl (by decide) mj_W_isQuarter (by decide) rfl (Nat.le_of_ble_eq_true rfl) (c_W_isQuarter) ?_
    refine hy_ib_eq (i := 6) (tt := 16) rfl (fun zc2 => ?_) (fun zc2 => ?_)
    · refine hy_const (i := 16) rfl (by decide) ?_
      refine hy_ireturn (i := 17) rfl rfl ?_
      exact ⟨congrArg some (by unfold sp_hav; first | (simp at zc1 zc2; split <;> first | rfl | omega) | (simp at zc1; split <;> first | rfl | omega)), rfl⟩
    · refine hy_aload (i := 7) rfl rfl ?_
      refine hy_getr (i := 8) rfl rfl ?_
      refine hy_const (i := 9) rfl (by decide) ?_
      refine hy_iload (i := 10) rfl rfl ?_
      refine hy_imul (i := 11) rfl (by simp at zc1 zc2; omega) ?_
      refine hy_iload (i := 12) rfl rfl ?_
      refine hy_iadd (i := 13) rfl (by simp at zc1 zc2; omega) ?_
      refine hy_iald (i := 14) rfl rfl (by simp at zc1 zc2; omega) rfl ?_
      refine hy_goto (i := 15) (tt := 17) rfl ?_
      refine hy_ireturn (i := 17) rfl rfl ?_
      exact ⟨congrArg some (by unfold sp_hav; first | (simp at zc1 zc2; split <;> first | rfl | omega) | (simp at zc1; split <;> first | rfl | omega)), rfl⟩
theorem c_S_setHavers_33 {c q v : Int} : hy_Ct sc hm_S_setHavers 1 [.inr (some 33), .inl c, .inl q, .inl v] t (hy_e none (sp_setH 33 t c q v)) := by
  refine hy_mk_ct ok_S_setHavers ck_S_setHavers (Nat.le_of_ble_eq_true rfl) ?_
  refine hy_iload (i := 0) rfl rfl ?_
  refine hy_const (i := 1) rfl (by decide) ?_
  refine hy_cS2e (i := 2) rfl (by decide) mj_W_isAmong (by decide) rfl (Nat.le_of_ble_eq_true rfl) (c_W_isAmong) ?_
  refine hy_ib_eq (i := 3) (tt := 16) rfl (fun zc1 => ?_) (fun zc1 => ?_)
  · refine hy_return (i := 16) rfl rfl ?_
    exact ⟨rfl, by unfold sp_setH; first | (simp at zc1 zc2; split <;> first | rfl | omega) | (simp at zc1; split <;> first | rfl | omega)⟩
  · refine hy_iload (i := 4) rfl rfl ?_
    refine hy_cS1e (i := 5) rfl (by decide) mj_W_isQuarter (by decide) rfl (Nat.le_of_ble_eq_true rfl) (c_W_isQuarter) ?_
    refine hy_ib_eq (i := 6) (tt := 16) rfl (fun zc2 => ?_) (fun zc2 => ?_)
    · refine hy_return (i := 16) rfl rfl ?_
      exact ⟨rfl, by unfold sp_setH; first | (simp at zc1 zc2; split <;> first | rfl | omega) | (simp at zc1; split <;> first | rfl | omega)⟩
    · refine hy_aload (i := 7) rfl rfl ?_
      refine hy_getr (i := 8) rfl rfl ?_
      refine hy_const (i := 9) rfl (by decide) ?_
      refine hy_iload (i := 10) rfl rfl ?_
      refine hy_imul (i := 11) rfl (by simp at zc1 zc2; omega) ?_
      refine hy_iload (i := 12) rfl rfl ?_
      refine hy_iadd (i := 13) rfl (by simp at zc1 zc2; omega) ?_
      refine hy_iload (i := 14) rfl rfl ?_
      refine hy_iast (i := 15) rfl rfl (by simp at zc1 zc2; omega) rfl ?_
      refine hy_return (i := 16) rfl rfl ?_
      exact ⟨rfl, by unfold sp_setH; first | (simp at zc1 zc2; split <;> first | rfl | omega) | (simp at zc1; split <;> first | rfl | omega)⟩
theorem c_S_had_33 {e q : Int} : hy_Ct sc hm_S_had 2 [.inr (some 33), .inl e, .inl q] t (hy_e (some (sp_hadN (t 34) e q 12)) t) := by
  refine hy_mk_ct ok_S_had ck_S_had (Nat.le_of_ble_eq_true rfl) ?_
  have loop : ∀ (n : Nat), ∀ (k : Nat), n + k = 12 → hy_W sc hm_S_had 2 4 [.inr (some 33), .inl e, .inl q, .inl (sp_hadN (t 34) e q k), .inl (k : Int)] [] t (hy_e (some (sp_hadN (t 34) e q 12)) t) := by
    intro n
    induction n with
    | zero =>
      intro k hk
      obtain rfl : k = 12 := by omega
      refine hy_iload (i := 4) rfl rfl ?_
      refine hy_const (i := 5) rfl (by decide) ?_
      refine hy_ic_ge (i := 6) (tt := 20) rfl (fun zc1 => ?_) (fun zc1 => ?_)
      · refine hy_iload (i := 20) rfl rfl ?_
        refine hy_ireturn (i := 21) rfl rfl ?_
        exact ⟨rfl, rfl⟩
      · omega
    | succ n ih =>
      intro k hk
      refine hy_iload (i := 4) rfl rfl ?_
      refine hy_const (i := 5) rfl (by decide) ?_
      refine hy_ic_ge (i := 6) (tt := 20) rfl (fun zc1 => ?_) (fun zc1 => ?_)
      · omega
      · refine hy_iload (i := 7) rfl rfl ?_
        refine hy_aload (i := 8) rfl rfl ?_
        refine hy_iload (i := 9) rfl rfl ?_
        refine hy_iload (i := 10) rfl rfl ?_
        refine hy_cV2e (i := 11) rfl mj_S_havers (by decide) rfl (Nat.le_of_ble_eq_true rfl) rfl rfl rfl (c_S_havers_33) ?_
        refine hy_iload (i := 12) rfl rfl ?_
        refine hy_cS2e (i := 13) rfl (by decide) mj_W_bit (by decide) rfl (Nat.le_of_ble_eq_true rfl) (c_W_bit) ?_
        refine hy_iload (i := 14) rfl rfl ?_
        refine hy_ishl (i := 15) rfl ?_
        refine hy_ior (i := 16) rfl ?_
        refine hy_istore (i := 17) rfl ?_
        refine hy_iinc (i := 18) rfl rfl (by omega) ?_
        refine hy_goto (i := 19) (tt := 4) rfl ?_
        exact ih (k + 1) (by omega)
  refine hy_const (i := 0) rfl (by decide) ?_
  refine hy_istore (i := 1) rfl ?_
  refine hy_const (i := 2) rfl (by decide) ?_
  refine hy_istore (i := 3) rfl ?_
  exact loop 12 0 rfl
def sp_qh33 (t : hy_T) (c : Int) : Nat → Int
  | 0 => 0
  | n + 1 => sp_qh33 t c n + sp_bc (sp_hav (t 34) c n)
theorem c_S_canGo_33 {c w g o : Int} : hy_Ct sc hm_S_canGo 2 [.inr (some 33), .inl c, .inl w, .inl g, .inl o] t (hy_e (some (hy_b (sp_canGo (t 34) c w g o))) t) := by
  refine hy_mk_ct ok_S_canGo ck_S_canGo (Nat.le_of_ble_eq_true rfl) ?_
  have loop : ∀ (n : Nat), ∀ (k : Nat) (z : hy_V), n + k = 4 → (∀ q : Nat, q < k → (hz_b w q && (!hz_b (sp_hav (t 34) c q) g || hz_b (sp_hav (t 34) c q) o)) = false) → hy_W sc hm_S_canGo 2 2 [.inr (some 33), .inl c, .inl w, .inl g, .inl o, .inl (k : Int), z] [] t (hy_e (some (hy_b (sp_canGo (t 34) c w g o))) t) := by
    intro n
    induction n with
    | zero =>
      intro k z hk hi
      obtain rfl : k = 4 := by omega
      refine hy_iload (i := 2) rfl rfl ?_
      refine hy_const (i := 3) rfl (by decide) ?_
      refine hy_ic_ge (i := 4) (tt := 28) rfl (fun zc1 => ?_) (fun zc1 => ?_)
      · refine hy_const (i := 28) rfl (by decide) ?_
        refine hy_zreturn (i := 29) rfl rfl (by first | decide | exact hy_b01 _) ?_
        exact ⟨congrArg some (by rw [show sp_canGo (t 34) c w g o = true from decide_eq_true hi]; rfl), rfl⟩
      · omega
    | succ n ih =>
      intro k z hk hi
      refine hy_iload (i := 2) rfl rfl ?_
      refine hy_const (i := 3) rfl (by decide) ?_
      refine hy_ic_ge (i := 4) (tt := 28) rfl (fun zc1 => ?_) (fun zc1 => ?_)
      · omega
      · refine hy_aload (i := 5) rfl rfl ?_
        refine hy_iload (i := 6) rfl rfl ?_
        refine hy_iload (i := 7) rfl rfl ?_
        refine hy_cV2e (i := 8) rfl mj_S_havers (by decide) rfl (Nat.le_of_ble_eq_true rfl) rfl rfl rfl (c_S_havers_33) ?_
        refine hy_istore (i := 9) rfl ?_
        refine hy_iload (i := 10) rfl rfl ?_
        refine hy_iload (i := 11) rfl rfl ?_
        refine hy_cS2e (i := 12) rfl (by decide) mj_W_bit (by decide) rfl (Nat.le_of_ble_eq_true rfl) (c_W_bit) ?_
        refine hy_const (i := 13) rfl (by decide) ?_
        refine hy_icb_ne (i := 14) (tt := 26) rfl (fun zc2 => ?_) (fun zc2 => ?_)
        · refine hy_iinc (i := 26) rfl rfl (by omega) ?_
          refine hy_goto (i := 27) (tt := 2) rfl ?_
          exact ih (k + 1) _ (by omega) (fun q hq => by rcases Nat.lt_succ_iff_lt_or_eq.mp hq with h | rfl; exact hi q h; simp_all)
        · refine hy_iload (i := 15) rfl rfl ?_
          refine hy_iload (i := 16) rfl rfl ?_
          refine hy_cS2e (i := 17) rfl (by decide) mj_W_bit (by decide) rfl (Nat.le_of_ble_eq_true rfl) (c_W_bit) ?_
          refine hy_ib_eq (i := 18) (tt := 24) rfl (fun zc3 => ?_) (fun zc3 => ?_)
          · refine hy_const (i := 24) rfl (by decide) ?_
            refine hy_zreturn (i := 25) rfl rfl (by first | decide | exact hy_b01 _) ?_
            exact ⟨congrArg some (by rw [show sp_canGo (t 34) c w g o = false from decide_eq_false (fun h => by have h1 := h k (by omega); simp_all)]; rfl), rfl⟩
          · refine hy_iload (i := 19) rfl rfl ?_
            refine hy_iload (i := 20) rfl rfl ?_
            refine hy_cS2e (i := 21) rfl (by decide) mj_W_bit (by decide) rfl (Nat.le_of_ble_eq_true rfl) (c_W_bit) ?_
            refine hy_const (i := 22) rfl (by decide) ?_
            refine hy_icb_ne (i := 23) (tt := 26) rfl (fun zc4 => ?_) (fun zc4 => ?_)
            · refine hy_iinc (i := 26) rfl rfl (by omega) ?_
              refine hy_goto (i := 27) (tt := 2) rfl ?_
              exact ih (k + 1) _ (by omega) (fun q hq => by rcases Nat.lt_succ_iff_lt_or_eq.mp hq with h | rfl; exact hi q h; simp_all)
            · refine hy_const (i := 24) rfl (by decide) ?_
              refine hy_zreturn (i := 25) rfl rfl (by first | decide | exact hy_b01 _) ?_
              exact ⟨congrArg some (by rw [show sp_canGo (t 34) c w g o = false from decide_eq_false (fun h => by have h1 := h k (by omega); simp_all)]; rfl), rfl⟩
  refine hy_const (i := 0) rfl (by decide) ?_
  refine hy_istore (i := 1) rfl ?_
  exact loop 4 0 _ rfl (fun q hq => by omega)
theorem c_S_move_33 {c w lo wi : Int} : hy_Ct sc hm_S_move 2 [.inr (some 33), .inl c, .inl w, .inl lo, .inl wi] t (hy_e none (sp_moveN 33 t c w lo wi 4)) := by
  refine hy_mk_ct ok_S_move ck_S_move (Nat.le_of_ble_eq_true rfl) ?_
  have loop : ∀ (n : Nat), ∀ (k : Nat) (t1 : hy_T) (z z2 : hy_V), n + k = 4 → t1 = sp_moveN 33 t c w lo wi k → hy_W sc hm_S_move 2 2 [.inr (some 33), .inl c, .inl w, .inl lo, .inl wi, .inl (k : Int), z, z2] [] t1 (hy_e none (sp_moveN 33 t c w lo wi 4)) := by
    intro n
    induction n with
    | zero =>
      intro k t1 z z2 hk ht
      obtain rfl : k = 4 := by omega
      refine hy_iload (i := 2) rfl rfl ?_
      refine hy_const (i := 3) rfl (by decide) ?_
      refine hy_ic_ge (i := 4) (tt := 39) rfl (fun zc1 => ?_) (fun zc1 => ?_)
      · refine hy_return (i := 39) rfl rfl ?_
        exact ⟨rfl, ht⟩
      · omega
    | succ n ih =>
      intro k t1 z z2 hk ht
      refine hy_iload (i := 2) rfl rfl ?_
      refine hy_const (i := 3) rfl (by decide) ?_
      refine hy_ic_ge (i := 4) (tt := 39) rfl (fun zc1 => ?_) (fun zc1 => ?_)
      · omega
      · refine hy_iload (i := 5) rfl rfl ?_
        refine hy_iload (i := 6) rfl rfl ?_
        refine hy_cS2e (i := 7) rfl (by decide) mj_W_bit (by decide) rfl (Nat.le_of_ble_eq_true rfl) (c_W_bit) ?_
        refine hy_const (i := 8) rfl (by decide) ?_
        refine hy_icb_ne (i := 9) (tt := 37) rfl (fun zc2 => ?_) (fun zc2 => ?_)
        · refine hy_iinc (i := 37) rfl rfl (by omega) ?_
          refine hy_goto (i := 38) (tt := 2) rfl ?_
          exact ih (k + 1) _ _ _ (by omega) (by subst ht; simp only [sp_moveN]; first | rw [if_pos zc2, if_pos zc3] | rw [if_pos zc2, if_neg zc3] | rw [if_neg (by rw [zc2]; decide)])
        · refine hy_aload (i := 10) rfl rfl ?_
          refine hy_iload (i := 11) rfl rfl ?_
          refine hy_iload (i := 12) rfl rfl ?_
          refine hy_cV2e (i := 13) rfl mj_S_havers (by decide) rfl (Nat.le_of_ble_eq_true rfl) rfl rfl rfl (c_S_havers_33) ?_
          refine hy_istore (i := 14) rfl ?_
          refine hy_iload (i := 15) rfl rfl ?_
          refine hy_const (i := 16) rfl (by decide) ?_
          refine hy_ic_ne (i := 17) (tt := 20) rfl (fun zc3 => ?_) (fun zc3 => ?_)
          · refine hy_iload (i := 20) rfl rfl ?_
            refine hy_const (i := 21) rfl (by decide) ?_
            refine hy_iload (i := 22) rfl rfl ?_
            refine hy_ishl (i := 23) rfl ?_
            refine hy_const (i := 24) rfl (by decide) ?_
            refine hy_ixor (i := 25) rfl ?_
            refine hy_iand (i := 26) rfl ?_
            refine hy_istore (i := 27) rfl ?_
            refine hy_aload (i := 28) rfl rfl ?_
            refine hy_iload (i := 29) rfl rfl ?_
            refine hy_iload (i := 30) rfl rfl ?_
            refine hy_iload (i := 31) rfl rfl ?_
            refine hy_const (i := 32) rfl (by decide) ?_
            refine hy_iload (i := 33) rfl rfl ?_
            refine hy_ishl (i := 34) rfl ?_
            refine hy_ior (i := 35) rfl ?_
            refine hy_cV3v (i := 36) rfl mj_S_setHavers (by decide) rfl (Nat.le_of_ble_eq_true rfl) rfl rfl rfl (c_S_setHavers_33) ?_
            refine hy_iinc (i := 37) rfl rfl (by omega) ?_
            refine hy_goto (i := 38) (tt := 2) rfl ?_
            exact ih (k + 1) _ _ _ (by omega) (by subst ht; simp only [sp_moveN]; first | rw [if_pos zc2, if_pos zc3] | rw [if_pos zc2, if_neg zc3] | rw [if_neg (by rw [zc2]; decide)])
          · refine hy_iload (i := 18) rfl rfl ?_
            refine hy_goto (i := 19) (tt := 27) rfl ?_
            refine hy_istore (i := 27) rfl ?_
            refine hy_aload (i := 28) rfl rfl ?_
            refine hy_iload (i := 29) rfl rfl ?_
            refine hy_iload (i := 30) rfl rfl ?_
            refine hy_iload (i := 31) rfl rfl ?_
            refine hy_const (i := 32) rfl (by decide) ?_
            refine hy_iload (i := 33) rfl rfl ?_
            refine hy_ishl (i := 34) rfl ?_
            refine hy_ior (i := 35) rfl ?_
            refine hy_cV3v (i := 36) rfl mj_S_setHavers (by decide) rfl (Nat.le_of_ble_eq_true rfl) rfl rfl rfl (c_S_setHavers_33) ?_
            refine hy_iinc (i := 37) rfl rfl (by omega) ?_
            refine hy_goto (i := 38) (tt := 2) rfl ?_
            exact ih (k + 1) _ _ _ (by omega) (by subst ht; simp only [sp_moveN]; first | rw [if_pos zc2, if_pos zc3] | rw [if_pos zc2, if_neg zc3] | rw [if_neg (by rw [zc2]; decide)])
  refine hy_const (i := 0) rfl (by decide) ?_
  refine hy_istore (i := 1) rfl ?_
  exact loop 4 0 _ _ _ rfl rfl
end ST33
section ST41
variable {sc : List Int32} {t : hy_T}
theorem c_S_ownerOf_41 {f : Int} : hy_Ct sc hm_S_ownerOf 1 [.inr (some 41), .inl f] t (hy_e (some (if 0 ≤ f ∧ f < 64 then t 43 f.toNat else 6)) t) := by
  refine hy_mk_ct ok_S_ownerOf ck_S_ownerOf (Nat.le_of_ble_eq_true rfl) ?_
  refine hy_iload (i := 0) rfl rfl ?_
  refine hy_const (i := 1) rfl (by decide) ?_
  refine hy_cS2e (i := 2) rfl (by decide) mj_W_isAmong (by decide) rfl (Nat.le_of_ble_eq_true rfl) (c_W_isAmong) ?_
  refine hy_ib_eq (i := 3) (tt := 9) rfl (fun zc1 => ?_) (fun zc1 => ?_)
  · refine hy_const (i := 9) rfl (by decide) ?_
    refine hy_ireturn (i := 10) rfl rfl ?_
    exact ⟨congrArg some (by simp at zc1; split <;> first | rfl | omega), rfl⟩
  · refine hy_aload (i := 4) rfl rfl ?_
    refine hy_getr (i := 5) rfl rfl ?_
    refine hy_iload (i := 6) rfl rfl ?_
    refine hy_iald (i := 7) rfl rfl (by simp at zc1; omega) rfl ?_
    refine hy_goto (i := 8) (tt := 10) rfl ?_
    refine hy_ireturn (i := 10) rfl rfl ?_
    exact ⟨congrArg some (by simp at zc1; split <;> first | rfl | omega), rfl⟩
theorem c_S_setOwner_41 {f v : Int} : hy_Ct sc hm_S_setOwner 1 [.inr (some 41), .inl f, .inl v] t (hy_e none (if 0 ≤ f ∧ f < 64 then hy_up t 43 f.toNat v else t)) := by
  refine hy_mk_ct ok_S_setOwner ck_S_setOwner (Nat.le_of_ble_eq_true rfl) ?_
  refine hy_iload (i := 0) rfl rfl ?_
  refine hy_const (i := 1) rfl (by decide) ?_
  refine hy_cS2e (i := 2) rfl (by decide) mj_W_isAmong (by decide) rfl (Nat.le_of_ble_eq_true rfl) (c_W_isAmong) ?_
  refine hy_ib_eq (i := 3) (tt := 9) rfl (fun zc1 => ?_) (fun zc1 => ?_)
  · refine hy_return (i := 9) rfl rfl ?_
    exact ⟨rfl, by simp at zc1; split <;> first | rfl | omega⟩
  · refine hy_aload (i := 4) rfl rfl ?_
    refine hy_getr (i := 5) rfl rfl ?_
    refine hy_iload (i := 6) rfl rfl ?_
    refine hy_iload (i := 7) rfl rfl ?_
    refine hy_iast (i := 8) rfl rfl (by simp at zc1; omega) rfl ?_
    refine hy_return (i := 9) rfl rfl ?_
    exact ⟨rfl, by simp at zc1; split <;> first | rfl | omega⟩
theorem c_S_havers_41 {c q : Int} : hy_Ct sc hm_S_havers 1 [.inr (some 41), .inl c, .inl q] t (hy_e (some (sp_hav (t 42) c q)) t) := by
  refine hy_mk_ct ok_S_havers ck_S_havers (Nat.le_of_ble_eq_true rfl) ?_
  refine hy_iload (i := 0) rfl rfl ?_
  refine hy_const (i := 1) rfl (by decide) ?_
  refine hy_cS2e (i := 2) rfl (by decide) mj_W_isAmong (by decide) rfl (Nat.le_of_ble_eq_true rfl) (c_W_isAmong) ?_
  refine hy_ib_eq (i := 3) (tt := 16) rfl (fun zc1 => ?_) (fun zc1 => ?_)
  · refine hy_const (i := 16) rfl (by decide) ?_
    refine hy_ireturn (i := 17) rfl rfl ?_
    exact ⟨congrArg some (by unfold sp_hav; first | (simp at zc1 zc2; split <;> first | rfl | omega) | (simp at zc1; split <;> first | rfl | omega)), rfl⟩
  · refine hy_iload (i := 4) rfl rfl ?_
    refine hy_cS1e (i := 5) rfl (by decide) mj_W_isQuarter (by decide) rfl (Nat.le_of_ble_eq_true rfl) (c_W_isQuarter) ?_
    refine hy_ib_eq (i := 6) (tt := 16) rfl (fun zc2 => ?_) (fun zc2 => ?_)
    · refine hy_const (i := 16) rfl (by decide) ?_
      refine hy_ireturn (i := 17) rfl rfl ?_
      exact ⟨congrArg some (by unfold sp_hav; first | (simp at zc1 zc2; split <;> first | rfl | omega) | (simp at zc1; split <;> first | rfl | omega)), rfl⟩
    · refine hy_aload (i := 7) rfl rfl ?_
      refine hy_getr (i := 8) rfl rfl ?_
      refine hy_const (i := 9) rfl (by decide) ?_
      refine hy_iload (i := 10) rfl rfl ?_
      refine hy_imul (i := 11) rfl (by simp at zc1 zc2; omega) ?_
      refine hy_iload (i := 12) rfl rfl ?_
      refine hy_iadd (i := 13) rfl (by simp at zc1 zc2; omega) ?_
      refine hy_iald (i := 14) rfl rfl (by simp at zc1 zc2; omega) rfl ?_
      refine hy_goto (i := 15) (tt := 17) rfl ?_
      refine hy_ireturn (i := 17) rfl rfl ?_
      exact ⟨congrArg some (by unfold sp_hav; first | (simp at zc1 zc2; split <;> first | rfl | omega) | (simp at zc1; split <;> first | rfl | omega)), rfl⟩
theorem c_S_setHavers_41 {c q v : Int} : hy_Ct sc hm_S_setHavers 1 [.inr (some 41), .inl c, .inl q, .inl v] t (hy_e none (sp_setH 41 t c q v)) := by
  refine hy_mk_ct ok_S_setHavers ck_S_setHavers (Nat.le_of_ble_eq_true rfl) ?_
  refine hy_iload (i := 0) rfl rfl ?_
  refine hy_const (i := 1) rfl (by decide) ?_
  refine hy_cS2e (i := 2) rfl (by decide) mj_W_isAmong (by decide) rfl (Nat.le_of_ble_eq_true rfl) (c_W_isAmong) ?_
  refine hy_ib_eq (i := 3) (tt := 16) rfl (fun zc1 => ?_) (fun zc1 => ?_)
  · refine hy_return (i := 16) rfl rfl ?_
    exact ⟨rfl, by unfold sp_setH; first | (simp at zc1 zc2; split <;> first | rfl | omega) | (simp at zc1; split <;> first | rfl | omega)⟩
  · refine hy_iload (i := 4) rfl rfl ?_
    refine hy_cS1e (i := 5) rfl (by decide) mj_W_isQuarter (by decide) rfl (Nat.le_of_ble_eq_true rfl) (c_W_isQuarter) ?_
    refine hy_ib_eq (i := 6) (tt := 16) rfl (fun zc2 => ?_) (fun zc2 => ?_)
    · refine hy_return (i := 16) rfl rfl ?_
      exact ⟨rfl, by unfold sp_setH; first | (simp at zc1 zc2; split <;> first | rfl | omega) | (simp at zc1; split <;> first | rfl | omega)⟩
    · refine hy_aload (i := 7) rfl rfl ?_
      refine hy_getr (i := 8) rfl rfl ?_
      refine hy_const (i := 9) rfl (by decide) ?_
      refine hy_iload (i := 10) rfl rfl ?_
      refine hy_imul (i := 11) rfl (by simp at zc1 zc2; omega) ?_
      refine hy_iload (i := 12) rfl rfl ?_
      refine hy_iadd (i := 13) rfl (by simp at zc1 zc2; omega) ?_
      refine hy_iload (i := 14) rfl rfl ?_
      refine hy_iast (i := 15) rfl rfl (by simp at zc1 zc2; omega) rfl ?_
      refine hy_return (i := 16) rfl rfl ?_
      exact ⟨rfl, by unfold sp_setH; first | (simp at zc1 zc2; split <;> first | rfl | omega) | (simp at zc1; split <;> first | rfl | omega)⟩
theorem c_S_had_41 {e q : Int} : hy_Ct sc hm_S_had 2 [.inr (some 41), .inl e, .inl q] t (hy_e (some (sp_hadN (t 42) e q 12)) t) := by
  refine hy_mk_ct ok_S_had ck_S_had (Nat.le_of_ble_eq_true rfl) ?_
  have loop : ∀ (n : Nat), ∀ (k : Nat), n + k = 12 → hy_W sc hm_S_had 2 4 [.inr (some 41), .inl e, .inl q, .inl (sp_hadN (t 42) e q k), .inl (k : Int)] [] t (hy_e (some (sp_hadN (t 42) e q 12)) t) := by
    intro n
    induction n with
    | zero =>
      intro k hk
      obtain rfl : k = 12 := by omega
      refine hy_iload (i := 4) rfl rfl ?_
      refine hy_const (i := 5) rfl (by decide) ?_
      refine hy_ic_ge (i := 6) (tt := 20) rfl (fun zc1 => ?_) (fun zc1 => ?_)
      · refine hy_iload (i := 20) rfl rfl ?_
        refine hy_ireturn (i := 21) rfl rfl ?_
        exact ⟨rfl, rfl⟩
      · omega
    | succ n ih =>
      intro k hk
      refine hy_iload (i := 4) rfl rfl ?_
      refine hy_const (i := 5) rfl (by decide) ?_
      refine hy_ic_ge (i := 6) (tt := 20) rfl (fun zc1 => ?_) (fun zc1 => ?_)
      · omega
      · refine hy_iload (i := 7) rfl rfl ?_
        refine hy_aload (i := 8) rfl rfl ?_
        refine hy_iload (i := 9) rfl rfl ?_
        refine hy_iload (i := 10) rfl rfl ?_
        refine hy_cV2e (i := 11) rfl mj_S_havers (by decide) rfl (Nat.le_of_ble_eq_true rfl) rfl rfl rfl (c_S_havers_41) ?_
        refine hy_iload (i := 12) rfl rfl ?_
        refine hy_cS2e (i := 13) rfl (by decide) mj_W_bit (by decide) rfl (Nat.le_of_ble_eq_true rfl) (c_W_bit) ?_
        refine hy_iload (i := 14) rfl rfl ?_
        refine hy_ishl (i := 15) rfl ?_
        refine hy_ior (i := 16) rfl ?_
        refine hy_istore (i := 17) rfl ?_
        refine hy_iinc (i := 18) rfl rfl (by omega) ?_
        refine hy_goto (i := 19) (tt := 4) rfl ?_
        exact ih (k + 1) (by omega)
  refine hy_const (i := 0) rfl (by decide) ?_
  refine hy_istore (i := 1) rfl ?_
  refine hy_const (i := 2) rfl (by decide) ?_
  refine hy_istore (i := 3) rfl ?_
  exact loop 12 0 rfl
def sp_qh41 (t : hy_T) (c : Int) : Nat → Int
  | 0 => 0
  | n + 1 => sp_qh41 t c n + sp_bc (sp_hav (t 42) c n)
theorem c_S_canGo_41 {c w g o : Int} : hy_Ct sc hm_S_canGo 2 [.inr (some 41), .inl c, .inl w, .inl g, .inl o] t (hy_e (some (hy_b (sp_canGo (t 42) c w g o))) t) := by
  refine hy_mk_ct ok_S_canGo ck_S_canGo (Nat.le_of_ble_eq_true rfl) ?_
  have loop : ∀ (n : Nat), ∀ (k : Nat) (z : hy_V), n + k = 4 → (∀ q : Nat, q < k → (hz_b w q && (!hz_b (sp_hav (t 42) c q) g || hz_b (sp_hav (t 42) c q) o)) = false) → hy_W sc hm_S_canGo 2 2 [.inr (some 41), .inl c, .inl w, .inl g, .inl o, .inl (k : Int), z] [] t (hy_e (some (hy_b (sp_canGo (t 42) c w g o))) t) := by
    intro n
    induction n with
    | zero =>
      intro k z hk hi
      obtain rfl : k = 4 := by omega
      refine hy_iload (i := 2) rfl rfl ?_
      refine hy_const (i := 3) rfl (by decide) ?_
      refine hy_ic_ge (i := 4) (tt := 28) rfl (fun zc1 => ?_) (fun zc1 => ?_)
      · refine hy_const (i := 28) rfl (by decide) ?_
        refine hy_zreturn (i := 29) rfl rfl (by first | decide | exact hy_b01 _) ?_
        exact ⟨congrArg some (by rw [show sp_canGo (t 42) c w g o = true from decide_eq_true hi]; rfl), rfl⟩
      · omega
    | succ n ih =>
      intro k z hk hi
      refine hy_iload (i := 2) rfl rfl ?_
      refine hy_const (i := 3) rfl (by decide) ?_
      refine hy_ic_ge (i := 4) (tt := 28) rfl (fun zc1 => ?_) (fun zc1 => ?_)
      · omega
      · refine hy_aload (i := 5) rfl rfl ?_
        refine hy_iload (i := 6) rfl rfl ?_
        refine hy_iload (i := 7) rfl rfl ?_
        refine hy_cV2e (i := 8) rfl mj_S_havers (by decide) rfl (Nat.le_of_ble_eq_true rfl) rfl rfl rfl (c_S_havers_41) ?_
        refine hy_istore (i := 9) rfl ?_
        refine hy_iload (i := 10) rfl rfl ?_
        refine hy_iload (i := 11) rfl rfl ?_
        refine hy_cS2e (i := 12) rfl (by decide) mj_W_bit (by decide) rfl (Nat.le_of_ble_eq_true rfl) (c_W_bit) ?_
        refine hy_const (i := 13) rfl (by decide) ?_
        refine hy_icb_ne (i := 14) (tt := 26) rfl (fun zc2 => ?_) (fun zc2 => ?_)
        · refine hy_iinc (i := 26) rfl rfl (by omega) ?_
          refine hy_goto (i := 27) (tt := 2) rfl ?_
          exact ih (k + 1) _ (by omega) (fun q hq => by rcases Nat.lt_succ_iff_lt_or_eq.mp hq with h | rfl; exact hi q h; simp_all)
        · refine hy_iload (i := 15) rfl rfl ?_
          refine hy_iload (i := 16) rfl rfl ?_
          refine hy_cS2e (i := 17) rfl (by decide) mj_W_bit (by decide) rfl (Nat.le_of_ble_eq_true rfl) (c_W_bit) ?_
          refine hy_ib_eq (i := 18) (tt := 24) rfl (fun zc3 => ?_) (fun zc3 => ?_)
          · refine hy_const (i := 24) rfl (by decide) ?_
            refine hy_zreturn (i := 25) rfl rfl (by first | decide | exact hy_b01 _) ?_
            exact ⟨congrArg some (by rw [show sp_canGo (t 42) c w g o = false from decide_eq_false (fun h => by have h1 := h k (by omega); simp_all)]; rfl), rfl⟩
          · refine hy_iload (i := 19) rfl rfl ?_
            refine hy_iload (i := 20) rfl rfl ?_
            refine hy_cS2e (i := 21) rfl (by decide) mj_W_bit (by decide) rfl (Nat.le_of_ble_eq_true rfl) (c_W_bit) ?_
            refine hy_const (i := 22) rfl (by decide) ?_
            refine hy_icb_ne (i := 23) (tt := 26) rfl (fun zc4 => ?_) (fun zc4 => ?_)
            · refine hy_iinc (i := 26) rfl rfl (by omega) ?_
              refine hy_goto (i := 27) (tt := 2) rfl ?_
              exact ih (k + 1) _ (by omega) (fun q hq => by rcases Nat.lt_succ_iff_lt_or_eq.mp hq with h | rfl; exact hi q h; simp_all)
            · refine hy_const (i := 24) rfl (by decide) ?_
              refine hy_zreturn (i := 25) rfl rfl (by first | decide | exact hy_b01 _) ?_
              exact ⟨congrArg some (by rw [show sp_canGo (t 42) c w g o = false from decide_eq_false (fun h => by have h1 := h k (by omega); simp_all)]; rfl), rfl⟩
  refine hy_const (i := 0) rfl (by decide) ?_
  refine hy_istore (i := 1) rfl ?_
  exact loop 4 0 _ rfl (fun q hq => by omega)
theorem c_S_move_41 {c w lo wi : Int} : hy_Ct sc hm_S_move 2 [.inr (some 41), .inl c, .inl w, .inl lo, .inl wi] t (hy_e none (sp_moveN 41 t c w lo wi 4)) := by
  refine hy_mk_ct ok_S_move ck_S_move (Nat.le_of_ble_eq_true rfl) ?_
  have loop : ∀ (n : Nat), ∀ (k : Nat) (t1 : hy_T) (z z2 : hy_V), n + k = 4 → t1 = sp_moveN 41 t c w lo wi k → hy_W sc hm_S_move 2 2 [.inr (some 41), .inl c, .inl w, .inl lo, .inl wi, .inl (k : Int), z, z2] [] t1 (hy_e none (sp_moveN 41 t c w lo wi 4)) := by
    intro n
    induction n with
    | zero =>
      intro k t1 z z2 hk ht
      obtain rfl : k = 4 := by omega
      refine hy_iload (i := 2) rfl rfl ?_
      refine hy_const (i := 3) rfl (by decide) ?_
      refine hy_ic_ge (i := 4) (tt := 39) rfl (fun zc1 => ?_) (fun zc1 => ?_)
      · refine hy_return (i := 39) rfl rfl ?_
        exact ⟨rfl, ht⟩
      · omega
    | succ n ih =>
      intro k t1 z z2 hk ht
      refine hy_iload (i := 2) rfl rfl ?_
      refine hy_const (i := 3) rfl (by decide) ?_
      refine hy_ic_ge (i := 4) (tt := 39) rfl (fun zc1 => ?_) (fun zc1 => ?_)
      · omega
      · refine hy_iload (i := 5) rfl rfl ?_
        refine hy_iload (i := 6) rfl rfl ?_
        refine hy_cS2e (i := 7) rfl (by decide) mj_W_bit (by decide) rfl (Nat.le_of_ble_eq_true rfl) (c_W_bit) ?_
        refine hy_const (i := 8) rfl (by decide) ?_
        refine hy_icb_ne (i := 9) (tt := 37) rfl (fun zc2 => ?_) (fun zc2 => ?_)
        · refine hy_iinc (i := 37) rfl rfl (by omega) ?_
          refine hy_goto (i := 38) (tt := 2) rfl ?_
          exact ih (k + 1) _ _ _ (by omega) (by subst ht; simp only [sp_moveN]; first | rw [if_pos zc2, if_pos zc3] | rw [if_pos zc2, if_neg zc3] | rw [if_neg (by rw [zc2]; decide)])
        · refine hy_aload (i := 10) rfl rfl ?_
          refine hy_iload (i := 11) rfl rfl ?_
          refine hy_iload (i := 12) rfl rfl ?_
          refine hy_cV2e (i := 13) rfl mj_S_havers (by decide) rfl (Nat.le_of_ble_eq_true rfl) rfl rfl rfl (c_S_havers_41) ?_
          refine hy_istore (i := 14) rfl ?_
          refine hy_iload (i := 15) rfl rfl ?_
          refine hy_const (i := 16) rfl (by decide) ?_
          refine hy_ic_ne (i := 17) (tt := 20) rfl (fun zc3 => ?_) (fun zc3 => ?_)
          · refine hy_iload (i := 20) rfl rfl ?_
            refine hy_const (i := 21) rfl (by decide) ?_
            refine hy_iload (i := 22) rfl rfl ?_
            refine hy_ishl (i := 23) rfl ?_
            refine hy_const (i := 24) rfl (by decide) ?_
            refine hy_ixor (i := 25) rfl ?_
            refine hy_iand (i := 26) rfl ?_
            refine hy_istore (i := 27) rfl ?_
            refine hy_aload (i := 28) rfl rfl ?_
            refine hy_iload (i := 29) rfl rfl ?_
            refine hy_iload (i := 30) rfl rfl ?_
            refine hy_iload (i := 31) rfl rfl ?_
            refine hy_const (i := 32) rfl (by decide) ?_
            refine hy_iload (i := 33) rfl rfl ?_
            refine hy_ishl (i := 34) rfl ?_
            refine hy_ior (i := 35) rfl ?_
            refine hy_cV3v (i := 36) rfl mj_S_setHavers (by decide) rfl (Nat.le_of_ble_eq_true rfl) rfl rfl rfl (c_S_setHavers_41) ?_
            refine hy_iinc (i := 37) rfl rfl (by omega) ?_
            refine hy_goto (i := 38) (tt := 2) rfl ?_
            exact ih (k + 1) _ _ _ (by omega) (by subst ht; simp only [sp_moveN]; first | rw [if_pos zc2, if_pos zc3] | rw [if_pos zc2, if_neg zc3] | rw [if_neg (by rw [zc2]; decide)])
          · refine hy_iload (i := 18) rfl rfl ?_
            refine hy_goto (i := 19) (tt := 27) rfl ?_
            refine hy_istore (i := 27) rfl ?_
            refine hy_aload (i := 28) rfl rfl ?_
            refine hy_iload (i := 29) rfl rfl ?_
            refine hy_iload (i := 30) rfl rfl ?_
            refine hy_iload (i := 31) rfl rfl ?_
            refine hy_const (i := 32) rfl (by decide) ?_
            refine hy_iload (i := 33) rfl rfl ?_
            refine hy_ishl (i := 34) rfl ?_
            refine hy_ior (i := 35) rfl ?_
            refine hy_cV3v (i := 36) rfl mj_S_setHavers (by decide) rfl (Nat.le_of_ble_eq_true rfl) rfl rfl rfl (c_S_setHavers_41) ?_
            refine hy_iinc (i := 37) rfl rfl (by omega) ?_
            refine hy_goto (i := 38) (tt := 2) rfl ?_
            exact ih (k + 1) _ _ _ (by omega) (by subst ht; simp only [sp_moveN]; first | rw [if_pos zc2, if_pos zc3] | rw [if_pos zc2, if_neg zc3] | rw [if_neg (by rw [zc2]; decide)])
  refine hy_const (i := 0) rfl (by decide) ?_
  refine hy_istore (i := 1) rfl ?_
  exact loop 4 0 _ _ _ rfl rfl
end ST41
/-! bits -/
theorem hb_nat {x : Int} (h : 0 ≤ x ∧ x ≤ 2147483647) : (Int32.ofInt x).toBitVec.toNat = x.toNat := by
  have h1 : Int32.ofInt x = nI x.toNat := by
    rw [← Int32.toInt_inj, hy_ti (by unfold hy_R; omega), nI_toInt (by omega)]
    omega
  rw [h1, pk_tn (by omega)]
theorem hb_int {y : Int32} {n : Nat} (h : y.toBitVec.toNat = n) (hn : n < 2147483648) : y.toInt = n := by
  show y.toBitVec.toInt = n
  rw [BitVec.toInt_eq_toNat_of_lt (by omega), h]
theorem hz_iand_n {x y : Int} (hx : 0 ≤ x ∧ x ≤ 2147483647) (hy : 0 ≤ y ∧ y ≤ 2147483647) : hz_iand x y = ((x.toNat &&& y.toNat : Nat) : Int) := by
  unfold hz_iand
  refine hb_int ?_ ?_
  · rw [Int32.toBitVec_and, BitVec.toNat_and, hb_nat hx, hb_nat hy]
  · have := @Nat.and_le_left x.toNat y.toNat
    omega
theorem hz_ior_n {x y : Int} (hx : 0 ≤ x ∧ x ≤ 2147483647) (hy : 0 ≤ y ∧ y ≤ 2147483647) : hz_ior x y = ((x.toNat ||| y.toNat : Nat) : Int) := by
  unfold hz_ior
  refine hb_int ?_ ?_
  · rw [Int32.toBitVec_or, BitVec.toNat_or, hb_nat hx, hb_nat hy]
  · have := @Nat.or_lt_two_pow x.toNat y.toNat 31 (by omega) (by omega)
    omega
theorem hz_ixor_n {x y : Int} (hx : 0 ≤ x ∧ x ≤ 2147483647) (hy : 0 ≤ y ∧ y ≤ 2147483647) : hz_ixor x y = ((x.toNat ^^^ y.toNat : Nat) : Int) := by
  unfold hz_ixor
  refine hb_int ?_ ?_
  · rw [Int32.toBitVec_xor, BitVec.toNat_xor, hb_nat hx, hb_nat hy]
  · have := @Nat.xor_lt_two_pow x.toNat y.toNat 31 (by omega) (by omega)
    omega
theorem hz_iand_le {x m : Int} (hm : 0 ≤ m ∧ m ≤ 2147483647) : 0 ≤ hz_iand x m ∧ hz_iand x m ≤ m := by
  have h : (Int32.ofInt x &&& Int32.ofInt m).toBitVec.toNat ≤ m.toNat := by
    rw [Int32.toBitVec_and, BitVec.toNat_and, hb_nat hm]
    exact Nat.and_le_right
  have e := hb_int (y := Int32.ofInt x &&& Int32.ofInt m) rfl (by omega)
  unfold hz_iand
  omega
theorem hz_iand_lel {x m : Int} (hm : 0 ≤ x ∧ x ≤ 2147483647) : 0 ≤ hz_iand x m ∧ hz_iand x m ≤ x := by
  have h : (Int32.ofInt x &&& Int32.ofInt m).toBitVec.toNat ≤ x.toNat := by
    rw [Int32.toBitVec_and, BitVec.toNat_and, hb_nat hm]
    exact Nat.and_le_left
  have e := hb_int (y := Int32.ofInt x &&& Int32.ofInt m) rfl (by omega)
  unfold hz_iand
  omega
/-- x without y -/
theorem hz_sub_n {x y : Int} (hx : 0 ≤ x ∧ x ≤ 2147483647) (hy : 0 ≤ y ∧ y ≤ 2147483647) : hz_iand x (hz_ixor y (-1)) = ((x.toNat ^^^ (x.toNat &&& y.toNat) : Nat) : Int) := by
  unfold hz_iand hz_ixor
  rw [hy_oi]
  have e : (Int32.ofInt x &&& (Int32.ofInt y ^^^ Int32.ofInt (-1))).toBitVec.toNat = x.toNat ^^^ (x.toNat &&& y.toNat) := by
    rw [Int32.toBitVec_and, Int32.toBitVec_xor, ← hb_nat hx, ← hb_nat hy, show (Int32.ofInt (-1)).toBitVec = BitVec.allOnes 32 from rfl]
    generalize (Int32.ofInt x).toBitVec = v
    generalize (Int32.ofInt y).toBitVec = w
    rw [← BitVec.toNat_and, ← BitVec.toNat_xor]
    congr 1
    ext i hi
    simp only [BitVec.getElem_and, BitVec.getElem_xor, BitVec.getElem_allOnes]
    cases v[i] <;> cases w[i] <;> rfl
  refine hb_int e ?_
  have h1 := @Nat.and_le_left x.toNat y.toNat
  have := @Nat.xor_lt_two_pow x.toNat (x.toNat &&& y.toNat) 31 (by omega) (by omega)
  omega
theorem hb_sh {k : Int} (hk : 0 ≤ k ∧ k ≤ 31) : ((Int32.ofInt k &&& 31).toBitVec.smod 32).toNat = k.toNat ∧ (((Int32.ofInt k).toUInt32 &&& Int32.toUInt32 31).toBitVec % 32).toNat = k.toNat := by
  have h : ∀ j : Nat, j < 32 → ((Int32.ofInt (j : Int) &&& 31).toBitVec.smod 32).toNat = j ∧ (((Int32.ofInt (j : Int)).toUInt32 &&& Int32.toUInt32 31).toBitVec % 32).toNat = j := by decide +kernel
  have h1 := h k.toNat (by omega)
  rw [show ((k.toNat : Nat) : Int) = k by omega] at h1
  exact h1
theorem hb_nI {x : Int} (h : 0 ≤ x ∧ x ≤ 2147483647) : Int32.ofInt x = nI x.toNat := by
  rw [← Int32.toInt_inj, hy_ti (by unfold hy_R; omega), nI_toInt (by omega)]
  omega
theorem hz_ishl_n {x k : Int} (hx : 0 ≤ x ∧ x ≤ 2147483647) (hk : 0 ≤ k ∧ k ≤ 31) (h : x.toNat * 2 ^ k.toNat < 2147483648) : hz_ishl x k = ((x.toNat * 2 ^ k.toNat : Nat) : Int) := by
  unfold hz_ishl
  rw [hb_nI hx, pk_shlN _ k.toNat (hb_sh hk).1 (by omega), nI_toInt (by omega)]
theorem hz_ishr_n {x k : Int} (hx : 0 ≤ x ∧ x ≤ 2147483647) (hk : 0 ≤ k ∧ k ≤ 31) : hz_ishr x k = ((x.toNat / 2 ^ k.toNat : Nat) : Int) := by
  unfold hz_ishr
  have h1 : x.toNat / 2 ^ k.toNat ≤ x.toNat := Nat.div_le_self _ _
  rw [hb_nI hx, pk_shrN (by omega) _ k.toNat (hb_sh hk).1, nI_toInt (by omega)]
theorem hz_iushr_n {x k : Int} (hx : 0 ≤ x ∧ x ≤ 2147483647) (hk : 0 ≤ k ∧ k ≤ 31) : hz_iushr x k = ((x.toNat / 2 ^ k.toNat : Nat) : Int) := by
  unfold hz_iushr
  have h1 : x.toNat / 2 ^ k.toNat ≤ x.toNat := Nat.div_le_self _ _
  rw [hb_nI hx, pk_ushrN (by omega) _ k.toNat (hb_sh hk).2, nI_toInt (by omega)]
theorem hz_b_n {x k : Int} (hx : 0 ≤ x ∧ x ≤ 2147483647) (hk : 0 ≤ k ∧ k ≤ 31) : hz_b x k = x.toNat.testBit k.toNat := by
  unfold hz_b
  have h1 : x.toNat / 2 ^ k.toNat ≤ x.toNat := Nat.div_le_self _ _
  rw [hz_ishr_n hx hk, Nat.testBit_eq_decide_div_mod_eq]
  generalize x.toNat / 2 ^ k.toNat = m at h1
  rw [hz_iand_n (by omega) (by decide)]
  rw [show (1 : Int).toNat = 1 from rfl, Int.toNat_natCast, Nat.and_one_is_mod]
  congr 1
  apply propext
  omega
theorem hz_one {k : Int} (hk : 0 ≤ k ∧ k ≤ 30) : hz_ishl 1 k = ((2 ^ k.toNat : Nat) : Int) ∧ 2 ^ k.toNat < 2147483648 := by
  have h1 : 2 ^ k.toNat ≤ 2 ^ 30 := Nat.pow_le_pow_right (by decide) (by omega)
  refine ⟨?_, by omega⟩
  rw [hz_ishl_n (by decide) (by omega) (by rw [show (1 : Int).toNat = 1 from rfl]; omega)]
  simp
/-- the bits of what has one bit more -/
theorem hz_set {x k : Int} (hx : 0 ≤ x ∧ x ≤ 2147483647) (hk : 0 ≤ k ∧ k ≤ 30) : hz_ior x (hz_ishl 1 k) = ((x.toNat ||| 2 ^ k.toNat : Nat) : Int) := by
  obtain ⟨h1, h2⟩ := hz_one hk
  rw [h1]
  generalize 2 ^ k.toNat = m at h2
  rw [hz_ior_n hx (by omega), Int.toNat_natCast]
theorem hz_bc_le (x : Int) : 0 ≤ sp_bc x ∧ sp_bc x ≤ 63 := by
  unfold sp_bc
  exact hz_iand_le (by decide)
def popc : Nat → Nat → Nat
  | 0, _ => 0
  | k + 1, n => n % 2 + popc k (n / 2)
theorem sp_bc_pop (n : Nat) (h : n < 4096) : sp_bc n = popc 12 n := by
  have h1 : ∀ a : Nat, a < 64 → ∀ b : Nat, b < 64 → sp_bc ((64 * a + b : Nat) : Int) = popc 12 (64 * a + b) := by decide +kernel
  have h2 := h1 (n / 64) (by omega) (n % 64) (by omega)
  rw [show 64 * (n / 64) + n % 64 = n by omega] at h2
  exact h2
/-! a war's state: treaties made, broken, copied -/
def sp_qh (hv : Nat → Int) (c : Int) : Nat → Int
  | 0 => 0
  | n + 1 => sp_qh hv c n + sp_bc (sp_hav hv c n)
theorem sp_qh_le (hv : Nat → Int) (c : Int) : ∀ n : Nat, 0 ≤ sp_qh hv c n ∧ sp_qh hv c n ≤ 63 * n
  | 0 => by simp [sp_qh]
  | n + 1 => by
    have h1 := sp_qh_le hv c n
    have h2 := hz_bc_le (sp_hav hv c n)
    simp only [sp_qh]
    omega
/-- treaties behind the place n move up by one, from place n on to m -/
def sp_shift (b : Nat) (t : hy_T) : Nat → Nat → hy_T
  | _, 0 => t
  | a, n + 1 => sp_shift b (hy_up t (b + 3) a (t (b + 3) (a + 6))) (a + 1) n
def sp_first (b : Nat) (t : hy_T) (i : Int) : hy_T := if t b 6 = -2 then
    let t1 := hy_up t b 6 (t b 4)
    hy_up t1 b 7 (sp_part b t1 i 2) else t
def sp_broken (b : Nat) (t : hy_T) (i : Int) : hy_T :=
  let t1 := sp_first b t i
  let t2 := sp_moveN b t1 (sp_part b t1 i 0) (sp_part b t1 i 1) (sp_part b t1 i 3) (sp_part b t1 i 2) 4
  let t3 := sp_shift b t2 (6 * i).toNat (6 * (t b 3 - 1) - 6 * i).toNat
  hy_up t3 b 3 (t b 3 - 1)
theorem sp_shift_F (b : Nat) : ∀ (n a : Nat) (t : hy_T), hy_F (fun r _ => r == b + 3) t (sp_shift b t a n)
  | 0, _, _ => hy_F.rf
  | n + 1, a, t => by
    have ih := sp_shift_F b n (a + 1) (hy_up t (b + 3) a (t (b + 3) (a + 6)))
    simp only [sp_shift]
    exact (hy_F.up hy_F.rf (by simp)).tr' ih
def sp_scopy (t : hy_T) (a b : Nat) : hy_T :=
  let t1 := hy_cp (hy_cp (hy_cp t (a + 1) (b + 1) 48) (a + 2) (b + 2) 64) (a + 3) (b + 3) 96
  let t2 := hy_up t1 b 3 (t1 a 3)
  let t3 := hy_up t2 b 4 (t2 a 4)
  hy_up t3 b 5 (t3 a 5)
section SV33
variable {sc : List Int32} {t : hy_T}
theorem c_S_part_33 {i w : Int} (hc : 0 ≤ t 33 3 ∧ t 33 3 ≤ 16) : hy_Ct sc hm_S_part 1 [.inr (some 33), .inl i, .inl w] t (hy_e (some (sp_part 33 t i w)) t) := by
  refine hy_mk_ct ok_S_part ck_S_part (Nat.le_of_ble_eq_true rfl) ?_
  refine hy_iload (i := 0) rfl rfl ?_
  refine hy_aload (i := 1) rfl rfl ?_
  refine hy_get (i := 2) (fk := 3) rfl rfl rfl ?_
  refine hy_cS2e (i := 3) rfl (by decide) mj_W_isAmong (by decide) rfl (Nat.le_of_ble_eq_true rfl) (c_W_isAmong) ?_
  refine hy_ib_eq (i := 4) (tt := 18) rfl (fun zc1 => ?_) (fun zc1 => ?_)
  · refine hy_const (i := 18) rfl (by decide) ?_
    refine hy_ireturn (i := 19) rfl rfl ?_
    exact ⟨congrArg some (by unfold sp_part; first | (simp at zc1 zc2; split <;> first | rfl | omega) | (simp at zc1; split <;> first | rfl | omega)), rfl⟩
  · refine hy_iload (i := 5) rfl rfl ?_
    refine hy_const (i := 6) rfl (by decide) ?_
    refine hy_cS2e (i := 7) rfl (by decide) mj_W_isAmong (by decide) rfl (Nat.le_of_ble_eq_true rfl) (c_W_isAmong) ?_
    refine hy_ib_eq (i := 8) (tt := 18) rfl (fun zc2 => ?_) (fun zc2 => ?_)
    · refine hy_const (i := 18) rfl (by decide) ?_
      refine hy_ireturn (i := 19) rfl rfl ?_
      exact ⟨congrArg some (by unfold sp_part; first | (simp at zc1 zc2; split <;> first | rfl | omega) | (simp at zc1; split <;> first | rfl | omega)), rfl⟩
    · refine hy_aload (i := 9) rfl rfl ?_
      refine hy_getr (i := 10) rfl rfl ?_
      refine hy_const (i := 11) rfl (by decide) ?_
      refine hy_iload (i := 12) rfl rfl ?_
      refine hy_imul (i := 13) rfl (by simp at zc1 zc2; omega) ?_
      refine hy_iload (i := 14) rfl rfl ?_
      refine hy_iadd (i := 15) rfl (by simp at zc1 zc2; omega) ?_
      refine hy_iald (i := 16) rfl rfl (by simp at zc1 zc2; omega) rfl ?_
      refine hy_goto (i := 17) (tt := 19) rfl ?_
      refine hy_ireturn (i := 19) rfl rfl ?_
      exact ⟨congrArg some (by unfold sp_part; first | (simp at zc1 zc2; split <;> first | rfl | omega) | (simp at zc1; split <;> first | rfl | omega)), rfl⟩
theorem c_S_quartersHad_33 {c : Int} : hy_Ct sc hm_S_quartersHad 2 [.inr (some 33), .inl c] t (hy_e (some (sp_qh (t 34) c 4)) t) := by
  refine hy_mk_ct ok_S_quartersHad ck_S_quartersHad (Nat.le_of_ble_eq_true rfl) ?_
  have loop : ∀ (n : Nat), ∀ (k : Nat), n + k = 4 → hy_W sc hm_S_quartersHad 2 4 [.inr (some 33), .inl c, .inl (sp_qh (t 34) c k), .inl (k : Int)] [] t (hy_e (some (sp_qh (t 34) c 4)) t) := by
    intro n
    induction n with
    | zero =>
      intro k hk
      obtain rfl : k = 4 := by omega
      refine hy_iload (i := 4) rfl rfl ?_
      refine hy_const (i := 5) rfl (by decide) ?_
      refine hy_ic_ge (i := 6) (tt := 17) rfl (fun zc1 => ?_) (fun zc1 => ?_)
      · refine hy_iload (i := 17) rfl rfl ?_
        refine hy_ireturn (i := 18) rfl rfl ?_
        exact ⟨rfl, rfl⟩
      · omega
    | succ n ih =>
      intro k hk
      have h1 := sp_qh_le (t 34) c k
      have h2 := hz_bc_le (sp_hav (t 34) c k)
      refine hy_iload (i := 4) rfl rfl ?_
      refine hy_const (i := 5) rfl (by decide) ?_
      refine hy_ic_ge (i := 6) (tt := 17) rfl (fun zc1 => ?_) (fun zc1 => ?_)
      · omega
      · refine hy_iload (i := 7) rfl rfl ?_
        refine hy_aload (i := 8) rfl rfl ?_
        refine hy_iload (i := 9) rfl rfl ?_
        refine hy_iload (i := 10) rfl rfl ?_
        refine hy_cV2e (i := 11) rfl mj_S_havers (by decide) rfl (Nat.le_of_ble_eq_true rfl) rfl rfl rfl (c_S_havers_33) ?_
        refine hy_cS1e (i := 12) rfl (by decide) mj_J_bitCount (by decide) rfl (Nat.le_of_ble_eq_true rfl) (c_J_bitCount) ?_
        refine hy_iadd (i := 13) rfl (by omega) ?_
        refine hy_istore (i := 14) rfl ?_
        refine hy_iinc (i := 15) rfl rfl (by omega) ?_
        refine hy_goto (i := 16) (tt := 4) rfl ?_
        exact ih (k + 1) (by omega)
  refine hy_const (i := 0) rfl (by decide) ?_
  refine hy_istore (i := 1) rfl ?_
  refine hy_const (i := 2) rfl (by decide) ?_
  refine hy_istore (i := 3) rfl ?_
  exact loop 4 0 rfl
theorem c_S_isMade_33 {c w g o s : Int} (hc : 0 ≤ t 33 3 ∧ t 33 3 ≤ 16) (hs : s = 0 ∨ s = 1) : hy_Ct sc hm_S_isMade 3 [.inr (some 33), .inl c, .inl w, .inl g, .inl o, .inl s] t (hy_e (some (hy_b (decide (t 33 3 < 16) && sp_canGo (t 34) c w g o))) (if (decide (t 33 3 < 16) && sp_canGo (t 34) c w g o) = true then sp_made 33 t c w g o s else t)) := by
  rcases hs with rfl | rfl
  · refine hy_mk_ct ok_S_isMade ck_S_isMade (Nat.le_of_ble_eq_true rfl) ?_
    have hF := sp_moveN_F 33 t c w g o 4
    have hF3 : sp_moveN 33 t c w g o 4 33 3 = t 33 3 := hF 33 3 rfl
    have hF4 : sp_moveN 33 t c w g o 4 33 4 = t 33 4 := hF 33 4 rfl
    refine hy_aload (i := 0) rfl rfl ?_
    refine hy_get (i := 1) (fk := 3) rfl rfl rfl ?_
    refine hy_const (i := 2) rfl (by decide) ?_
    refine hy_ic_ge (i := 3) (tt := 11) rfl (fun zc1 => ?_) (fun zc1 => ?_)
    · refine hy_const (i := 11) rfl (by decide) ?_
      refine hy_zreturn (i := 12) rfl rfl (by first | decide | exact hy_b01 _) ?_
      exact ⟨congrArg some (by rw [show decide (t 33 3 < 16) = false from decide_eq_false (by omega)]; rfl), by rw [show decide (t 33 3 < 16) = false from decide_eq_false (by omega)]; rfl⟩
    · refine hy_aload (i := 4) rfl rfl ?_
      refine hy_iload (i := 5) rfl rfl ?_
      refine hy_iload (i := 6) rfl rfl ?_
      refine hy_iload (i := 7) rfl rfl ?_
      refine hy_iload (i := 8) rfl rfl ?_
      refine hy_cV4e (i := 9) rfl mj_S_canGo (by decide) rfl (Nat.le_of_ble_eq_true rfl) rfl rfl rfl (c_S_canGo_33) ?_
      refine hy_ib_ne (i := 10) (tt := 13) rfl (fun zc2 => ?_) (fun zc2 => ?_)
      · refine hy_aload (i := 13) rfl rfl ?_
        refine hy_iload (i := 14) rfl rfl ?_
        refine hy_iload (i := 15) rfl rfl ?_
        refine hy_iload (i := 16) rfl rfl ?_
        refine hy_if_eq (i := 17) (tt := 20) rfl (fun zc3 => ?_) (fun zc3 => ?_)
        · refine hy_iload (i := 20) rfl rfl ?_
          refine hy_iload (i := 21) rfl rfl ?_
          refine hy_cV4v (i := 22) rfl mj_S_move (by decide) rfl (Nat.le_of_ble_eq_true rfl) rfl rfl rfl (c_S_move_33) ?_
          refine hy_const (i := 23) rfl (by decide) ?_
          refine hy_aload (i := 24) rfl rfl ?_
          refine hy_get (i := 25) (fk := 3) rfl rfl rfl ?_
          rw [hF3]
          refine hy_imul (i := 26) rfl (by omega) ?_
          refine hy_istore (i := 27) rfl ?_
          refine hy_aload (i := 28) rfl rfl ?_
          refine hy_getr (i := 29) rfl rfl ?_
          refine hy_iload (i := 30) rfl rfl ?_
          refine hy_iload (i := 31) rfl rfl ?_
          refine hy_iast (i := 32) rfl rfl (by omega) (k := (6 * t 33 3).toNat) (by omega) ?_
          refine hy_aload (i := 33) rfl rfl ?_
          refine hy_getr (i := 34) rfl rfl ?_
          refine hy_iload (i := 35) rfl rfl ?_
          refine hy_const (i := 36) rfl (by decide) ?_
          refine hy_iadd (i := 37) rfl (by omega) ?_
          refine hy_iload (i := 38) rfl rfl ?_
          refine hy_iast (i := 39) rfl rfl (by omega) (k := (6 * t 33 3).toNat + 1) (by omega) ?_
          refine hy_aload (i := 40) rfl rfl ?_
          refine hy_getr (i := 41) rfl rfl ?_
          refine hy_iload (i := 42) rfl rfl ?_
          refine hy_const (i := 43) rfl (by decide) ?_
          refine hy_iadd (i := 44) rfl (by omega) ?_
          refine hy_iload (i := 45) rfl rfl ?_
          refine hy_iast (i := 46) rfl rfl (by omega) (k := (6 * t 33 3).toNat + 2) (by omega) ?_
          refine hy_aload (i := 47) rfl rfl ?_
          refine hy_getr (i := 48) rfl rfl ?_
          refine hy_iload (i := 49) rfl rfl ?_
          refine hy_const (i := 50) rfl (by decide) ?_
          refine hy_iadd (i := 51) rfl (by omega) ?_
          refine hy_iload (i := 52) rfl rfl ?_
          refine hy_iast (i := 53) rfl rfl (by omega) (k := (6 * t 33 3).toNat + 3) (by omega) ?_
          refine hy_aload (i := 54) rfl rfl ?_
          refine hy_getr (i := 55) rfl rfl ?_
          refine hy_iload (i := 56) rfl rfl ?_
          refine hy_const (i := 57) rfl (by decide) ?_
          refine hy_iadd (i := 58) rfl (by omega) ?_
          refine hy_iload (i := 59) rfl rfl ?_
          refine hy_if_eq (i := 60) (tt := 63) rfl (fun zc4 => ?_) (fun zc4 => ?_)
          · refine hy_const (i := 63) rfl (by decide) ?_
            refine hy_iast (i := 64) rfl rfl (by omega) (k := (6 * t 33 3).toNat + 4) (by omega) ?_
            refine hy_aload (i := 65) rfl rfl ?_
            refine hy_getr (i := 66) rfl rfl ?_
            refine hy_iload (i := 67) rfl rfl ?_
            refine hy_const (i := 68) rfl (by decide) ?_
            refine hy_iadd (i := 69) rfl (by omega) ?_
            refine hy_aload (i := 70) rfl rfl ?_
            refine hy_get (i := 71) (fk := 4) rfl rfl rfl ?_
            refine hy_iast (i := 72) rfl rfl (by omega) (k := (6 * t 33 3).toNat + 5) (by omega) ?_
            refine hy_aload (i := 73) rfl rfl ?_
            refine hy_dup (i := 74) rfl ?_
            refine hy_get (i := 75) (fk := 3) rfl rfl rfl ?_
            refine hy_const (i := 76) rfl (by decide) ?_
            refine hy_iadd (i := 77) rfl (by simp only [hy_up]; simp [hF3]; omega) ?_
            refine hy_put (i := 78) (fk := 3) rfl rfl rfl rfl ?_
            refine hy_const (i := 79) rfl (by decide) ?_
            refine hy_zreturn (i := 80) rfl rfl (by first | decide | exact hy_b01 _) ?_
            refine ⟨congrArg some (by rw [show decide (t 33 3 < 16) = true from decide_eq_true (by omega), zc2]; rfl), ?_⟩
            rw [show decide (t 33 3 < 16) = true from decide_eq_true (by omega), zc2]
            simp only [sp_made, sp_lay, if_true, Bool.and_self]
            simp [hy_up, hF3, hF4]
          · omega
        · omega
      · refine hy_const (i := 11) rfl (by decide) ?_
        refine hy_zreturn (i := 12) rfl rfl (by first | decide | exact hy_b01 _) ?_
        exact ⟨congrArg some (by rw [zc2, Bool.and_false]; rfl), by rw [zc2, Bool.and_false]; rfl⟩
  · refine hy_mk_ct ok_S_isMade ck_S_isMade (Nat.le_of_ble_eq_true rfl) ?_
    have hF := sp_moveN_F 33 t c w (-1) o 4
    have hF3 : sp_moveN 33 t c w (-1) o 4 33 3 = t 33 3 := hF 33 3 rfl
    have hF4 : sp_moveN 33 t c w (-1) o 4 33 4 = t 33 4 := hF 33 4 rfl
    refine hy_aload (i := 0) rfl rfl ?_
    refine hy_get (i := 1) (fk := 3) rfl rfl rfl ?_
    refine hy_const (i := 2) rfl (by decide) ?_
    refine hy_ic_ge (i := 3) (tt := 11) rfl (fun zc1 => ?_) (fun zc1 => ?_)
    · refine hy_const (i := 11) rfl (by decide) ?_
      refine hy_zreturn (i := 12) rfl rfl (by first | decide | exact hy_b01 _) ?_
      exact ⟨congrArg some (by rw [show decide (t 33 3 < 16) = false from decide_eq_false (by omega)]; rfl), by rw [show decide (t 33 3 < 16) = false from decide_eq_false (by omega)]; rfl⟩
    · refine hy_aload (i := 4) rfl rfl ?_
      refine hy_iload (i := 5) rfl rfl ?_
      refine hy_iload (i := 6) rfl rfl ?_
      refine hy_iload (i := 7) rfl rfl ?_
      refine hy_iload (i := 8) rfl rfl ?_
      refine hy_cV4e (i := 9) rfl mj_S_canGo (by decide) rfl (Nat.le_of_ble_eq_true rfl) rfl rfl rfl (c_S_canGo_33) ?_
      refine hy_ib_ne (i := 10) (tt := 13) rfl (fun zc2 => ?_) (fun zc2 => ?_)
      · refine hy_aload (i := 13) rfl rfl ?_
        refine hy_iload (i := 14) rfl rfl ?_
        refine hy_iload (i := 15) rfl rfl ?_
        refine hy_iload (i := 16) rfl rfl ?_
        refine hy_if_eq (i := 17) (tt := 20) rfl (fun zc3 => ?_) (fun zc3 => ?_)
        · omega
        · refine hy_const (i := 18) rfl (by decide) ?_
          refine hy_goto (i := 19) (tt := 21) rfl ?_
          refine hy_iload (i := 21) rfl rfl ?_
          refine hy_cV4v (i := 22) rfl mj_S_move (by decide) rfl (Nat.le_of_ble_eq_true rfl) rfl rfl rfl (c_S_move_33) ?_
          refine hy_const (i := 23) rfl (by decide) ?_
          refine hy_aload (i := 24) rfl rfl ?_
          refine hy_get (i := 25) (fk := 3) rfl rfl rfl ?_
          rw [hF3]
          refine hy_imul (i := 26) rfl (by omega) ?_
          refine hy_istore (i := 27) rfl ?_
          refine hy_aload (i := 28) rfl rfl ?_
          refine hy_getr (i := 29) rfl rfl ?_
          refine hy_iload (i := 30) rfl rfl ?_
          refine hy_iload (i := 31) rfl rfl ?_
          refine hy_iast (i := 32) rfl rfl (by omega) (k := (6 * t 33 3).toNat) (by omega) ?_
          refine hy_aload (i := 33) rfl rfl ?_
          refine hy_getr (i := 34) rfl rfl ?_
          refine hy_iload (i := 35) rfl rfl ?_
          refine hy_const (i := 36) rfl (by decide) ?_
          refine hy_iadd (i := 37) rfl (by omega) ?_
          refine hy_iload (i := 38) rfl rfl ?_
          refine hy_iast (i := 39) rfl rfl (by omega) (k := (6 * t 33 3).toNat + 1) (by omega) ?_
          refine hy_aload (i := 40) rfl rfl ?_
          refine hy_getr (i := 41) rfl rfl ?_
          refine hy_iload (i := 42) rfl rfl ?_
          refine hy_const (i := 43) rfl (by decide) ?_
          refine hy_iadd (i := 44) rfl (by omega) ?_
          refine hy_iload (i := 45) rfl rfl ?_
          refine hy_iast (i := 46) rfl rfl (by omega) (k := (6 * t 33 3).toNat + 2) (by omega) ?_
          refine hy_aload (i := 47) rfl rfl ?_
          refine hy_getr (i := 48) rfl rfl ?_
          refine hy_iload (i := 49) rfl rfl ?_
          refine hy_const (i := 50) rfl (by decide) ?_
          refine hy_iadd (i := 51) rfl (by omega) ?_
          refine hy_iload (i := 52) rfl rfl ?_
          refine hy_iast (i := 53) rfl rfl (by omega) (k := (6 * t 33 3).toNat + 3) (by omega) ?_
          refine hy_aload (i := 54) rfl rfl ?_
          refine hy_getr (i := 55) rfl rfl ?_
          refine hy_iload (i := 56) rfl rfl ?_
          refine hy_const (i := 57) rfl (by decide) ?_
          refine hy_iadd (i := 58) rfl (by omega) ?_
          refine hy_iload (i := 59) rfl rfl ?_
          refine hy_if_eq (i := 60) (tt := 63) rfl (fun zc4 => ?_) (fun zc4 => ?_)
          · omega
          · refine hy_const (i := 61) rfl (by decide) ?_
            refine hy_goto (i := 62) (tt := 64) rfl ?_
            refine hy_iast (i := 64) rfl rfl (by omega) (k := (6 * t 33 3).toNat + 4) (by omega) ?_
            refine hy_aload (i := 65) rfl rfl ?_
            refine hy_getr (i := 66) rfl rfl ?_
            refine hy_iload (i := 67) rfl rfl ?_
            refine hy_const (i := 68) rfl (by decide) ?_
            refine hy_iadd (i := 69) rfl (by omega) ?_
            refine hy_aload (i := 70) rfl rfl ?_
            refine hy_get (i := 71) (fk := 4) rfl rfl rfl ?_
            refine hy_iast (i := 72) rfl rfl (by omega) (k := (6 * t 33 3).toNat + 5) (by omega) ?_
            refine hy_aload (i := 73) rfl rfl ?_
            refine hy_dup (i := 74) rfl ?_
            refine hy_get (i := 75) (fk := 3) rfl rfl rfl ?_
            refine hy_const (i := 76) rfl (by decide) ?_
            refine hy_iadd (i := 77) rfl (by simp only [hy_up]; simp [hF3]; omega) ?_
            refine hy_put (i := 78) (fk := 3) rfl rfl rfl rfl ?_
            refine hy_const (i := 79) rfl (by decide) ?_
            refine hy_zreturn (i := 80) rfl rfl (by first | decide | exact hy_b01 _) ?_
            refine ⟨congrArg some (by rw [show decide (t 33 3 < 16) = true from decide_eq_true (by omega), zc2]; rfl), ?_⟩
            rw [show decide (t 33 3 < 16) = true from decide_eq_true (by omega), zc2]
            simp only [sp_made, sp_lay, if_true, Bool.and_self]
            simp [hy_up, hF3, hF4]
      · refine hy_const (i := 11) rfl (by decide) ?_
        refine hy_zreturn (i := 12) rfl rfl (by first | decide | exact hy_b01 _) ?_
        exact ⟨congrArg some (by rw [zc2, Bool.and_false]; rfl), by rw [zc2, Bool.and_false]; rfl⟩
theorem sp_first_F33 {i : Int} : hy_F (fun r j => r == 33 && (j == 6 || j == 7)) t (sp_first 33 t i) := by
  unfold sp_first
  split
  · exact (hy_F.rf.up (by rfl)).up (by rfl)
  · exact hy_F.rf
theorem c_S_breakTreaty_33 {i : Int} (hc : 0 ≤ t 33 3 ∧ t 33 3 ≤ 16) (hi : 0 ≤ i ∧ i < t 33 3) : hy_Ct sc hm_S_breakTreaty 3 [.inr (some 33), .inl i] t (hy_e none (sp_broken 33 t i)) := by
  refine hy_mk_ct ok_S_breakTreaty ck_S_breakTreaty (Nat.le_of_ble_eq_true rfl) ?_
  have hF := sp_first_F33 (t := t) (i := i)
  have hF3 : sp_first 33 t i 33 3 = t 33 3 := hF 33 3 rfl
  have hFc : 0 ≤ sp_first 33 t i 33 3 ∧ sp_first 33 t i 33 3 ≤ 16 := by rw [hF3]; exact hc
  have loop : ∀ (n : Nat), ∀ (a : Nat) (t1 : hy_T), n + a = (6 * (t 33 3 - 1)).toNat → t1 33 3 = t 33 3 → hy_W sc hm_S_breakTreaty 3 36 [.inr (some 33), .inl i, .inl (a : Int)] [] t1 (hy_e none (hy_up (sp_shift 33 t1 a n) 33 3 (t 33 3 - 1))) := by
    intro n
    induction n with
    | zero =>
      intro a t1 hn h3
      refine hy_iload (i := 36) rfl rfl ?_
      refine hy_const (i := 37) rfl (by decide) ?_
      refine hy_aload (i := 38) rfl rfl ?_
      refine hy_get (i := 39) (fk := 3) rfl rfl rfl ?_
      rw [h3]
      refine hy_const (i := 40) rfl (by decide) ?_
      refine hy_isub (i := 41) rfl (by omega) ?_
      refine hy_imul (i := 42) rfl (by omega) ?_
      refine hy_ic_ge (i := 43) (tt := 56) rfl (fun zc1 => ?_) (fun zc1 => ?_)
      · refine hy_aload (i := 56) rfl rfl ?_
        refine hy_dup (i := 57) rfl ?_
        refine hy_get (i := 58) (fk := 3) rfl rfl rfl ?_
        rw [h3]
        refine hy_const (i := 59) rfl (by decide) ?_
        refine hy_isub (i := 60) rfl (by omega) ?_
        refine hy_put (i := 61) (fk := 3) rfl rfl rfl rfl ?_
        refine hy_return (i := 62) rfl rfl ?_
        exact ⟨rfl, rfl⟩
      · omega
    | succ n ih =>
      intro a t1 hn h3
      refine hy_iload (i := 36) rfl rfl ?_
      refine hy_const (i := 37) rfl (by decide) ?_
      refine hy_aload (i := 38) rfl rfl ?_
      refine hy_get (i := 39) (fk := 3) rfl rfl rfl ?_
      rw [h3]
      refine hy_const (i := 40) rfl (by decide) ?_
      refine hy_isub (i := 41) rfl (by omega) ?_
      refine hy_imul (i := 42) rfl (by omega) ?_
      refine hy_ic_ge (i := 43) (tt := 56) rfl (fun zc1 => ?_) (fun zc1 => ?_)
      · omega
      · refine hy_aload (i := 44) rfl rfl ?_
        refine hy_getr (i := 45) rfl rfl ?_
        refine hy_iload (i := 46) rfl rfl ?_
        refine hy_aload (i := 47) rfl rfl ?_
        refine hy_getr (i := 48) rfl rfl ?_
        refine hy_iload (i := 49) rfl rfl ?_
        refine hy_const (i := 50) rfl (by decide) ?_
        refine hy_iadd (i := 51) rfl (by omega) ?_
        refine hy_iald (i := 52) rfl rfl (by omega) (k := a + 6) (by omega) ?_
        refine hy_iast (i := 53) rfl rfl (by omega) (k := a) (by omega) ?_
        refine hy_iinc (i := 54) rfl rfl (by omega) ?_
        refine hy_goto (i := 55) (tt := 36) rfl ?_
        exact ih (a + 1) _ (by omega) h3
  have go : ∀ t1 : hy_T, t1 = sp_first 33 t i → t1 33 3 = t 33 3 → (0 ≤ t1 33 3 ∧ t1 33 3 ≤ 16) → hy_W sc hm_S_breakTreaty 3 14 [.inr (some 33), .inl i, .inr none] [] t1 (hy_e none (sp_broken 33 t i)) := by
    intro t1 ht h3 hc1
    have hM : sp_moveN 33 t1 (sp_part 33 t1 i 0) (sp_part 33 t1 i 1) (sp_part 33 t1 i 3) (sp_part 33 t1 i 2) 4 33 3 = t 33 3 := (sp_moveN_F 33 t1 _ _ _ _ 4 33 3 rfl).trans h3
    refine hy_aload (i := 14) rfl rfl ?_
    refine hy_aload (i := 15) rfl rfl ?_
    refine hy_iload (i := 16) rfl rfl ?_
    refine hy_const (i := 17) rfl (by decide) ?_
    refine hy_cV2e (i := 18) rfl mj_S_part (by decide) rfl (Nat.le_of_ble_eq_true rfl) rfl rfl rfl (c_S_part_33 (by assumption)) ?_
    refine hy_aload (i := 19) rfl rfl ?_
    refine hy_iload (i := 20) rfl rfl ?_
    refine hy_const (i := 21) rfl (by decide) ?_
    refine hy_cV2e (i := 22) rfl mj_S_part (by decide) rfl (Nat.le_of_ble_eq_true rfl) rfl rfl rfl (c_S_part_33 (by assumption)) ?_
    refine hy_aload (i := 23) rfl rfl ?_
    refine hy_iload (i := 24) rfl rfl ?_
    refine hy_const (i := 25) rfl (by decide) ?_
    refine hy_cV2e (i := 26) rfl mj_S_part (by decide) rfl (Nat.le_of_ble_eq_true rfl) rfl rfl rfl (c_S_part_33 (by assumption)) ?_
    refine hy_aload (i := 27) rfl rfl ?_
    refine hy_iload (i := 28) rfl rfl ?_
    refine hy_const (i := 29) rfl (by decide) ?_
    refine hy_cV2e (i := 30) rfl mj_S_part (by decide) rfl (Nat.le_of_ble_eq_true rfl) rfl rfl rfl (c_S_part_33 (by assumption)) ?_
    refine hy_cV4v (i := 31) rfl mj_S_move (by decide) rfl (Nat.le_of_ble_eq_true rfl) rfl rfl rfl (c_S_move_33) ?_
    refine hy_const (i := 32) rfl (by decide) ?_
    refine hy_iload (i := 33) rfl rfl ?_
    refine hy_imul (i := 34) rfl (by omega) ?_
    refine hy_istore (i := 35) rfl ?_
    have h := loop (6 * (t 33 3 - 1) - 6 * i).toNat (6 * i).toNat _ (by omega) hM
    rw [show (((6 * i).toNat : Nat) : Int) = 6 * i by omega] at h
    refine hy_W.mono h (fun r t' hq => ?_)
    obtain ⟨h1, h2⟩ := hq
    exact ⟨h1, by rw [h2]; simp only [sp_broken, ← ht]⟩
  refine hy_aload (i := 0) rfl rfl ?_
  refine hy_get (i := 1) (fk := 6) rfl rfl rfl ?_
  refine hy_const (i := 2) rfl (by decide) ?_
  refine hy_ic_ne (i := 3) (tt := 14) rfl (fun zc1 => ?_) (fun zc1 => ?_)
  · first | exact go _ (by unfold sp_first; rw [if_pos zc1]) rfl hc | exact go _ (by unfold sp_first; rw [if_pos zc1]; rfl) rfl hc | exact go _ (by unfold sp_first; rw [if_neg zc1]) rfl hc
  · refine hy_aload (i := 4) rfl rfl ?_
    refine hy_aload (i := 5) rfl rfl ?_
    refine hy_get (i := 6) (fk := 4) rfl rfl rfl ?_
    refine hy_put (i := 7) (fk := 6) rfl rfl rfl rfl ?_
    refine hy_aload (i := 8) rfl rfl ?_
    refine hy_aload (i := 9) rfl rfl ?_
    refine hy_iload (i := 10) rfl rfl ?_
    refine hy_const (i := 11) rfl (by decide) ?_
    refine hy_cV2e (i := 12) rfl mj_S_part (by decide) rfl (Nat.le_of_ble_eq_true rfl) rfl rfl rfl (c_S_part_33 (by assumption)) ?_
    refine hy_put (i := 13) (fk := 7) rfl rfl rfl rfl ?_
    first | exact go _ (by unfold sp_first; rw [if_pos zc1]) rfl hc | exact go _ (by unfold sp_first; rw [if_pos zc1]; rfl) rfl hc | exact go _ (by unfold sp_first; rw [if_neg zc1]) rfl hc
end SV33
section SV41
variable {sc : List Int32} {t : hy_T}
theorem c_S_part_41 {i w : Int} (hc : 0 ≤ t 41 3 ∧ t 41 3 ≤ 16) : hy_Ct sc hm_S_part 1 [.inr (some 41), .inl i, .inl w] t (hy_e (some (sp_part 41 t i w)) t) := by
  refine hy_mk_ct ok_S_part ck_S_part (Nat.le_of_ble_eq_true rfl) ?_
  refine hy_iload (i := 0) rfl rfl ?_
  refine hy_aload (i := 1) rfl rfl ?_
  refine hy_get (i := 2) (fk := 3) rfl rfl rfl ?_
  refine hy_cS2e (i := 3) rfl (by decide) mj_W_isAmong (by decide) rfl (Nat.le_of_ble_eq_true rfl) (c_W_isAmong) ?_
  refine hy_ib_eq (i := 4) (tt := 18) rfl (fun zc1 => ?_) (fun zc1 => ?_)
  · refine hy_const (i := 18) rfl (by decide) ?_
    refine hy_ireturn (i := 19) rfl rfl ?_
    exact ⟨congrArg some (by unfold sp_part; first | (simp at zc1 zc2; split <;> first | rfl | omega) | (simp at zc1; split <;> first | rfl | omega)), rfl⟩
  · refine hy_iload (i := 5) rfl rfl ?_
    refine hy_const (i := 6) rfl (by decide) ?_
    refine hy_cS2e (i := 7) rfl (by decide) mj_W_isAmong (by decide) rfl (Nat.le_of_ble_eq_true rfl) (c_W_isAmong) ?_
    refine hy_ib_eq (i := 8) (tt := 18) rfl (fun zc2 => ?_) (fun zc2 => ?_)
    · refine hy_const (i := 18) rfl (by decide) ?_
      refine hy_ireturn (i := 19) rfl rfl ?_
      exact ⟨congrArg some (by unfold sp_part; first | (simp at zc1 zc2; split <;> first | rfl | omega) | (simp at zc1; split <;> first | rfl | omega)), rfl⟩
    · refine hy_aload (i := 9) rfl rfl ?_
      refine hy_getr (i := 10) rfl rfl ?_
      refine hy_const (i := 11) rfl (by decide) ?_
      refine hy_iload (i := 12) rfl rfl ?_
      refine hy_imul (i := 13) rfl (by simp at zc1 zc2; omega) ?_
      refine hy_iload (i := 14) rfl rfl ?_
      refine hy_iadd (i := 15) rfl (by simp at zc1 zc2; omega) ?_
      refine hy_iald (i := 16) rfl rfl (by simp at zc1 zc2; omega) rfl ?_
      refine hy_goto (i := 17) (tt := 19) rfl ?_
      refine hy_ireturn (i := 19) rfl rfl ?_
      exact ⟨congrArg some (by unfold sp_part; first | (simp at zc1 zc2; split <;> first | rfl | omega) | (simp at zc1; split <;> first | rfl | omega)), rfl⟩
theorem c_S_quartersHad_41 {c : Int} : hy_Ct sc hm_S_quartersHad 2 [.inr (some 41), .inl c] t (hy_e (some (sp_qh (t 42) c 4)) t) := by
  refine hy_mk_ct ok_S_quartersHad ck_S_quartersHad (Nat.le_of_ble_eq_true rfl) ?_
  have loop : ∀ (n : Nat), ∀ (k : Nat), n + k = 4 → hy_W sc hm_S_quartersHad 2 4 [.inr (some 41), .inl c, .inl (sp_qh (t 42) c k), .inl (k : Int)] [] t (hy_e (some (sp_qh (t 42) c 4)) t) := by
    intro n
    induction n with
    | zero =>
      intro k hk
      obtain rfl : k = 4 := by omega
      refine hy_iload (i := 4) rfl rfl ?_
      refine hy_const (i := 5) rfl (by decide) ?_
      refine hy_ic_ge (i := 6) (tt := 17) rfl (fun zc1 => ?_) (fun zc1 => ?_)
      · refine hy_iload (i := 17) rfl rfl ?_
        refine hy_ireturn (i := 18) rfl rfl ?_
        exact ⟨rfl, rfl⟩
      · omega
    | succ n ih =>
      intro k hk
      have h1 := sp_qh_le (t 42) c k
      have h2 := hz_bc_le (sp_hav (t 42) c k)
      refine hy_iload (i := 4) rfl rfl ?_
      refine hy_const (i := 5) rfl (by decide) ?_
      refine hy_ic_ge (i := 6) (tt := 17) rfl (fun zc1 => ?_) (fun zc1 => ?_)
      · omega
      · refine hy_iload (i := 7) rfl rfl ?_
        refine hy_aload (i := 8) rfl rfl ?_
        refine hy_iload (i := 9) rfl rfl ?_
        refine hy_iload (i := 10) rfl rfl ?_
        refine hy_cV2e (i := 11) rfl mj_S_havers (by decide) rfl (Nat.le_of_ble_eq_true rfl) rfl rfl rfl (c_S_havers_41) ?_
        refine hy_cS1e (i := 12) rfl (by decide) mj_J_bitCount (by decide) rfl (Nat.le_of_ble_eq_true rfl) (c_J_bitCount) ?_
        refine hy_iadd (i := 13) rfl (by omega) ?_
        refine hy_istore (i := 14) rfl ?_
        refine hy_iinc (i := 15) rfl rfl (by omega) ?_
        refine hy_goto (i := 16) (tt := 4) rfl ?_
        exact ih (k + 1) (by omega)
  refine hy_const (i := 0) rfl (by decide) ?_
  refine hy_istore (i := 1) rfl ?_
  refine hy_const (i := 2) rfl (by decide) ?_
  refine hy_istore (i := 3) rfl ?_
  exact loop 4 0 rfl
theorem c_S_isMade_41 {c w g o s : Int} (hc : 0 ≤ t 41 3 ∧ t 41 3 ≤ 16) (hs : s = 0 ∨ s = 1) : hy_Ct sc hm_S_isMade 3 [.inr (some 41), .inl c, .inl w, .inl g, .inl o, .inl s] t (hy_e (some (hy_b (decide (t 41 3 < 16) && sp_canGo (t 42) c w g o))) (if (decide (t 41 3 < 16) && sp_canGo (t 42) c w g o) = true then sp_made 41 t c w g o s else t)) := by
  rcases hs with rfl | rfl
  · refine hy_mk_ct ok_S_isMade ck_S_isMade (Nat.le_of_ble_eq_true rfl) ?_
    have hF := sp_moveN_F 41 t c w g o 4
    have hF3 : sp_moveN 41 t c w g o 4 41 3 = t 41 3 := hF 41 3 rfl
    have hF4 : sp_moveN 41 t c w g o 4 41 4 = t 41 4 := hF 41 4 rfl
    refine hy_aload (i := 0) rfl rfl ?_
    refine hy_get (i := 1) (fk := 3) rfl rfl rfl ?_
    refine hy_const (i := 2) rfl (by decide) ?_
    refine hy_ic_ge (i := 3) (tt := 11) rfl (fun zc1 => ?_) (fun zc1 => ?_)
    · refine hy_const (i := 11) rfl (by decide) ?_
      refine hy_zreturn (i := 12) rfl rfl (by first | decide | exact hy_b01 _) ?_
      exact ⟨congrArg some (by rw [show decide (t 41 3 < 16) = false from decide_eq_false (by omega)]; rfl), by rw [show decide (t 41 3 < 16) = false from decide_eq_false (by omega)]; rfl⟩
    · refine hy_aload (i := 4) rfl rfl ?_
      refine hy_iload (i := 5) rfl rfl ?_
      refine hy_iload (i := 6) rfl rfl ?_
      refine hy_iload (i := 7) rfl rfl ?_
      refine hy_iload (i := 8) rfl rfl ?_
      refine hy_cV4e (i := 9) rfl mj_S_canGo (by decide) rfl (Nat.le_of_ble_eq_true rfl) rfl rfl rfl (c_S_canGo_41) ?_
      refine hy_ib_ne (i := 10) (tt := 13) rfl (fun zc2 => ?_) (fun zc2 => ?_)
      · refine hy_aload (i := 13) rfl rfl ?_
        refine hy_iload (i := 14) rfl rfl ?_
        refine hy_iload (i := 15) rfl rfl ?_
        refine hy_iload (i := 16) rfl rfl ?_
        refine hy_if_eq (i := 17) (tt := 20) rfl (fun zc3 => ?_) (fun zc3 => ?_)
        · refine hy_iload (i := 20) rfl rfl ?_
          refine hy_iload (i := 21) rfl rfl ?_
          refine hy_cV4v (i := 22) rfl mj_S_move (by decide) rfl (Nat.le_of_ble_eq_true rfl) rfl rfl rfl (c_S_move_41) ?_
          refine hy_const (i := 23) rfl (by decide) ?_
          refine hy_aload (i := 24) rfl rfl ?_
          refine hy_get (i := 25) (fk := 3) rfl rfl rfl ?_
          rw [hF3]
          refine hy_imul (i := 26) rfl (by omega) ?_
          refine hy_istore (i := 27) rfl ?_
          refine hy_aload (i := 28) rfl rfl ?_
          refine hy_getr (i := 29) rfl rfl ?_
          refine hy_iload (i := 30) rfl rfl ?_
          refine hy_iload (i := 31) rfl rfl ?_
          refine hy_iast (i := 32) rfl rfl (by omega) (k := (6 * t 41 3).toNat) (by omega) ?_
          refine hy_aload (i := 33) rfl rfl ?_
          refine hy_getr (i := 34) rfl rfl ?_
          refine hy_iload (i := 35) rfl rfl ?_
          refine hy_const (i := 36) rfl (by decide) ?_
          refine hy_iadd (i := 37) rfl (by omega) ?_
          refine hy_iload (i := 38) rfl rfl ?_
          refine hy_iast (i := 39) rfl rfl (by omega) (k := (6 * t 41 3).toNat + 1) (by omega) ?_
          refine hy_aload (i := 40) rfl rfl ?_
          refine hy_getr (i := 41) rfl rfl ?_
          refine hy_iload (i := 42) rfl rfl ?_
          refine hy_const (i := 43) rfl (by decide) ?_
          refine hy_iadd (i := 44) rfl (by omega) ?_
          refine hy_iload (i := 45) rfl rfl ?_
          refine hy_iast (i := 46) rfl rfl (by omega) (k := (6 * t 41 3).toNat + 2) (by omega) ?_
          refine hy_aload (i := 47) rfl rfl ?_
          refine hy_getr (i := 48) rfl rfl ?_
          refine hy_iload (i := 49) rfl rfl ?_
          refine hy_const (i := 50) rfl (by decide) ?_
          refine hy_iadd (i := 51) rfl (by omega) ?_
          refine hy_iload (i := 52) rfl rfl ?_
          refine hy_iast (i := 53) rfl rfl (by omega) (k := (6 * t 41 3).toNat + 3) (by omega) ?_
          refine hy_aload (i := 54) rfl rfl ?_
          refine hy_getr (i := 55) rfl rfl ?_
          refine hy_iload (i := 56) rfl rfl ?_
          refine hy_const (i := 57) rfl (by decide) ?_
          refine hy_iadd (i := 58) rfl (by omega) ?_
          refine hy_iload (i := 59) rfl rfl ?_
          refine hy_if_eq (i := 60) (tt := 63) rfl (fun zc4 => ?_) (fun zc4 => ?_)
          · refine hy_const (i := 63) rfl (by decide) ?_
            refine hy_iast (i := 64) rfl rfl (by omega) (k := (6 * t 41 3).toNat + 4) (by omega) ?_
            refine hy_aload (i := 65) rfl rfl ?_
            refine hy_getr (i := 66) rfl rfl ?_
            refine hy_iload (i := 67) rfl rfl ?_
            refine hy_const (i := 68) rfl (by decide) ?_
            refine hy_iadd (i := 69) rfl (by omega) ?_
            refine hy_aload (i := 70) rfl rfl ?_
            refine hy_get (i := 71) (fk := 4) rfl rfl rfl ?_
            refine hy_iast (i := 72) rfl rfl (by omega) (k := (6 * t 41 3).toNat + 5) (by omega) ?_
            refine hy_aload (i := 73) rfl rfl ?_
            refine hy_dup (i := 74) rfl ?_
            refine hy_get (i := 75) (fk := 3) rfl rfl rfl ?_
            refine hy_const (i := 76) rfl (by decide) ?_
            refine hy_iadd (i := 77) rfl (by simp only [hy_up]; simp [hF3]; omega) ?_
            refine hy_put (i := 78) (fk := 3) rfl rfl rfl rfl ?_
            refine hy_const (i := 79) rfl (by decide) ?_
            refine hy_zreturn (i := 80) rfl rfl (by first | decide | exact hy_b01 _) ?_
            refine ⟨congrArg some (by rw [show decide (t 41 3 < 16) = true from decide_eq_true (by omega), zc2]; rfl), ?_⟩
            rw [show decide (t 41 3 < 16) = true from decide_eq_true (by omega), zc2]
            simp only [sp_made, sp_lay, if_true, Bool.and_self]
            simp [hy_up, hF3, hF4]
          · omega
        · omega
      · refine hy_const (i := 11) rfl (by decide) ?_
        refine hy_zreturn (i := 12) rfl rfl (by first | decide | exact hy_b01 _) ?_
        exact ⟨congrArg some (by rw [zc2, Bool.and_false]; rfl), by rw [zc2, Bool.and_false]; rfl⟩
  · refine hy_mk_ct ok_S_isMade ck_S_isMade (Nat.le_of_ble_eq_true rfl) ?_
    have hF := sp_moveN_F 41 t c w (-1) o 4
    have hF3 : sp_moveN 41 t c w (-1) o 4 41 3 = t 41 3 := hF 41 3 rfl
    have hF4 : sp_moveN 41 t c w (-1) o 4 41 4 = t 41 4 := hF 41 4 rfl
    refine hy_aload (i := 0) rfl rfl ?_
    refine hy_get (i := 1) (fk := 3) rfl rfl rfl ?_
    refine hy_const (i := 2) rfl (by decide) ?_
    refine hy_ic_ge (i := 3) (tt := 11) rfl (fun zc1 => ?_) (fun zc1 => ?_)
    · refine hy_const (i := 11) rfl (by decide) ?_
      refine hy_zreturn (i := 12) rfl rfl (by first | decide | exact hy_b01 _) ?_
      exact ⟨congrArg some (by rw [show decide (t 41 3 < 16) = false from decide_eq_false (by omega)]; rfl), by rw [show decide (t 41 3 < 16) = false from decide_eq_false (by omega)]; rfl⟩
    · refine hy_aload (i := 4) rfl rfl ?_
      refine hy_iload (i := 5) rfl rfl ?_
      refine hy_iload (i := 6) rfl rfl ?_
      refine hy_iload (i := 7) rfl rfl ?_
      refine hy_iload (i := 8) rfl rfl ?_
      refine hy_cV4e (i := 9) rfl mj_S_canGo (by decide) rfl (Nat.le_of_ble_eq_true rfl) rfl rfl rfl (c_S_canGo_41) ?_
      refine hy_ib_ne (i := 10) (tt := 13) rfl (fun zc2 => ?_) (fun zc2 => ?_)
      · refine hy_aload (i := 13) rfl rfl ?_
        refine hy_iload (i := 14) rfl rfl ?_
        refine hy_iload (i := 15) rfl rfl ?_
        refine hy_iload (i := 16) rfl rfl ?_
        refine hy_if_eq (i := 17) (tt := 20) rfl (fun zc3 => ?_) (fun zc3 => ?_)
        · omega
        · refine hy_const (i := 18) rfl (by decide) ?_
          refine hy_goto (i := 19) (tt := 21) rfl ?_
          refine hy_iload (i := 21) rfl rfl ?_
          refine hy_cV4v (i := 22) rfl mj_S_move (by decide) rfl (Nat.le_of_ble_eq_true rfl) rfl rfl rfl (c_S_move_41) ?_
          refine hy_const (i := 23) rfl (by decide) ?_
          refine hy_aload (i := 24) rfl rfl ?_
          refine hy_get (i := 25) (fk := 3) rfl rfl rfl ?_
          rw [hF3]
          refine hy_imul (i := 26) rfl (by omega) ?_
          refine hy_istore (i := 27) rfl ?_
          refine hy_aload (i := 28) rfl rfl ?_
          refine hy_getr (i := 29) rfl rfl ?_
          refine hy_iload (i := 30) rfl rfl ?_
          refine hy_iload (i := 31) rfl rfl ?_
          refine hy_iast (i := 32) rfl rfl (by omega) (k := (6 * t 41 3).toNat) (by omega) ?_
          refine hy_aload (i := 33) rfl rfl ?_
          refine hy_getr (i := 34) rfl rfl ?_
          refine hy_iload (i := 35) rfl rfl ?_
          refine hy_const (i := 36) rfl (by decide) ?_
          refine hy_iadd (i := 37) rfl (by omega) ?_
          refine hy_iload (i := 38) rfl rfl ?_
          refine hy_iast (i := 39) rfl rfl (by omega) (k := (6 * t 41 3).toNat + 1) (by omega) ?_
          refine hy_aload (i := 40) rfl rfl ?_
          refine hy_getr (i := 41) rfl rfl ?_
          refine hy_iload (i := 42) rfl rfl ?_
          refine hy_const (i := 43) rfl (by decide) ?_
          refine hy_iadd (i := 44) rfl (by omega) ?_
          refine hy_iload (i := 45) rfl rfl ?_
          refine hy_iast (i := 46) rfl rfl (by omega) (k := (6 * t 41 3).toNat + 2) (by omega) ?_
          refine hy_aload (i := 47) rfl rfl ?_
          refine hy_getr (i := 48) rfl rfl ?_
          refine hy_iload (i := 49) rfl rfl ?_
          refine hy_const (i := 50) rfl (by decide) ?_
          refine hy_iadd (i := 51) rfl (by omega) ?_
          refine hy_iload (i := 52) rfl rfl ?_
          refine hy_iast (i := 53) rfl rfl (by omega) (k := (6 * t 41 3).toNat + 3) (by omega) ?_
          refine hy_aload (i := 54) rfl rfl ?_
          refine hy_getr (i := 55) rfl rfl ?_
          refine hy_iload (i := 56) rfl rfl ?_
          refine hy_const (i := 57) rfl (by decide) ?_
          refine hy_iadd (i := 58) rfl (by omega) ?_
          refine hy_iload (i := 59) rfl rfl ?_
          refine hy_if_eq (i := 60) (tt := 63) rfl (fun zc4 => ?_) (fun zc4 => ?_)
          · omega
          · refine hy_const (i := 61) rfl (by decide) ?_
            refine hy_goto (i := 62) (tt := 64) rfl ?_
            refine hy_iast (i := 64) rfl rfl (by omega) (k := (6 * t 41 3).toNat + 4) (by omega) ?_
            refine hy_aload (i := 65) rfl rfl ?_
            refine hy_getr (i := 66) rfl rfl ?_
            refine hy_iload (i := 67) rfl rfl ?_
            refine hy_const (i := 68) rfl (by decide) ?_
            refine hy_iadd (i := 69) rfl (by omega) ?_
            refine hy_aload (i := 70) rfl rfl ?_
            refine hy_get (i := 71) (fk := 4) rfl rfl rfl ?_
            refine hy_iast (i := 72) rfl rfl (by omega) (k := (6 * t 41 3).toNat + 5) (by omega) ?_
            refine hy_aload (i := 73) rfl rfl ?_
            refine hy_dup (i := 74) rfl ?_
            refine hy_get (i := 75) (fk := 3) rfl rfl rfl ?_
            refine hy_const (i := 76) rfl (by decide) ?_
            refine hy_iadd (i := 77) rfl (by simp only [hy_up]; simp [hF3]; omega) ?_
            refine hy_put (i := 78) (fk := 3) rfl rfl rfl rfl ?_
            refine hy_const (i := 79) rfl (by decide) ?_
            refine hy_zreturn (i := 80) rfl rfl (by first | decide | exact hy_b01 _) ?_
            refine ⟨congrArg some (by rw [show decide (t 41 3 < 16) = true from decide_eq_true (by omega), zc2]; rfl), ?_⟩
            rw [show decide (t 41 3 < 16) = true from decide_eq_true (by omega), zc2]
            simp only [sp_made, sp_lay, if_true, Bool.and_self]
            simp [hy_up, hF3, hF4]
      · refine hy_const (i := 11) rfl (by decide) ?_
        refine hy_zreturn (i := 12) rfl rfl (by first | decide | exact hy_b01 _) ?_
        exact ⟨congrArg some (by rw [zc2, Bool.and_false]; rfl), by rw [zc2, Bool.and_false]; rfl⟩
theorem sp_first_F41 {i : Int} : hy_F (fun r j => r == 41 && (j == 6 || j == 7)) t (sp_first 41 t i) := by
  unfold sp_first
  split
  · exact (hy_F.rf.up (by rfl)).up (by rfl)
  · exact hy_F.rf
theorem c_S_breakTreaty_41 {i : Int} (hc : 0 ≤ t 41 3 ∧ t 41 3 ≤ 16) (hi : 0 ≤ i ∧ i < t 41 3) : hy_Ct sc hm_S_breakTreaty 3 [.inr (some 41), .inl i] t (hy_e none (sp_broken 41 t i)) := by
  refine hy_mk_ct ok_S_breakTreaty ck_S_breakTreaty (Nat.le_of_ble_eq_true rfl) ?_
  have hF := sp_first_F41 (t := t) (i := i)
  have hF3 : sp_first 41 t i 41 3 = t 41 3 := hF 41 3 rfl
  have hFc : 0 ≤ sp_first 41 t i 41 3 ∧ sp_first 41 t i 41 3 ≤ 16 := by rw [hF3]; exact hc
  have loop : ∀ (n : Nat), ∀ (a : Nat) (t1 : hy_T), n + a = (6 * (t 41 3 - 1)).toNat → t1 41 3 = t 41 3 → hy_W sc hm_S_breakTreaty 3 36 [.inr (some 41), .inl i, .inl (a : Int)] [] t1 (hy_e none (hy_up (sp_shift 41 t1 a n) 41 3 (t 41 3 - 1))) := by
    intro n
    induction n with
    | zero =>
      intro a t1 hn h3
      refine hy_iload (i := 36) rfl rfl ?_
      refine hy_const (i := 37) rfl (by decide) ?_
      refine hy_aload (i := 38) rfl rfl ?_
      refine hy_get (i := 39) (fk := 3) rfl rfl rfl ?_
      rw [h3]
      refine hy_const (i := 40) rfl (by decide) ?_
      refine hy_isub (i := 41) rfl (by omega) ?_
      refine hy_imul (i := 42) rfl (by omega) ?_
      refine hy_ic_ge (i := 43) (tt := 56) rfl (fun zc1 => ?_) (fun zc1 => ?_)
      · refine hy_aload (i := 56) rfl rfl ?_
        refine hy_dup (i := 57) rfl ?_
        refine hy_get (i := 58) (fk := 3) rfl rfl rfl ?_
        rw [h3]
        refine hy_const (i := 59) rfl (by decide) ?_
        refine hy_isub (i := 60) rfl (by omega) ?_
        refine hy_put (i := 61) (fk := 3) rfl rfl rfl rfl ?_
        refine hy_return (i := 62) rfl rfl ?_
        exact ⟨rfl, rfl⟩
      · omega
    | succ n ih =>
      intro a t1 hn h3
      refine hy_iload (i := 36) rfl rfl ?_
      refine hy_const (i := 37) rfl (by decide) ?_
      refine hy_aload (i := 38) rfl rfl ?_
      refine hy_get (i := 39) (fk := 3) rfl rfl rfl ?_
      rw [h3]
      refine hy_const (i := 40) rfl (by decide) ?_
      refine hy_isub (i := 41) rfl (by omega) ?_
      refine hy_imul (i := 42) rfl (by omega) ?_
      refine hy_ic_ge (i := 43) (tt := 56) rfl (fun zc1 => ?_) (fun zc1 => ?_)
      · omega
      · refine hy_aload (i := 44) rfl rfl ?_
        refine hy_getr (i := 45) rfl rfl ?_
        refine hy_iload (i := 46) rfl rfl ?_
        refine hy_aload (i := 47) rfl rfl ?_
        refine hy_getr (i := 48) rfl rfl ?_
        refine hy_iload (i := 49) rfl rfl ?_
        refine hy_const (i := 50) rfl (by decide) ?_
        refine hy_iadd (i := 51) rfl (by omega) ?_
        refine hy_iald (i := 52) rfl rfl (by omega) (k := a + 6) (by omega) ?_
        refine hy_iast (i := 53) rfl rfl (by omega) (k := a) (by omega) ?_
        refine hy_iinc (i := 54) rfl rfl (by omega) ?_
        refine hy_goto (i := 55) (tt := 36) rfl ?_
        exact ih (a + 1) _ (by omega) h3
  have go : ∀ t1 : hy_T, t1 = sp_first 41 t i → t1 41 3 = t 41 3 → (0 ≤ t1 41 3 ∧ t1 41 3 ≤ 16) → hy_W sc hm_S_breakTreaty 3 14 [.inr (some 41), .inl i, .inr none] [] t1 (hy_e none (sp_broken 41 t i)) := by
    intro t1 ht h3 hc1
    have hM : sp_moveN 41 t1 (sp_part 41 t1 i 0) (sp_part 41 t1 i 1) (sp_part 41 t1 i 3) (sp_part 41 t1 i 2) 4 41 3 = t 41 3 := (sp_moveN_F 41 t1 _ _ _ _ 4 41 3 rfl).trans h3
    refine hy_aload (i := 14) rfl rfl ?_
    refine hy_aload (i := 15) rfl rfl ?_
    refine hy_iload (i := 16) rfl rfl ?_
    refine hy_const (i := 17) rfl (by decide) ?_
    refine hy_cV2e (i := 18) rfl mj_S_part (by decide) rfl (Nat.le_of_ble_eq_true rfl) rfl rfl rfl (c_S_part_41 (by assumption)) ?_
    refine hy_aload (i := 19) rfl rfl ?_
    refine hy_iload (i := 20) rfl rfl ?_
    refine hy_const (i := 21) rfl (by decide) ?_
    refine hy_cV2e (i := 22) rfl mj_S_part (by decide) rfl (Nat.le_of_ble_eq_true rfl) rfl rfl rfl (c_S_part_41 (by assumption)) ?_
    refine hy_aload (i := 23) rfl rfl ?_
    refine hy_iload (i := 24) rfl rfl ?_
    refine hy_const (i := 25) rfl (by decide) ?_
    refine hy_cV2e (i := 26) rfl mj_S_part (by decide) rfl (Nat.le_of_ble_eq_true rfl) rfl rfl rfl (c_S_part_41 (by assumption)) ?_
    refine hy_aload (i := 27) rfl rfl ?_
    refine hy_iload (i := 28) rfl rfl ?_
    refine hy_const (i := 29) rfl (by decide) ?_
    refine hy_cV2e (i := 30) rfl mj_S_part (by decide) rfl (Nat.le_of_ble_eq_true rfl) rfl rfl rfl (c_S_part_41 (by assumption)) ?_
    refine hy_cV4v (i := 31) rfl mj_S_move (by decide) rfl (Nat.le_of_ble_eq_true rfl) rfl rfl rfl (c_S_move_41) ?_
    refine hy_const (i := 32) rfl (by decide) ?_
    refine hy_iload (i := 33) rfl rfl ?_
    refine hy_imul (i := 34) rfl (by omega) ?_
    refine hy_istore (i := 35) rfl ?_
    have h := loop (6 * (t 41 3 - 1) - 6 * i).toNat (6 * i).toNat _ (by omega) hM
    rw [show (((6 * i).toNat : Nat) : Int) = 6 * i by omega] at h
    refine hy_W.mono h (fun r t' hq => ?_)
    obtain ⟨h1, h2⟩ := hq
    exact ⟨h1, by rw [h2]; simp only [sp_broken, ← ht]⟩
  refine hy_aload (i := 0) rfl rfl ?_
  refine hy_get (i := 1) (fk := 6) rfl rfl rfl ?_
  refine hy_const (i := 2) rfl (by decide) ?_
  refine hy_ic_ne (i := 3) (tt := 14) rfl (fun zc1 => ?_) (fun zc1 => ?_)
  · first | exact go _ (by unfold sp_first; rw [if_pos zc1]) rfl hc | exact go _ (by unfold sp_first; rw [if_pos zc1]; rfl) rfl hc | exact go _ (by unfold sp_first; rw [if_neg zc1]) rfl hc
  · refine hy_aload (i := 4) rfl rfl ?_
    refine hy_aload (i := 5) rfl rfl ?_
    refine hy_get (i := 6) (fk := 4) rfl rfl rfl ?_
    refine hy_put (i := 7) (fk := 6) rfl rfl rfl rfl ?_
    refine hy_aload (i := 8) rfl rfl ?_
    refine hy_aload (i := 9) rfl rfl ?_
    refine hy_iload (i := 10) rfl rfl ?_
    refine hy_const (i := 11) rfl (by decide) ?_
    refine hy_cV2e (i := 12) rfl mj_S_part (by decide) rfl (Nat.le_of_ble_eq_true rfl) rfl rfl rfl (c_S_part_41 (by assumption)) ?_
    refine hy_put (i := 13) (fk := 7) rfl rfl rfl rfl ?_
    first | exact go _ (by unfold sp_first; rw [if_pos zc1]) rfl hc | exact go _ (by unfold sp_first; rw [if_pos zc1]; rfl) rfl hc | exact go _ (by unfold sp_first; rw [if_neg zc1]) rfl hc
end SV41
section SW
variable {sc : List Int32} {t : hy_T}
theorem c_S_copyFrom_33_41 : hy_Ct sc hm_S_copyFrom 0 [.inr (some 41), .inr (some 33)] t (hy_e none (sp_scopy t 33 41)) := by
  refine hy_mk_ct ok_S_copyFrom ck_S_copyFrom (Nat.le_of_ble_eq_true rfl) ?_
  refine hy_aload (i := 0) rfl rfl ?_
  refine hy_getr (i := 1) rfl rfl ?_
  refine hy_const (i := 2) rfl (by decide) ?_
  refine hy_aload (i := 3) rfl rfl ?_
  refine hy_getr (i := 4) rfl rfl ?_
  refine hy_const (i := 5) rfl (by decide) ?_
  refine hy_aload (i := 6) rfl rfl ?_
  refine hy_getr (i := 7) rfl rfl ?_
  refine hy_alen (i := 8) rfl rfl (by decide) (by decide) ?_
  refine hy_copy (i := 9) rfl (Nat.le_of_ble_eq_true rfl) rfl rfl (by decide) ?_
  refine hy_aload (i := 10) rfl rfl ?_
  refine hy_getr (i := 11) rfl rfl ?_
  refine hy_const (i := 12) rfl (by decide) ?_
  refine hy_aload (i := 13) rfl rfl ?_
  refine hy_getr (i := 14) rfl rfl ?_
  refine hy_const (i := 15) rfl (by decide) ?_
  refine hy_aload (i := 16) rfl rfl ?_
  refine hy_getr (i := 17) rfl rfl ?_
  refine hy_alen (i := 18) rfl rfl (by decide) (by decide) ?_
  refine hy_copy (i := 19) rfl (Nat.le_of_ble_eq_true rfl) rfl rfl (by decide) ?_
  refine hy_aload (i := 20) rfl rfl ?_
  refine hy_getr (i := 21) rfl rfl ?_
  refine hy_const (i := 22) rfl (by decide) ?_
  refine hy_aload (i := 23) rfl rfl ?_
  refine hy_getr (i := 24) rfl rfl ?_
  refine hy_const (i := 25) rfl (by decide) ?_
  refine hy_aload (i := 26) rfl rfl ?_
  refine hy_getr (i := 27) rfl rfl ?_
  refine hy_alen (i := 28) rfl rfl (by decide) (by decide) ?_
  refine hy_copy (i := 29) rfl (Nat.le_of_ble_eq_true rfl) rfl rfl (by decide) ?_
  refine hy_aload (i := 30) rfl rfl ?_
  refine hy_aload (i := 31) rfl rfl ?_
  refine hy_get (i := 32) (fk := 3) rfl rfl rfl ?_
  refine hy_put (i := 33) (fk := 3) rfl rfl rfl rfl ?_
  refine hy_aload (i := 34) rfl rfl ?_
  refine hy_aload (i := 35) rfl rfl ?_
  refine hy_get (i := 36) (fk := 4) rfl rfl rfl ?_
  refine hy_put (i := 37) (fk := 4) rfl rfl rfl rfl ?_
  refine hy_aload (i := 38) rfl rfl ?_
  refine hy_aload (i := 39) rfl rfl ?_
  refine hy_get (i := 40) (fk := 5) rfl rfl rfl ?_
  refine hy_put (i := 41) (fk := 5) rfl rfl rfl rfl ?_
  refine hy_return (i := 42) rfl rfl ?_
  exact ⟨rfl, rfl⟩
theorem c_S_copyFrom_33_37 : hy_Ct sc hm_S_copyFrom 0 [.inr (some 37), .inr (some 33)] t (hy_e none (sp_scopy t 33 37)) := by
  refine hy_mk_ct ok_S_copyFrom ck_S_copyFrom (Nat.le_of_ble_eq_true rfl) ?_
  refine hy_aload (i := 0) rfl rfl ?_
  refine hy_getr (i := 1) rfl rfl ?_
  refine hy_const (i := 2) rfl (by decide) ?_
  refine hy_aload (i := 3) rfl rfl ?_
  refine hy_getr (i := 4) rfl rfl ?_
  refine hy_const (i := 5) rfl (by decide) ?_
  refine hy_aload (i := 6) rfl rfl ?_
  refine hy_getr (i := 7) rfl rfl ?_
  refine hy_alen (i := 8) rfl rfl (by decide) (by decide) ?_
  refine hy_copy (i := 9) rfl (Nat.le_of_ble_eq_true rfl) rfl rfl (by decide) ?_
  refine hy_aload (i := 10) rfl rfl ?_
  refine hy_getr (i := 11) rfl rfl ?_
  refine hy_const (i := 12) rfl (by decide) ?_
  refine hy_aload (i := 13) rfl rfl ?_
  refine hy_getr (i := 14) rfl rfl ?_
  refine hy_const (i := 15) rfl (by decide) ?_
  refine hy_aload (i := 16) rfl rfl ?_
  refine hy_getr (i := 17) rfl rfl ?_
  refine hy_alen (i := 18) rfl rfl (by decide) (by decide) ?_
  refine hy_copy (i := 19) rfl (Nat.le_of_ble_eq_true rfl) rfl rfl (by decide) ?_
  refine hy_aload (i := 20) rfl rfl ?_
  refine hy_getr (i := 21) rfl rfl ?_
  refine hy_const (i := 22) rfl (by decide) ?_
  refine hy_aload (i := 23) rfl rfl ?_
  refine hy_getr (i := 24) rfl rfl ?_
  refine hy_const (i := 25) rfl (by decide) ?_
  refine hy_aload (i := 26) rfl rfl ?_
  refine hy_getr (i := 27) rfl rfl ?_
  refine hy_alen (i := 28) rfl rfl (by decide) (by decide) ?_
  refine hy_copy (i := 29) rfl (Nat.le_of_ble_eq_true rfl) rfl rfl (by decide) ?_
  refine hy_aload (i := 30) rfl rfl ?_
  refine hy_aload (i := 31) rfl rfl ?_
  refine hy_get (i := 32) (fk := 3) rfl rfl rfl ?_
  refine hy_put (i := 33) (fk := 3) rfl rfl rfl rfl ?_
  refine hy_aload (i := 34) rfl rfl ?_
  refine hy_aload (i := 35) rfl rfl ?_
  refine hy_get (i := 36) (fk := 4) rfl rfl rfl ?_
  refine hy_put (i := 37) (fk := 4) rfl rfl rfl rfl ?_
  refine hy_aload (i := 38) rfl rfl ?_
  refine hy_aload (i := 39) rfl rfl ?_
  refine hy_get (i := 40) (fk := 5) rfl rfl rfl ?_
  refine hy_put (i := 41) (fk := 5) rfl rfl rfl rfl ?_
  refine hy_return (i := 42) rfl rfl ?_
  exact ⟨rfl, rfl⟩
theorem c_S_copyFrom_37_33 : hy_Ct sc hm_S_copyFrom 0 [.inr (some 33), .inr (some 37)] t (hy_e none (sp_scopy t 37 33)) := by
  refine hy_mk_ct ok_S_copyFrom ck_S_copyFrom (Nat.le_of_ble_eq_true rfl) ?_
  refine hy_aload (i := 0) rfl rfl ?_
  refine hy_getr (i := 1) rfl rfl ?_
  refine hy_const (i := 2) rfl (by decide) ?_
  refine hy_aload (i := 3) rfl rfl ?_
  refine hy_getr (i := 4) rfl rfl ?_
  refine hy_const (i := 5) rfl (by decide) ?_
  refine hy_aload (i := 6) rfl rfl ?_
  refine hy_getr (i := 7) rfl rfl ?_
  refine hy_alen (i := 8) rfl rfl (by decide) (by decide) ?_
  refine hy_copy (i := 9) rfl (Nat.le_of_ble_eq_true rfl) rfl rfl (by decide) ?_
  refine hy_aload (i := 10) rfl rfl ?_
  refine hy_getr (i := 11) rfl rfl ?_
  refine hy_const (i := 12) rfl (by decide) ?_
  refine hy_aload (i := 13) rfl rfl ?_
  refine hy_getr (i := 14) rfl rfl ?_
  refine hy_const (i := 15) rfl (by decide) ?_
  refine hy_aload (i := 16) rfl rfl ?_
  refine hy_getr (i := 17) rfl rfl ?_
  refine hy_alen (i := 18) rfl rfl (by decide) (by decide) ?_
  refine hy_copy (i := 19) rfl (Nat.le_of_ble_eq_true rfl) rfl rfl (by decide) ?_
  refine hy_aload (i := 20) rfl rfl ?_
  refine hy_getr (i := 21) rfl rfl ?_
  refine hy_const (i := 22) rfl (by decide) ?_
  refine hy_aload (i := 23) rfl rfl ?_
  refine hy_getr (i := 24) rfl rfl ?_
  refine hy_const (i := 25) rfl (by decide) ?_
  refine hy_aload (i := 26) rfl rfl ?_
  refine hy_getr (i := 27) rfl rfl ?_
  refine hy_alen (i := 28) rfl rfl (by decide) (by decide) ?_
  refine hy_copy (i := 29) rfl (Nat.le_of_ble_eq_true rfl) rfl rfl (by decide) ?_
  refine hy_aload (i := 30) rfl rfl ?_
  refine hy_aload (i := 31) rfl rfl ?_
  refine hy_get (i := 32) (fk := 3) rfl rfl rfl ?_
  refine hy_put (i := 33) (fk := 3) rfl rfl rfl rfl ?_
  refine hy_aload (i := 34) rfl rfl ?_
  refine hy_aload (i := 35) rfl rfl ?_
  refine hy_get (i := 36) (fk := 4) rfl rfl rfl ?_
  refine hy_put (i := 37) (fk := 4) rfl rfl rfl rfl ?_
  refine hy_aload (i := 38) rfl rfl ?_
  refine hy_aload (i := 39) rfl rfl ?_
  refine hy_get (i := 40) (fk := 5) rfl rfl rfl ?_
  refine hy_put (i := 41) (fk := 5) rfl rfl rfl rfl ?_
  refine hy_return (i := 42) rfl rfl ?_
  exact ⟨rfl, rfl⟩
end SW
/-! the class's law: what its steps come to -/
def su (f : Nat → Int) (j : Nat) (v : Int) : Nat → Int := fun j' => if j' = j then v else f j'
theorem hy_up_row (t : hy_T) (r j : Nat) (v : Int) : (hy_up t r j v) r = su (t r) j v := by
  funext j'
  simp [hy_up, su]
def w32 (x : Int) : Int := (Int32.ofInt x).toInt
theorem w32_R (x : Int) : hy_R (w32 x) := hy_Ri _
def rc_reck (l op r : Int) : Int :=
  if op = 37 then (if r = 0 then 0 else hz_rem l r)
  else if op = 42 then w32 (l * r)
  else if op = 43 then w32 (l + r)
  else if op = 45 then w32 (l - r)
  else if op = 47 then (if r = 0 then 0 else hz_div l r)
  else if op = 60 then (if l < r then 1 else 0)
  else if op = 62 then (if r < l then 1 else 0)
  else (if l = r then 1 else 0)
def rc_step (op arg : Int) (vals : Nat → Int) (a : Int) (z : Nat) (f : Nat → Int) : Option (Int × Nat × (Nat → Int)) :=
  if op = 48 ∨ op = 97 then (if z < 32 ∧ (op = 48 ∨ arg < 10) then some (a, z + 1, su f z (if op = 48 then arg else vals arg.toNat)) else some (a, z, f))
  else if z < 1 then none
  else if op = 33 then some (a, z, su f (z - 1) (w32 (1 - f (z - 1))))
  else if op = 38 ∨ op = 124 then (if (f (z - 1) ≠ 0 ∧ op = 124) ∨ (f (z - 1) = 0 ∧ op = 38) then some (arg, z, f) else some (a, z - 1, f))
  else if z < 2 ∨ (f (z - 1) = 0 ∧ (op = 47 ∨ op = 37)) then none
  else some (a, z - 1, su f (z - 2) (rc_reck (f (z - 2)) op (f (z - 1))))
def rc_end (z : Nat) (f : Nat → Int) : Int := if 0 < z then f 0 else 0
def rc_run (ops args vals : Nat → Int) (steps : Int) : Nat → Int → Nat → (Nat → Int) → Int
  | 0, _, z, f => rc_end z f
  | n + 1, a, z, f => if 0 ≤ a ∧ a < steps ∧ ops a.toNat ≠ 46 then
      match rc_step (ops a.toNat) (args a.toNat) vals (a + 1) z f with
      | none => 0
      | some q => rc_run ops args vals steps n q.1 q.2.1 q.2.2
    else rc_end z f
theorem rc_go {ops args vals : Nat → Int} {steps : Int} {n z z' : Nat} {a a' : Int} {f f' : Nat → Int} (h : 0 ≤ a ∧ a < steps ∧ ops a.toNat ≠ 46) (hs : rc_step (ops a.toNat) (args a.toNat) vals (a + 1) z f = some (a', z', f')) : rc_run ops args vals steps (n + 1) a z f = rc_run ops args vals steps n a' z' f' := by
  simp only [rc_run]
  rw [if_pos h, hs]
theorem rc_no {ops args vals : Nat → Int} {steps : Int} {n z : Nat} {a : Int} {f : Nat → Int} (h : 0 ≤ a ∧ a < steps ∧ ops a.toNat ≠ 46) (hs : rc_step (ops a.toNat) (args a.toNat) vals (a + 1) z f = none) : rc_run ops args vals steps (n + 1) a z f = 0 := by
  simp only [rc_run]
  rw [if_pos h, hs]
theorem rc_stop {ops args vals : Nat → Int} {steps : Int} {n z : Nat} {a : Int} {f : Nat → Int} (h : ¬ (0 ≤ a ∧ a < steps ∧ ops a.toNat ≠ 46)) : rc_run ops args vals steps (n + 1) a z f = rc_end z f := by
  simp only [rc_run]
  rw [if_neg h]
/-- what the steps from a on come to -/
def rc_val (t : hy_T) (b : Nat) (a : Int) : Int := rc_run (t (b + 1)) (t (b + 2)) (t (b + 6)) (t b 3) 240 a 0 (fun _ => 0)
theorem rc_end_eq {z : Nat} {f g : Nat → Int} (h : ∀ j, j < z → f j = g j) : rc_end z f = rc_end z g := by
  unfold rc_end
  split
  · exact h 0 (by assumption)
  · rfl
/-- only what lies on the stack matters -/
theorem rc_eq (ops args vals : Nat → Int) (steps : Int) : ∀ (n : Nat) (a : Int) (z : Nat) (f g : Nat → Int), (∀ j, j < z → f j = g j) → rc_run ops args vals steps n a z f = rc_run ops args vals steps n a z g
  | 0, a, z, f, g, h => rc_end_eq h
  | n + 1, a, z, f, g, h => by
    by_cases hc : 0 ≤ a ∧ a < steps ∧ ops a.toNat ≠ 46
    · have key : ∀ (op arg : Int), (rc_step op arg vals (a + 1) z f = none ∧ rc_step op arg vals (a + 1) z g = none) ∨ ∃ (a' : Int) (z' : Nat) (f' g' : Nat → Int), rc_step op arg vals (a + 1) z f = some (a', z', f') ∧ rc_step op arg vals (a + 1) z g = some (a', z', g') ∧ ∀ j, j < z' → f' j = g' j := by
        intro op arg
        unfold rc_step
        by_cases zc1 : op = 48 ∨ op = 97
        · rw [if_pos zc1, if_pos zc1]
          right
          by_cases zc2 : z < 32 ∧ (op = 48 ∨ arg < 10)
          · rw [if_pos zc2, if_pos zc2]
            refine ⟨_, _, _, _, rfl, rfl, fun j hj => ?_⟩
            unfold su
            split
            · rfl
            · exact h j (by omega)
          · rw [if_neg zc2, if_neg zc2]
            exact ⟨_, _, _, _, rfl, rfl, h⟩
        · rw [if_neg zc1, if_neg zc1]
          by_cases zc2 : z < 1
          · rw [if_pos zc2, if_pos zc2]; exact Or.inl ⟨rfl, rfl⟩
          · rw [if_neg zc2, if_neg zc2]
            have e1 := h (z - 1) (by omega)
            by_cases zc3 : op = 33
            · rw [if_pos zc3, if_pos zc3, e1]
              right
              refine ⟨_, _, _, _, rfl, rfl, fun j hj => ?_⟩
              unfold su
              split
              · rfl
              · exact h j (by omega)
            · rw [if_neg zc3, if_neg zc3]
              by_cases zc4 : op = 38 ∨ op = 124
              · rw [if_pos zc4, if_pos zc4, e1]
                right
                by_cases zc5 : (g (z - 1) ≠ 0 ∧ op = 124) ∨ (g (z - 1) = 0 ∧ op = 38)
                · rw [if_pos zc5, if_pos zc5]
                  exact ⟨_, _, _, _, rfl, rfl, h⟩
                · rw [if_neg zc5, if_neg zc5]
                  exact ⟨_, _, _, _, rfl, rfl, fun j hj => h j (by omega)⟩
              · rw [if_neg zc4, if_neg zc4, e1]
                by_cases zc5 : z < 2 ∨ (g (z - 1) = 0 ∧ (op = 47 ∨ op = 37))
                · rw [if_pos zc5, if_pos zc5]; exact Or.inl ⟨rfl, rfl⟩
                · rw [if_neg zc5, if_neg zc5, h (z - 2) (by omega)]
                  right
                  refine ⟨_, _, _, _, rfl, rfl, fun j hj => ?_⟩
                  unfold su
                  split
                  · rfl
                  · exact h j (by omega)
      rcases key (ops a.toNat) (args a.toNat) with ⟨k1, k2⟩ | ⟨a', z', f', g', k1, k2, k3⟩
      · rw [rc_no hc k1, rc_no hc k2]
      · rw [rc_go hc k1, rc_go hc k2]
        exact rc_eq ops args vals steps n a' z' f' g' k3
    · rw [rc_stop hc, rc_stop hc]
      exact rc_end_eq h
section LW
variable {sc : List Int32} {t : hy_T}
theorem c_L_reckoned {l op r : Int} : hy_Ct sc hm_L_reckoned 0 [.inl l, .inl op, .inl r] t (hy_e (some (rc_reck l op r)) t) := by
  refine hy_mk_ct ok_L_reckoned ck_L_reckoned (Nat.le_of_ble_eq_true rfl) ?_
  refine hy_iload (i := 0) rfl rfl ?_
  by_cases zq1 : op = 37
  · refine hy_lsw (i := 1) (tt := 22) rfl (by rw [zq1]; rfl) ?_
    refine hy_iload (i := 22) rfl rfl ?_
    refine hy_if_eq (i := 23) (tt := 28) rfl (fun zc2 => ?_) (fun zc2 => ?_)
    · refine hy_const (i := 28) rfl (by decide) ?_
      refine hy_ireturn (i := 29) rfl rfl ?_
      refine ⟨congrArg some ?_, rfl⟩
      unfold rc_reck
      repeat (first | rw [if_pos (by omega)] | rw [if_neg (by omega)])
      try rfl
    · refine hy_iload (i := 24) rfl rfl ?_
      refine hy_iload (i := 25) rfl rfl ?_
      refine hy_iremw (i := 26) rfl (by assumption) ?_
      refine hy_goto (i := 27) (tt := 29) rfl ?_
      refine hy_ireturn (i := 29) rfl rfl ?_
      refine ⟨congrArg some ?_, rfl⟩
      unfold rc_reck
      repeat (first | rw [if_pos (by omega)] | rw [if_neg (by omega)])
      try rfl
  · skip
    by_cases zq1 : op = 42
    · refine hy_lsw (i := 1) (tt := 10) rfl (by rw [zq1]; rfl) ?_
      refine hy_iload (i := 10) rfl rfl ?_
      refine hy_iload (i := 11) rfl rfl ?_
      refine hy_imulw (i := 12) rfl ?_
      refine hy_ireturn (i := 13) rfl rfl ?_
      refine ⟨congrArg some ?_, rfl⟩
      unfold rc_reck
      repeat (first | rw [if_pos (by omega)] | rw [if_neg (by omega)])
      try rfl
    · skip
      by_cases zq1 : op = 43
      · refine hy_lsw (i := 1) (tt := 2) rfl (by rw [zq1]; rfl) ?_
        refine hy_iload (i := 2) rfl rfl ?_
        refine hy_iload (i := 3) rfl rfl ?_
        refine hy_iaddw (i := 4) rfl ?_
        refine hy_ireturn (i := 5) rfl rfl ?_
        refine ⟨congrArg some ?_, rfl⟩
        unfold rc_reck
        repeat (first | rw [if_pos (by omega)] | rw [if_neg (by omega)])
        try rfl
      · skip
        by_cases zq1 : op = 45
        · refine hy_lsw (i := 1) (tt := 6) rfl (by rw [zq1]; rfl) ?_
          refine hy_iload (i := 6) rfl rfl ?_
          refine hy_iload (i := 7) rfl rfl ?_
          refine hy_isubw (i := 8) rfl ?_
          refine hy_ireturn (i := 9) rfl rfl ?_
          refine ⟨congrArg some ?_, rfl⟩
          unfold rc_reck
          repeat (first | rw [if_pos (by omega)] | rw [if_neg (by omega)])
          try rfl
        · skip
          by_cases zq1 : op = 47
          · refine hy_lsw (i := 1) (tt := 14) rfl (by rw [zq1]; rfl) ?_
            refine hy_iload (i := 14) rfl rfl ?_
            refine hy_if_eq (i := 15) (tt := 20) rfl (fun zc2 => ?_) (fun zc2 => ?_)
            · refine hy_const (i := 20) rfl (by decide) ?_
              refine hy_ireturn (i := 21) rfl rfl ?_
              refine ⟨congrArg some ?_, rfl⟩
              unfold rc_reck
              repeat (first | rw [if_pos (by omega)] | rw [if_neg (by omega)])
              try rfl
            · refine hy_iload (i := 16) rfl rfl ?_
              refine hy_iload (i := 17) rfl rfl ?_
              refine hy_idivw (i := 18) rfl (by assumption) ?_
              refine hy_goto (i := 19) (tt := 21) rfl ?_
              refine hy_ireturn (i := 21) rfl rfl ?_
              refine ⟨congrArg some ?_, rfl⟩
              unfold rc_reck
              repeat (first | rw [if_pos (by omega)] | rw [if_neg (by omega)])
              try rfl
          · skip
            by_cases zq1 : op = 60
            · refine hy_lsw (i := 1) (tt := 30) rfl (by rw [zq1]; rfl) ?_
              refine hy_iload (i := 30) rfl rfl ?_
              refine hy_iload (i := 31) rfl rfl ?_
              refine hy_ic_ge (i := 32) (tt := 35) rfl (fun zc2 => ?_) (fun zc2 => ?_)
              · refine hy_const (i := 35) rfl (by decide) ?_
                refine hy_ireturn (i := 36) rfl rfl ?_
                refine ⟨congrArg some ?_, rfl⟩
                unfold rc_reck
                repeat (first | rw [if_pos (by omega)] | rw [if_neg (by omega)])
                try rfl
              · refine hy_const (i := 33) rfl (by decide) ?_
                refine hy_goto (i := 34) (tt := 36) rfl ?_
                refine hy_ireturn (i := 36) rfl rfl ?_
                refine ⟨congrArg some ?_, rfl⟩
                unfold rc_reck
                repeat (first | rw [if_pos (by omega)] | rw [if_neg (by omega)])
                try rfl
            · skip
              by_cases zq1 : op = 62
              · refine hy_lsw (i := 1) (tt := 37) rfl (by rw [zq1]; rfl) ?_
                refine hy_iload (i := 37) rfl rfl ?_
                refine hy_iload (i := 38) rfl rfl ?_
                refine hy_ic_le (i := 39) (tt := 42) rfl (fun zc2 => ?_) (fun zc2 => ?_)
                · refine hy_const (i := 42) rfl (by decide) ?_
                  refine hy_ireturn (i := 43) rfl rfl ?_
                  refine ⟨congrArg some ?_, rfl⟩
                  unfold rc_reck
                  repeat (first | rw [if_pos (by omega)] | rw [if_neg (by omega)])
                  try rfl
                · refine hy_const (i := 40) rfl (by decide) ?_
                  refine hy_goto (i := 41) (tt := 43) rfl ?_
                  refine hy_ireturn (i := 43) rfl rfl ?_
                  refine ⟨congrArg some ?_, rfl⟩
                  unfold rc_reck
                  repeat (first | rw [if_pos (by omega)] | rw [if_neg (by omega)])
                  try rfl
              · skip
                refine hy_lsw (i := 1) (tt := 44) rfl (by simp [hx_look]; omega) ?_
                refine hy_iload (i := 44) rfl rfl ?_
                refine hy_iload (i := 45) rfl rfl ?_
                refine hy_ic_ne (i := 46) (tt := 49) rfl (fun zc1 => ?_) (fun zc1 => ?_)
                · refine hy_const (i := 49) rfl (by decide) ?_
                  refine hy_ireturn (i := 50) rfl rfl ?_
                  refine ⟨congrArg some ?_, rfl⟩
                  unfold rc_reck
                  repeat (first | rw [if_pos (by omega)] | rw [if_neg (by omega)])
                  try rfl
                · refine hy_const (i := 47) rfl (by decide) ?_
                  refine hy_goto (i := 48) (tt := 50) rfl ?_
                  refine hy_ireturn (i := 50) rfl rfl ?_
                  refine ⟨congrArg some ?_, rfl⟩
                  unfold rc_reck
                  repeat (first | rw [if_pos (by omega)] | rw [if_neg (by omega)])
                  try rfl
theorem c_L_tellParts {a b : Int} : hy_Ct sc hm_L_tellParts 0 [.inr (some 11), .inl a, .inl b] t (hy_e none (hy_up (hy_up t 17 5 a) 17 6 b)) := by
  refine hy_mk_ct ok_L_tellParts ck_L_tellParts (Nat.le_of_ble_eq_true rfl) ?_
  refine hy_aload (i := 0) rfl rfl ?_
  refine hy_getr (i := 1) rfl rfl ?_
  refine hy_const (i := 2) rfl (by decide) ?_
  refine hy_iload (i := 3) rfl rfl ?_
  refine hy_iast (i := 4) rfl rfl (by decide) (show _ = 5 from rfl) ?_
  refine hy_aload (i := 5) rfl rfl ?_
  refine hy_getr (i := 6) rfl rfl ?_
  refine hy_const (i := 7) rfl (by decide) ?_
  refine hy_iload (i := 8) rfl rfl ?_
  refine hy_iast (i := 9) rfl rfl (by decide) (show _ = 6 from rfl) ?_
  refine hy_return (i := 10) rfl rfl ?_
  exact ⟨rfl, rfl⟩
theorem c_L_tellFields {a : Int} : hy_Ct sc hm_L_tellFields 0 [.inr (some 11), .inl a] t (hy_e none (hy_up t 17 7 a)) := by
  refine hy_mk_ct ok_L_tellFields ck_L_tellFields (Nat.le_of_ble_eq_true rfl) ?_
  refine hy_aload (i := 0) rfl rfl ?_
  refine hy_getr (i := 1) rfl rfl ?_
  refine hy_const (i := 2) rfl (by decide) ?_
  refine hy_iload (i := 3) rfl rfl ?_
  refine hy_iast (i := 4) rfl rfl (by decide) (show _ = 7 from rfl) ?_
  refine hy_return (i := 5) rfl rfl ?_
  exact ⟨rfl, rfl⟩
theorem c_L_tellAge {a : Int} : hy_Ct sc hm_L_tellAge 0 [.inr (some 11), .inl a] t (hy_e none (hy_up t 17 9 a)) := by
  refine hy_mk_ct ok_L_tellAge ck_L_tellAge (Nat.le_of_ble_eq_true rfl) ?_
  refine hy_aload (i := 0) rfl rfl ?_
  refine hy_getr (i := 1) rfl rfl ?_
  refine hy_const (i := 2) rfl (by decide) ?_
  refine hy_iload (i := 3) rfl rfl ?_
  refine hy_iast (i := 4) rfl rfl (by decide) (show _ = 9 from rfl) ?_
  refine hy_return (i := 5) rfl rfl ?_
  exact ⟨rfl, rfl⟩
def rc_tell (t : hy_T) (e c q dd m g : Int) : hy_T := hy_up (hy_up (hy_up (hy_up (hy_up (hy_up (hy_up (hy_up (hy_up (hy_up t 17 0 e) 17 1 c) 17 2 q) 17 3 dd) 17 4 m) 17 8 g) 17 5 0) 17 6 0) 17 7 0) 17 9 0
theorem c_L_tell {e c q dd m g : Int} : hy_Ct sc hm_L_tell 1 [.inr (some 11), .inl e, .inl c, .inl q, .inl dd, .inl m, .inl g] t (hy_e none (rc_tell t e c q dd m g)) := by
  refine hy_mk_ct ok_L_tell ck_L_tell (Nat.le_of_ble_eq_true rfl) ?_
  refine hy_aload (i := 0) rfl rfl ?_
  refine hy_getr (i := 1) rfl rfl ?_
  refine hy_const (i := 2) rfl (by decide) ?_
  refine hy_iload (i := 3) rfl rfl ?_
  refine hy_iast (i := 4) rfl rfl (by decide) (show _ = 0 from rfl) ?_
  refine hy_aload (i := 5) rfl rfl ?_
  refine hy_getr (i := 6) rfl rfl ?_
  refine hy_const (i := 7) rfl (by decide) ?_
  refine hy_iload (i := 8) rfl rfl ?_
  refine hy_iast (i := 9) rfl rfl (by decide) (show _ = 1 from rfl) ?_
  refine hy_aload (i := 10) rfl rfl ?_
  refine hy_getr (i := 11) rfl rfl ?_
  refine hy_const (i := 12) rfl (by decide) ?_
  refine hy_iload (i := 13) rfl rfl ?_
  refine hy_iast (i := 14) rfl rfl (by decide) (show _ = 2 from rfl) ?_
  refine hy_aload (i := 15) rfl rfl ?_
  refine hy_getr (i := 16) rfl rfl ?_
  refine hy_const (i := 17) rfl (by decide) ?_
  refine hy_iload (i := 18) rfl rfl ?_
  refine hy_iast (i := 19) rfl rfl (by decide) (show _ = 3 from rfl) ?_
  refine hy_aload (i := 20) rfl rfl ?_
  refine hy_getr (i := 21) rfl rfl ?_
  refine hy_const (i := 22) rfl (by decide) ?_
  refine hy_iload (i := 23) rfl rfl ?_
  refine hy_iast (i := 24) rfl rfl (by decide) (show _ = 4 from rfl) ?_
  refine hy_aload (i := 25) rfl rfl ?_
  refine hy_getr (i := 26) rfl rfl ?_
  refine hy_const (i := 27) rfl (by decide) ?_
  refine hy_iload (i := 28) rfl rfl ?_
  refine hy_iast (i := 29) rfl rfl (by decide) (show _ = 8 from rfl) ?_
  refine hy_aload (i := 30) rfl rfl ?_
  refine hy_const (i := 31) rfl (by decide) ?_
  refine hy_const (i := 32) rfl (by decide) ?_
  refine hy_cV2v (i := 33) rfl mj_L_tellParts (by decide) rfl (Nat.le_of_ble_eq_true rfl) rfl rfl rfl (c_L_tellParts) ?_
  refine hy_aload (i := 34) rfl rfl ?_
  refine hy_const (i := 35) rfl (by decide) ?_
  refine hy_cV1v (i := 36) rfl mj_L_tellFields (by decide) rfl (Nat.le_of_ble_eq_true rfl) rfl rfl rfl (c_L_tellFields) ?_
  refine hy_aload (i := 37) rfl rfl ?_
  refine hy_const (i := 38) rfl (by decide) ?_
  refine hy_cV1v (i := 39) rfl mj_L_tellAge (by decide) rfl (Nat.le_of_ble_eq_true rfl) rfl rfl rfl (c_L_tellAge) ?_
  refine hy_return (i := 40) rfl rfl ?_
  exact ⟨rfl, rfl⟩
theorem c_L_clauses : hy_Ct sc hm_L_clauses 0 [.inr (some 11)] t (hy_e (some (t 11 7)) t) := by
  refine hy_mk_ct ok_L_clauses ck_L_clauses (Nat.le_of_ble_eq_true rfl) ?_
  refine hy_aload (i := 0) rfl rfl ?_
  refine hy_get (i := 1) (fk := 7) rfl rfl rfl ?_
  refine hy_ireturn (i := 2) rfl rfl ?_
  exact ⟨rfl, rfl⟩
/-- a clause of a kind is there -/
def rc_has (t : hy_T) (k : Int) : Bool := decide (∃ j : Nat, j < (t 11 7).toNat ∧ t 14 j = k)
theorem c_L_hasKind {k : Int} (hc : 0 ≤ t 11 7 ∧ t 11 7 ≤ 16) : hy_Ct sc hm_L_hasKind 0 [.inr (some 11), .inl k] t (hy_e (some (hy_b (rc_has t k))) t) := by
  refine hy_mk_ct ok_L_hasKind ck_L_hasKind (Nat.le_of_ble_eq_true rfl) ?_
  have loop : ∀ (n : Nat), ∀ (j : Nat), n + j = (t 11 7).toNat → (∀ m : Nat, m < j → t 14 m ≠ k) → hy_W sc hm_L_hasKind 0 2 [.inr (some 11), .inl k, .inl (j : Int)] [] t (hy_e (some (hy_b (rc_has t k))) t) := by
    intro n
    induction n with
    | zero =>
      intro j hj hi
      refine hy_iload (i := 2) rfl rfl ?_
      refine hy_aload (i := 3) rfl rfl ?_
      refine hy_get (i := 4) (fk := 7) rfl rfl rfl ?_
      refine hy_ic_ge (i := 5) (tt := 16) rfl (fun zc1 => ?_) (fun zc1 => ?_)
      · refine hy_const (i := 16) rfl (by decide) ?_
        refine hy_zreturn (i := 17) rfl rfl (by first | decide | exact hy_b01 _) ?_
        exact ⟨congrArg some (by rw [show rc_has t k = false from decide_eq_false (fun ⟨m, h1, h2⟩ => hi m (by omega) h2)]; rfl), rfl⟩
      · omega
    | succ n ih =>
      intro j hj hi
      refine hy_iload (i := 2) rfl rfl ?_
      refine hy_aload (i := 3) rfl rfl ?_
      refine hy_get (i := 4) (fk := 7) rfl rfl rfl ?_
      refine hy_ic_ge (i := 5) (tt := 16) rfl (fun zc1 => ?_) (fun zc1 => ?_)
      · omega
      · refine hy_aload (i := 6) rfl rfl ?_
        refine hy_getr (i := 7) rfl rfl ?_
        refine hy_iload (i := 8) rfl rfl ?_
        refine hy_iald (i := 9) rfl rfl (by omega) rfl ?_
        refine hy_iload (i := 10) rfl rfl ?_
        refine hy_ic_ne (i := 11) (tt := 14) rfl (fun zc2 => ?_) (fun zc2 => ?_)
        · refine hy_iinc (i := 14) rfl rfl (by omega) ?_
          refine hy_goto (i := 15) (tt := 2) rfl ?_
          exact ih (j + 1) (by omega) (fun m hm => by rcases Nat.lt_succ_iff_lt_or_eq.mp hm with h | rfl; exact hi m h; assumption)
        · refine hy_const (i := 12) rfl (by decide) ?_
          refine hy_zreturn (i := 13) rfl rfl (by first | decide | exact hy_b01 _) ?_
          exact ⟨congrArg some (by rw [show rc_has t k = true from decide_eq_true ⟨j, by omega, by assumption⟩]; rfl), rfl⟩
  refine hy_const (i := 0) rfl (by decide) ?_
  refine hy_istore (i := 1) rfl ?_
  exact loop (t 11 7).toNat 0 rfl (fun m hm => by omega)
abbrev rX : Nat → Nat → Bool := fun r _ => r == 18
theorem c_L_run {a : Int} (hs : t 11 3 ≤ 241) (ha : ∀ j : Nat, j < 241 → 0 ≤ t 13 j) : hy_Ct sc hm_L_run 1 [.inr (some 11), .inl a] t (fun r t' => r = some (rc_val t 11 a) ∧ hy_F rX t t') := by
  refine hy_mk_ct ok_L_run ck_L_run (Nat.le_of_ble_eq_true rfl) ?_
  have loop : ∀ (n : Nat), ∀ (k : Int) (a0 : Int) (zi : Int) (z : Nat) (t1 : hy_T) (v5 v6 : hy_V), n + k = 240 → 0 ≤ k → z ≤ 32 → zi = z → hy_F rX t t1 → rc_run (t 12) (t 13) (t 17) (t 11 3) n a0 z (t1 18) = rc_val t 11 a →
      hy_W sc hm_L_run 1 6 [.inr (some 11), .inl a, .inl zi, .inl a0, .inl k, v5, v6] [] t1 (fun r t' => r = some (rc_val t 11 a) ∧ hy_F rX t t') := by
    intro n
    induction n with
    | zero =>
      intro k a0 zi z t1 v5 v6 hk hk0 hz hzi hF hv
      subst hzi
      refine hy_iload (i := 6) rfl rfl ?_
      refine hy_const (i := 7) rfl (by decide) ?_
      refine hy_ic_ge (i := 8) (tt := 154) rfl (fun zc1 => ?_) (fun zc1 => ?_)
      · refine hy_iload (i := 154) rfl rfl ?_
        refine hy_if_le (i := 155) (tt := 161) rfl (fun zc2 => ?_) (fun zc2 => ?_)
        · refine hy_const (i := 161) rfl (by decide) ?_
          refine hy_ireturn (i := 162) rfl rfl ?_
          refine ⟨congrArg some ?_, hF⟩
          rw [← hv]
          simp only [rc_run, rc_end]
          first | rw [if_pos (by omega)] | rw [if_neg (by omega)]
        · refine hy_aload (i := 156) rfl rfl ?_
          refine hy_getr (i := 157) rfl rfl ?_
          refine hy_const (i := 158) rfl (by decide) ?_
          refine hy_iald (i := 159) rfl rfl (by decide) (show _ = 0 from rfl) ?_
          refine hy_goto (i := 160) (tt := 162) rfl ?_
          refine hy_ireturn (i := 162) rfl rfl ?_
          refine ⟨congrArg some ?_, hF⟩
          rw [← hv]
          simp only [rc_run, rc_end]
          first | rw [if_pos (by omega)] | rw [if_neg (by omega)]
      · omega
    | succ n ih =>
      intro k a0 zi z t1 v5 v6 hk hk0 hz hzi hF hv
      subst hzi
      have o1 : ∀ j, t1 12 j = t 12 j := fun j => hF 12 j rfl
      have o2 : ∀ j, t1 13 j = t 13 j := fun j => hF 13 j rfl
      have o3 : ∀ j, t1 17 j = t 17 j := fun j => hF 17 j rfl
      have o4 : t1 11 3 = t 11 3 := hF 11 3 rfl
      refine hy_iload (i := 6) rfl rfl ?_
      refine hy_const (i := 7) rfl (by decide) ?_
      refine hy_ic_ge (i := 8) (tt := 154) rfl (fun zc1 => ?_) (fun zc1 => ?_)
      · omega
      · refine hy_iload (i := 9) rfl rfl ?_
        refine hy_if_lt (i := 10) (tt := 154) rfl (fun zc2 => ?_) (fun zc2 => ?_)
        · refine hy_iload (i := 154) rfl rfl ?_
          refine hy_if_le (i := 155) (tt := 161) rfl (fun zc3 => ?_) (fun zc3 => ?_)
          · refine hy_const (i := 161) rfl (by decide) ?_
            refine hy_ireturn (i := 162) rfl rfl ?_
            first | (exfalso; omega) | (refine ⟨congrArg some ?_, hF⟩; rw [← hv]; first | (rw [rc_no (by omega) (by unfold rc_step; repeat (first | rw [if_pos (by omega)] | rw [if_neg (by omega)]))]; done) | (rw [rc_stop (by omega)]; unfold rc_end; first | rw [if_pos (by omega)] | rw [if_neg (by omega)]))
          · refine hy_aload (i := 156) rfl rfl ?_
            refine hy_getr (i := 157) rfl rfl ?_
            refine hy_const (i := 158) rfl (by decide) ?_
            refine hy_iald (i := 159) rfl rfl (by omega) (show _ = 0 from rfl) ?_
            refine hy_goto (i := 160) (tt := 162) rfl ?_
            refine hy_ireturn (i := 162) rfl rfl ?_
            first | (exfalso; omega) | (refine ⟨congrArg some ?_, hF⟩; rw [← hv]; first | (rw [rc_no (by omega) (by unfold rc_step; repeat (first | rw [if_pos (by omega)] | rw [if_neg (by omega)]))]; done) | (rw [rc_stop (by omega)]; unfold rc_end; first | rw [if_pos (by omega)] | rw [if_neg (by omega)]))
        · refine hy_iload (i := 11) rfl rfl ?_
          refine hy_aload (i := 12) rfl rfl ?_
          refine hy_get (i := 13) (fk := 3) rfl rfl rfl ?_
          rw [o4]
          refine hy_ic_ge (i := 14) (tt := 154) rfl (fun zc3 => ?_) (fun zc3 => ?_)
          · refine hy_iload (i := 154) rfl rfl ?_
            refine hy_if_le (i := 155) (tt := 161) rfl (fun zc4 => ?_) (fun zc4 => ?_)
            · refine hy_const (i := 161) rfl (by decide) ?_
              refine hy_ireturn (i := 162) rfl rfl ?_
              first | (exfalso; omega) | (refine ⟨congrArg some ?_, hF⟩; rw [← hv]; first | (rw [rc_no (by omega) (by unfold rc_step; repeat (first | rw [if_pos (by omega)] | rw [if_neg (by omega)]))]; done) | (rw [rc_stop (by omega)]; unfold rc_end; first | rw [if_pos (by omega)] | rw [if_neg (by omega)]))
            · refine hy_aload (i := 156) rfl rfl ?_
              refine hy_getr (i := 157) rfl rfl ?_
              refine hy_const (i := 158) rfl (by decide) ?_
              refine hy_iald (i := 159) rfl rfl (by omega) (show _ = 0 from rfl) ?_
              refine hy_goto (i := 160) (tt := 162) rfl ?_
              refine hy_ireturn (i := 162) rfl rfl ?_
              first | (exfalso; omega) | (refine ⟨congrArg some ?_, hF⟩; rw [← hv]; first | (rw [rc_no (by omega) (by unfold rc_step; repeat (first | rw [if_pos (by omega)] | rw [if_neg (by omega)]))]; done) | (rw [rc_stop (by omega)]; unfold rc_end; first | rw [if_pos (by omega)] | rw [if_neg (by omega)]))
          · refine hy_aload (i := 15) rfl rfl ?_
            refine hy_getr (i := 16) rfl rfl ?_
            refine hy_iload (i := 17) rfl rfl ?_
            refine hy_iald (i := 18) rfl rfl (by omega) rfl ?_
            rw [o1]
            refine hy_const (i := 19) rfl (by decide) ?_
            refine hy_ic_eq (i := 20) (tt := 154) rfl (fun zc4 => ?_) (fun zc4 => ?_)
            · refine hy_iload (i := 154) rfl rfl ?_
              refine hy_if_le (i := 155) (tt := 161) rfl (fun zc5 => ?_) (fun zc5 => ?_)
              · refine hy_const (i := 161) rfl (by decide) ?_
                refine hy_ireturn (i := 162) rfl rfl ?_
                first | (exfalso; omega) | (refine ⟨congrArg some ?_, hF⟩; rw [← hv]; first | (rw [rc_no (by omega) (by unfold rc_step; repeat (first | rw [if_pos (by omega)] | rw [if_neg (by omega)]))]; done) | (rw [rc_stop (by omega)]; unfold rc_end; first | rw [if_pos (by omega)] | rw [if_neg (by omega)]))
              · refine hy_aload (i := 156) rfl rfl ?_
                refine hy_getr (i := 157) rfl rfl ?_
                refine hy_const (i := 158) rfl (by decide) ?_
                refine hy_iald (i := 159) rfl rfl (by omega) (show _ = 0 from rfl) ?_
                refine hy_goto (i := 160) (tt := 162) rfl ?_
                refine hy_ireturn (i := 162) rfl rfl ?_
                first | (exfalso; omega) | (refine ⟨congrArg some ?_, hF⟩; rw [← hv]; first | (rw [rc_no (by omega) (by unfold rc_step; repeat (first | rw [if_pos (by omega)] | rw [if_neg (by omega)]))]; done) | (rw [rc_stop (by omega)]; unfold rc_end; first | rw [if_pos (by omega)] | rw [if_neg (by omega)]))
            · refine hy_aload (i := 21) rfl rfl ?_
              refine hy_getr (i := 22) rfl rfl ?_
              refine hy_iload (i := 23) rfl rfl ?_
              refine hy_iald (i := 24) rfl rfl (by omega) rfl ?_
              rw [o1]
              refine hy_istore (i := 25) rfl ?_
              refine hy_aload (i := 26) rfl rfl ?_
              refine hy_getr (i := 27) rfl rfl ?_
              refine hy_iload (i := 28) rfl rfl ?_
              refine hy_iald (i := 29) rfl rfl (by omega) rfl ?_
              rw [o2]
              have ha1 := ha a0.toNat (by omega)
              refine hy_istore (i := 30) rfl ?_
              refine hy_iinc (i := 31) rfl rfl (by omega) ?_
              refine hy_iload (i := 32) rfl rfl ?_
              refine hy_const (i := 33) rfl (by decide) ?_
              refine hy_ic_eq (i := 34) (tt := 38) rfl (fun zc5 => ?_) (fun zc5 => ?_)
              · refine hy_iload (i := 38) rfl rfl ?_
                refine hy_aload (i := 39) rfl rfl ?_
                refine hy_getr (i := 40) rfl rfl ?_
                refine hy_alen (i := 41) rfl rfl (by decide) (by decide) ?_
                refine hy_ic_ge (i := 42) (tt := 152) rfl (fun zc6 => ?_) (fun zc6 => ?_)
                · refine hy_iinc (i := 152) rfl rfl (by omega) ?_
                  refine hy_goto (i := 153) (tt := 6) rfl ?_
                  first | (exfalso; omega) | exact ih (k + 1) _ _ (z + 1) _ _ _ (by omega) (by omega) (by omega) (by omega) (by first | exact hF | exact hF.up (by rfl)) (by rw [← hv]; refine (rc_go (by omega) ?_).symm; unfold rc_step; (repeat (first | rw [if_pos (by omega)] | rw [if_neg (by omega)])); try rw [hy_up_row]; try rfl) | exact ih (k + 1) _ _ (z) _ _ _ (by omega) (by omega) (by omega) (by omega) (by first | exact hF | exact hF.up (by rfl)) (by rw [← hv]; refine (rc_go (by omega) ?_).symm; unfold rc_step; (repeat (first | rw [if_pos (by omega)] | rw [if_neg (by omega)])); try rw [hy_up_row]; try rfl) | exact ih (k + 1) _ _ (z - 1) _ _ _ (by omega) (by omega) (by omega) (by omega) (by first | exact hF | exact hF.up (by rfl)) (by rw [← hv]; refine (rc_go (by omega) ?_).symm; unfold rc_step; (repeat (first | rw [if_pos (by omega)] | rw [if_neg (by omega)])); try rw [hy_up_row]; try rfl)
                · refine hy_iload (i := 43) rfl rfl ?_
                  refine hy_const (i := 44) rfl (by decide) ?_
                  refine hy_ic_eq (i := 45) (tt := 49) rfl (fun zc7 => ?_) (fun zc7 => ?_)
                  · refine hy_aload (i := 49) rfl rfl ?_
                    refine hy_getr (i := 50) rfl rfl ?_
                    refine hy_iload (i := 51) rfl rfl ?_
                    refine hy_iload (i := 52) rfl rfl ?_
                    refine hy_const (i := 53) rfl (by decide) ?_
                    refine hy_ic_ne (i := 54) (tt := 57) rfl (fun zc8 => ?_) (fun zc8 => ?_)
                    · refine hy_aload (i := 57) rfl rfl ?_
                      refine hy_getr (i := 58) rfl rfl ?_
                      refine hy_iload (i := 59) rfl rfl ?_
                      refine hy_iald (i := 60) rfl rfl (by omega) rfl ?_
                      try rw [o3]
                      refine hy_iast (i := 61) rfl rfl (by omega) (k := z) (by omega) ?_
                      refine hy_iinc (i := 62) rfl rfl (by omega) ?_
                      refine hy_goto (i := 63) (tt := 152) rfl ?_
                      refine hy_iinc (i := 152) rfl rfl (by omega) ?_
                      refine hy_goto (i := 153) (tt := 6) rfl ?_
                      first | (exfalso; omega) | exact ih (k + 1) _ _ (z + 1) _ _ _ (by omega) (by omega) (by omega) (by omega) (by first | exact hF | exact hF.up (by rfl)) (by rw [← hv]; refine (rc_go (by omega) ?_).symm; unfold rc_step; (repeat (first | rw [if_pos (by omega)] | rw [if_neg (by omega)])); try rw [hy_up_row]; try rfl) | exact ih (k + 1) _ _ (z) _ _ _ (by omega) (by omega) (by omega) (by omega) (by first | exact hF | exact hF.up (by rfl)) (by rw [← hv]; refine (rc_go (by omega) ?_).symm; unfold rc_step; (repeat (first | rw [if_pos (by omega)] | rw [if_neg (by omega)])); try rw [hy_up_row]; try rfl) | exact ih (k + 1) _ _ (z - 1) _ _ _ (by omega) (by omega) (by omega) (by omega) (by first | exact hF | exact hF.up (by rfl)) (by rw [← hv]; refine (rc_go (by omega) ?_).symm; unfold rc_step; (repeat (first | rw [if_pos (by omega)] | rw [if_neg (by omega)])); try rw [hy_up_row]; try rfl)
                    · refine hy_iload (i := 55) rfl rfl ?_
                      refine hy_goto (i := 56) (tt := 61) rfl ?_
                      try rw [o3]
                      refine hy_iast (i := 61) rfl rfl (by omega) (k := z) (by omega) ?_
                      refine hy_iinc (i := 62) rfl rfl (by omega) ?_
                      refine hy_goto (i := 63) (tt := 152) rfl ?_
                      refine hy_iinc (i := 152) rfl rfl (by omega) ?_
                      refine hy_goto (i := 153) (tt := 6) rfl ?_
                      first | (exfalso; omega) | exact ih (k + 1) _ _ (z + 1) _ _ _ (by omega) (by omega) (by omega) (by omega) (by first | exact hF | exact hF.up (by rfl)) (by rw [← hv]; refine (rc_go (by omega) ?_).symm; unfold rc_step; (repeat (first | rw [if_pos (by omega)] | rw [if_neg (by omega)])); try rw [hy_up_row]; try rfl) | exact ih (k + 1) _ _ (z) _ _ _ (by omega) (by omega) (by omega) (by omega) (by first | exact hF | exact hF.up (by rfl)) (by rw [← hv]; refine (rc_go (by omega) ?_).symm; unfold rc_step; (repeat (first | rw [if_pos (by omega)] | rw [if_neg (by omega)])); try rw [hy_up_row]; try rfl) | exact ih (k + 1) _ _ (z - 1) _ _ _ (by omega) (by omega) (by omega) (by omega) (by first | exact hF | exact hF.up (by rfl)) (by rw [← hv]; refine (rc_go (by omega) ?_).symm; unfold rc_step; (repeat (first | rw [if_pos (by omega)] | rw [if_neg (by omega)])); try rw [hy_up_row]; try rfl)
                  · refine hy_iload (i := 46) rfl rfl ?_
                    refine hy_const (i := 47) rfl (by decide) ?_
                    refine hy_ic_ge (i := 48) (tt := 152) rfl (fun zc8 => ?_) (fun zc8 => ?_)
                    · refine hy_iinc (i := 152) rfl rfl (by omega) ?_
                      refine hy_goto (i := 153) (tt := 6) rfl ?_
                      first | (exfalso; omega) | exact ih (k + 1) _ _ (z + 1) _ _ _ (by omega) (by omega) (by omega) (by omega) (by first | exact hF | exact hF.up (by rfl)) (by rw [← hv]; refine (rc_go (by omega) ?_).symm; unfold rc_step; (repeat (first | rw [if_pos (by omega)] | rw [if_neg (by omega)])); try rw [hy_up_row]; try rfl) | exact ih (k + 1) _ _ (z) _ _ _ (by omega) (by omega) (by omega) (by omega) (by first | exact hF | exact hF.up (by rfl)) (by rw [← hv]; refine (rc_go (by omega) ?_).symm; unfold rc_step; (repeat (first | rw [if_pos (by omega)] | rw [if_neg (by omega)])); try rw [hy_up_row]; try rfl) | exact ih (k + 1) _ _ (z - 1) _ _ _ (by omega) (by omega) (by omega) (by omega) (by first | exact hF | exact hF.up (by rfl)) (by rw [← hv]; refine (rc_go (by omega) ?_).symm; unfold rc_step; (repeat (first | rw [if_pos (by omega)] | rw [if_neg (by omega)])); try rw [hy_up_row]; try rfl)
                    · refine hy_aload (i := 49) rfl rfl ?_
                      refine hy_getr (i := 50) rfl rfl ?_
                      refine hy_iload (i := 51) rfl rfl ?_
                      refine hy_iload (i := 52) rfl rfl ?_
                      refine hy_const (i := 53) rfl (by decide) ?_
                      refine hy_ic_ne (i := 54) (tt := 57) rfl (fun zc9 => ?_) (fun zc9 => ?_)
                      · refine hy_aload (i := 57) rfl rfl ?_
                        refine hy_getr (i := 58) rfl rfl ?_
                        refine hy_iload (i := 59) rfl rfl ?_
                        refine hy_iald (i := 60) rfl rfl (by omega) rfl ?_
                        try rw [o3]
                        refine hy_iast (i := 61) rfl rfl (by omega) (k := z) (by omega) ?_
                        refine hy_iinc (i := 62) rfl rfl (by omega) ?_
                        refine hy_goto (i := 63) (tt := 152) rfl ?_
                        refine hy_iinc (i := 152) rfl rfl (by omega) ?_
                        refine hy_goto (i := 153) (tt := 6) rfl ?_
                        first | (exfalso; omega) | exact ih (k + 1) _ _ (z + 1) _ _ _ (by omega) (by omega) (by omega) (by omega) (by first | exact hF | exact hF.up (by rfl)) (by rw [← hv]; refine (rc_go (by omega) ?_).symm; unfold rc_step; (repeat (first | rw [if_pos (by omega)] | rw [if_neg (by omega)])); try rw [hy_up_row]; try rfl) | exact ih (k + 1) _ _ (z) _ _ _ (by omega) (by omega) (by omega) (by omega) (by first | exact hF | exact hF.up (by rfl)) (by rw [← hv]; refine (rc_go (by omega) ?_).symm; unfold rc_step; (repeat (first | rw [if_pos (by omega)] | rw [if_neg (by omega)])); try rw [hy_up_row]; try rfl) | exact ih (k + 1) _ _ (z - 1) _ _ _ (by omega) (by omega) (by omega) (by omega) (by first | exact hF | exact hF.up (by rfl)) (by rw [← hv]; refine (rc_go (by omega) ?_).symm; unfold rc_step; (repeat (first | rw [if_pos (by omega)] | rw [if_neg (by omega)])); try rw [hy_up_row]; try rfl)
                      · refine hy_iload (i := 55) rfl rfl ?_
                        refine hy_goto (i := 56) (tt := 61) rfl ?_
                        try rw [o3]
                        refine hy_iast (i := 61) rfl rfl (by omega) (k := z) (by omega) ?_
                        refine hy_iinc (i := 62) rfl rfl (by omega) ?_
                        refine hy_goto (i := 63) (tt := 152) rfl ?_
                        refine hy_iinc (i := 152) rfl rfl (by omega) ?_
                        refine hy_goto (i := 153) (tt := 6) rfl ?_
                        first | (exfalso; omega) | exact ih (k + 1) _ _ (z + 1) _ _ _ (by omega) (by omega) (by omega) (by omega) (by first | exact hF | exact hF.up (by rfl)) (by rw [← hv]; refine (rc_go (by omega) ?_).symm; unfold rc_step; (repeat (first | rw [if_pos (by omega)] | rw [if_neg (by omega)])); try rw [hy_up_row]; try rfl) | exact ih (k + 1) _ _ (z) _ _ _ (by omega) (by omega) (by omega) (by omega) (by first | exact hF | exact hF.up (by rfl)) (by rw [← hv]; refine (rc_go (by omega) ?_).symm; unfold rc_step; (repeat (first | rw [if_pos (by omega)] | rw [if_neg (by omega)])); try rw [hy_up_row]; try rfl) | exact ih (k + 1) _ _ (z - 1) _ _ _ (by omega) (by omega) (by omega) (by omega) (by first | exact hF | exact hF.up (by rfl)) (by rw [← hv]; refine (rc_go (by omega) ?_).symm; unfold rc_step; (repeat (first | rw [if_pos (by omega)] | rw [if_neg (by omega)])); try rw [hy_up_row]; try rfl)
              · refine hy_iload (i := 35) rfl rfl ?_
                refine hy_const (i := 36) rfl (by decide) ?_
                refine hy_ic_ne (i := 37) (tt := 64) rfl (fun zc6 => ?_) (fun zc6 => ?_)
                · refine hy_iload (i := 64) rfl rfl ?_
                  refine hy_const (i := 65) rfl (by decide) ?_
                  refine hy_ic_ge (i := 66) (tt := 69) rfl (fun zc7 => ?_) (fun zc7 => ?_)
                  · refine hy_iload (i := 69) rfl rfl ?_
                    refine hy_const (i := 70) rfl (by decide) ?_
                    refine hy_ic_ne (i := 71) (tt := 87) rfl (fun zc8 => ?_) (fun zc8 => ?_)
                    · refine hy_iload (i := 87) rfl rfl ?_
                      refine hy_const (i := 88) rfl (by decide) ?_
                      refine hy_ic_eq (i := 89) (tt := 93) rfl (fun zc9 => ?_) (fun zc9 => ?_)
                      · refine hy_aload (i := 93) rfl rfl ?_
                        refine hy_getr (i := 94) rfl rfl ?_
                        refine hy_iload (i := 95) rfl rfl ?_
                        refine hy_const (i := 96) rfl (by decide) ?_
                        refine hy_isub (i := 97) rfl (by omega) ?_
                        refine hy_iald (i := 98) rfl rfl (by omega) (k := z - 1) (by omega) ?_
                        refine hy_if_eq (i := 99) (tt := 102) rfl (fun zc10 => ?_) (fun zc10 => ?_)
                        · refine hy_const (i := 102) rfl (by decide) ?_
                          refine hy_iload (i := 103) rfl rfl ?_
                          refine hy_const (i := 104) rfl (by decide) ?_
                          refine hy_ic_ne (i := 105) (tt := 108) rfl (fun zc11 => ?_) (fun zc11 => ?_)
                          · refine hy_const (i := 108) rfl (by decide) ?_
                            refine hy_ic_ne (i := 109) (tt := 113) rfl (fun zc12 => ?_) (fun zc12 => ?_)
                            · refine hy_iinc (i := 113) rfl rfl (by omega) ?_
                              refine hy_goto (i := 114) (tt := 152) rfl ?_
                              refine hy_iinc (i := 152) rfl rfl (by omega) ?_
                              refine hy_goto (i := 153) (tt := 6) rfl ?_
                              first | (exfalso; omega) | exact ih (k + 1) _ _ (z + 1) _ _ _ (by omega) (by omega) (by omega) (by omega) (by first | exact hF | exact hF.up (by rfl)) (by rw [← hv]; refine (rc_go (by omega) ?_).symm; unfold rc_step; (repeat (first | rw [if_pos (by omega)] | rw [if_neg (by omega)])); try rw [hy_up_row]; try rfl) | exact ih (k + 1) _ _ (z) _ _ _ (by omega) (by omega) (by omega) (by omega) (by first | exact hF | exact hF.up (by rfl)) (by rw [← hv]; refine (rc_go (by omega) ?_).symm; unfold rc_step; (repeat (first | rw [if_pos (by omega)] | rw [if_neg (by omega)])); try rw [hy_up_row]; try rfl) | exact ih (k + 1) _ _ (z - 1) _ _ _ (by omega) (by omega) (by omega) (by omega) (by first | exact hF | exact hF.up (by rfl)) (by rw [← hv]; refine (rc_go (by omega) ?_).symm; unfold rc_step; (repeat (first | rw [if_pos (by omega)] | rw [if_neg (by omega)])); try rw [hy_up_row]; try rfl)
                            · refine hy_iload (i := 110) rfl rfl ?_
                              refine hy_istore (i := 111) rfl ?_
                              refine hy_goto (i := 112) (tt := 152) rfl ?_
                              refine hy_iinc (i := 152) rfl rfl (by omega) ?_
                              refine hy_goto (i := 153) (tt := 6) rfl ?_
                              first | (exfalso; omega) | exact ih (k + 1) _ _ (z + 1) _ _ _ (by omega) (by omega) (by omega) (by omega) (by first | exact hF | exact hF.up (by rfl)) (by rw [← hv]; refine (rc_go (by omega) ?_).symm; unfold rc_step; (repeat (first | rw [if_pos (by omega)] | rw [if_neg (by omega)])); try rw [hy_up_row]; try rfl) | exact ih (k + 1) _ _ (z) _ _ _ (by omega) (by omega) (by omega) (by omega) (by first | exact hF | exact hF.up (by rfl)) (by rw [← hv]; refine (rc_go (by omega) ?_).symm; unfold rc_step; (repeat (first | rw [if_pos (by omega)] | rw [if_neg (by omega)])); try rw [hy_up_row]; try rfl) | exact ih (k + 1) _ _ (z - 1) _ _ _ (by omega) (by omega) (by omega) (by omega) (by first | exact hF | exact hF.up (by rfl)) (by rw [← hv]; refine (rc_go (by omega) ?_).symm; unfold rc_step; (repeat (first | rw [if_pos (by omega)] | rw [if_neg (by omega)])); try rw [hy_up_row]; try rfl)
                          · refine hy_const (i := 106) rfl (by decide) ?_
                            refine hy_goto (i := 107) (tt := 109) rfl ?_
                            refine hy_ic_ne (i := 109) (tt := 113) rfl (fun zc12 => ?_) (fun zc12 => ?_)
                            · refine hy_iinc (i := 113) rfl rfl (by omega) ?_
                              refine hy_goto (i := 114) (tt := 152) rfl ?_
                              refine hy_iinc (i := 152) rfl rfl (by omega) ?_
                              refine hy_goto (i := 153) (tt := 6) rfl ?_
                              first | (exfalso; omega) | exact ih (k + 1) _ _ (z + 1) _ _ _ (by omega) (by omega) (by omega) (by omega) (by first | exact hF | exact hF.up (by rfl)) (by rw [← hv]; refine (rc_go (by omega) ?_).symm; unfold rc_step; (repeat (first | rw [if_pos (by omega)] | rw [if_neg (by omega)])); try rw [hy_up_row]; try rfl) | exact ih (k + 1) _ _ (z) _ _ _ (by omega) (by omega) (by omega) (by omega) (by first | exact hF | exact hF.up (by rfl)) (by rw [← hv]; refine (rc_go (by omega) ?_).symm; unfold rc_step; (repeat (first | rw [if_pos (by omega)] | rw [if_neg (by omega)])); try rw [hy_up_row]; try rfl) | exact ih (k + 1) _ _ (z - 1) _ _ _ (by omega) (by omega) (by omega) (by omega) (by first | exact hF | exact hF.up (by rfl)) (by rw [← hv]; refine (rc_go (by omega) ?_).symm; unfold rc_step; (repeat (first | rw [if_pos (by omega)] | rw [if_neg (by omega)])); try rw [hy_up_row]; try rfl)
                            · refine hy_iload (i := 110) rfl rfl ?_
                              refine hy_istore (i := 111) rfl ?_
                              refine hy_goto (i := 112) (tt := 152) rfl ?_
                              refine hy_iinc (i := 152) rfl rfl (by omega) ?_
                              refine hy_goto (i := 153) (tt := 6) rfl ?_
                              first | (exfalso; omega) | exact ih (k + 1) _ _ (z + 1) _ _ _ (by omega) (by omega) (by omega) (by omega) (by first | exact hF | exact hF.up (by rfl)) (by rw [← hv]; refine (rc_go (by omega) ?_).symm; unfold rc_step; (repeat (first | rw [if_pos (by omega)] | rw [if_neg (by omega)])); try rw [hy_up_row]; try rfl) | exact ih (k + 1) _ _ (z) _ _ _ (by omega) (by omega) (by omega) (by omega) (by first | exact hF | exact hF.up (by rfl)) (by rw [← hv]; refine (rc_go (by omega) ?_).symm; unfold rc_step; (repeat (first | rw [if_pos (by omega)] | rw [if_neg (by omega)])); try rw [hy_up_row]; try rfl) | exact ih (k + 1) _ _ (z - 1) _ _ _ (by omega) (by omega) (by omega) (by omega) (by first | exact hF | exact hF.up (by rfl)) (by rw [← hv]; refine (rc_go (by omega) ?_).symm; unfold rc_step; (repeat (first | rw [if_pos (by omega)] | rw [if_neg (by omega)])); try rw [hy_up_row]; try rfl)
                        · refine hy_const (i := 100) rfl (by decide) ?_
                          refine hy_goto (i := 101) (tt := 103) rfl ?_
                          refine hy_iload (i := 103) rfl rfl ?_
                          refine hy_const (i := 104) rfl (by decide) ?_
                          refine hy_ic_ne (i := 105) (tt := 108) rfl (fun zc11 => ?_) (fun zc11 => ?_)
                          · refine hy_const (i := 108) rfl (by decide) ?_
                            refine hy_ic_ne (i := 109) (tt := 113) rfl (fun zc12 => ?_) (fun zc12 => ?_)
                            · refine hy_iinc (i := 113) rfl rfl (by omega) ?_
                              refine hy_goto (i := 114) (tt := 152) rfl ?_
                              refine hy_iinc (i := 152) rfl rfl (by omega) ?_
                              refine hy_goto (i := 153) (tt := 6) rfl ?_
                              first | (exfalso; omega) | exact ih (k + 1) _ _ (z + 1) _ _ _ (by omega) (by omega) (by omega) (by omega) (by first | exact hF | exact hF.up (by rfl)) (by rw [← hv]; refine (rc_go (by omega) ?_).symm; unfold rc_step; (repeat (first | rw [if_pos (by omega)] | rw [if_neg (by omega)])); try rw [hy_up_row]; try rfl) | exact ih (k + 1) _ _ (z) _ _ _ (by omega) (by omega) (by omega) (by omega) (by first | exact hF | exact hF.up (by rfl)) (by rw [← hv]; refine (rc_go (by omega) ?_).symm; unfold rc_step; (repeat (first | rw [if_pos (by omega)] | rw [if_neg (by omega)])); try rw [hy_up_row]; try rfl) | exact ih (k + 1) _ _ (z - 1) _ _ _ (by omega) (by omega) (by omega) (by omega) (by first | exact hF | exact hF.up (by rfl)) (by rw [← hv]; refine (rc_go (by omega) ?_).symm; unfold rc_step; (repeat (first | rw [if_pos (by omega)] | rw [if_neg (by omega)])); try rw [hy_up_row]; try rfl)
                            · refine hy_iload (i := 110) rfl rfl ?_
                              refine hy_istore (i := 111) rfl ?_
                              refine hy_goto (i := 112) (tt := 152) rfl ?_
                              refine hy_iinc (i := 152) rfl rfl (by omega) ?_
                              refine hy_goto (i := 153) (tt := 6) rfl ?_
                              first | (exfalso; omega) | exact ih (k + 1) _ _ (z + 1) _ _ _ (by omega) (by omega) (by omega) (by omega) (by first | exact hF | exact hF.up (by rfl)) (by rw [← hv]; refine (rc_go (by omega) ?_).symm; unfold rc_step; (repeat (first | rw [if_pos (by omega)] | rw [if_neg (by omega)])); try rw [hy_up_row]; try rfl) | exact ih (k + 1) _ _ (z) _ _ _ (by omega) (by omega) (by omega) (by omega) (by first | exact hF | exact hF.up (by rfl)) (by rw [← hv]; refine (rc_go (by omega) ?_).symm; unfold rc_step; (repeat (first | rw [if_pos (by omega)] | rw [if_neg (by omega)])); try rw [hy_up_row]; try rfl) | exact ih (k + 1) _ _ (z - 1) _ _ _ (by omega) (by omega) (by omega) (by omega) (by first | exact hF | exact hF.up (by rfl)) (by rw [← hv]; refine (rc_go (by omega) ?_).symm; unfold rc_step; (repeat (first | rw [if_pos (by omega)] | rw [if_neg (by omega)])); try rw [hy_up_row]; try rfl)
                          · refine hy_const (i := 106) rfl (by decide) ?_
                            refine hy_goto (i := 107) (tt := 109) rfl ?_
                            refine hy_ic_ne (i := 109) (tt := 113) rfl (fun zc12 => ?_) (fun zc12 => ?_)
                            · refine hy_iinc (i := 113) rfl rfl (by omega) ?_
                              refine hy_goto (i := 114) (tt := 152) rfl ?_
                              refine hy_iinc (i := 152) rfl rfl (by omega) ?_
                              refine hy_goto (i := 153) (tt := 6) rfl ?_
                              first | (exfalso; omega) | exact ih (k + 1) _ _ (z + 1) _ _ _ (by omega) (by omega) (by omega) (by omega) (by first | exact hF | exact hF.up (by rfl)) (by rw [← hv]; refine (rc_go (by omega) ?_).symm; unfold rc_step; (repeat (first | rw [if_pos (by omega)] | rw [if_neg (by omega)])); try rw [hy_up_row]; try rfl) | exact ih (k + 1) _ _ (z) _ _ _ (by omega) (by omega) (by omega) (by omega) (by first | exact hF | exact hF.up (by rfl)) (by rw [← hv]; refine (rc_go (by omega) ?_).symm; unfold rc_step; (repeat (first | rw [if_pos (by omega)] | rw [if_neg (by omega)])); try rw [hy_up_row]; try rfl) | exact ih (k + 1) _ _ (z - 1) _ _ _ (by omega) (by omega) (by omega) (by omega) (by first | exact hF | exact hF.up (by rfl)) (by rw [← hv]; refine (rc_go (by omega) ?_).symm; unfold rc_step; (repeat (first | rw [if_pos (by omega)] | rw [if_neg (by omega)])); try rw [hy_up_row]; try rfl)
                            · refine hy_iload (i := 110) rfl rfl ?_
                              refine hy_istore (i := 111) rfl ?_
                              refine hy_goto (i := 112) (tt := 152) rfl ?_
                              refine hy_iinc (i := 152) rfl rfl (by omega) ?_
                              refine hy_goto (i := 153) (tt := 6) rfl ?_
                              first | (exfalso; omega) | exact ih (k + 1) _ _ (z + 1) _ _ _ (by omega) (by omega) (by omega) (by omega) (by first | exact hF | exact hF.up (by rfl)) (by rw [← hv]; refine (rc_go (by omega) ?_).symm; unfold rc_step; (repeat (first | rw [if_pos (by omega)] | rw [if_neg (by omega)])); try rw [hy_up_row]; try rfl) | exact ih (k + 1) _ _ (z) _ _ _ (by omega) (by omega) (by omega) (by omega) (by first | exact hF | exact hF.up (by rfl)) (by rw [← hv]; refine (rc_go (by omega) ?_).symm; unfold rc_step; (repeat (first | rw [if_pos (by omega)] | rw [if_neg (by omega)])); try rw [hy_up_row]; try rfl) | exact ih (k + 1) _ _ (z - 1) _ _ _ (by omega) (by omega) (by omega) (by omega) (by first | exact hF | exact hF.up (by rfl)) (by rw [← hv]; refine (rc_go (by omega) ?_).symm; unfold rc_step; (repeat (first | rw [if_pos (by omega)] | rw [if_neg (by omega)])); try rw [hy_up_row]; try rfl)
                      · refine hy_iload (i := 90) rfl rfl ?_
                        refine hy_const (i := 91) rfl (by decide) ?_
                        refine hy_ic_ne (i := 92) (tt := 115) rfl (fun zc10 => ?_) (fun zc10 => ?_)
                        · refine hy_iload (i := 115) rfl rfl ?_
                          refine hy_const (i := 116) rfl (by decide) ?_
                          refine hy_ic_lt (i := 117) (tt := 131) rfl (fun zc11 => ?_) (fun zc11 => ?_)
                          · refine hy_const (i := 131) rfl (by decide) ?_
                            refine hy_ireturn (i := 132) rfl rfl ?_
                            first | (exfalso; omega) | (refine ⟨congrArg some ?_, hF⟩; rw [← hv]; first | (rw [rc_no (by omega) (by unfold rc_step; repeat (first | rw [if_pos (by omega)] | rw [if_neg (by omega)]))]; done) | (rw [rc_stop (by omega)]; unfold rc_end; first | rw [if_pos (by omega)] | rw [if_neg (by omega)]))
                          · refine hy_aload (i := 118) rfl rfl ?_
                            refine hy_getr (i := 119) rfl rfl ?_
                            refine hy_iload (i := 120) rfl rfl ?_
                            refine hy_const (i := 121) rfl (by decide) ?_
                            refine hy_isub (i := 122) rfl (by omega) ?_
                            refine hy_iald (i := 123) rfl rfl (by omega) (k := z - 1) (by omega) ?_
                            refine hy_if_ne (i := 124) (tt := 133) rfl (fun zc12 => ?_) (fun zc12 => ?_)
                            · refine hy_iinc (i := 133) rfl rfl (by omega) ?_
                              refine hy_aload (i := 134) rfl rfl ?_
                              refine hy_getr (i := 135) rfl rfl ?_
                              refine hy_iload (i := 136) rfl rfl ?_
                              refine hy_const (i := 137) rfl (by decide) ?_
                              refine hy_isub (i := 138) rfl (by omega) ?_
                              refine hy_aload (i := 139) rfl rfl ?_
                              refine hy_getr (i := 140) rfl rfl ?_
                              refine hy_iload (i := 141) rfl rfl ?_
                              refine hy_const (i := 142) rfl (by decide) ?_
                              refine hy_isub (i := 143) rfl (by omega) ?_
                              refine hy_iald (i := 144) rfl rfl (by omega) (k := z - 2) (by omega) ?_
                              refine hy_iload (i := 145) rfl rfl ?_
                              refine hy_aload (i := 146) rfl rfl ?_
                              refine hy_getr (i := 147) rfl rfl ?_
                              refine hy_iload (i := 148) rfl rfl ?_
                              refine hy_iald (i := 149) rfl rfl (by omega) (k := z - 1) (by omega) ?_
                              refine hy_cS3e (i := 150) rfl (by decide) mj_L_reckoned (by decide) rfl (Nat.le_of_ble_eq_true rfl) (c_L_reckoned) ?_
                              refine hy_iast (i := 151) rfl rfl (by omega) (k := z - 2) (by omega) ?_
                              refine hy_iinc (i := 152) rfl rfl (by omega) ?_
                              refine hy_goto (i := 153) (tt := 6) rfl ?_
                              first | (exfalso; omega) | exact ih (k + 1) _ _ (z + 1) _ _ _ (by omega) (by omega) (by omega) (by omega) (by first | exact hF | exact hF.up (by rfl)) (by rw [← hv]; refine (rc_go (by omega) ?_).symm; unfold rc_step; (repeat (first | rw [if_pos (by omega)] | rw [if_neg (by omega)])); try rw [hy_up_row]; try rfl) | exact ih (k + 1) _ _ (z) _ _ _ (by omega) (by omega) (by omega) (by omega) (by first | exact hF | exact hF.up (by rfl)) (by rw [← hv]; refine (rc_go (by omega) ?_).symm; unfold rc_step; (repeat (first | rw [if_pos (by omega)] | rw [if_neg (by omega)])); try rw [hy_up_row]; try rfl) | exact ih (k + 1) _ _ (z - 1) _ _ _ (by omega) (by omega) (by omega) (by omega) (by first | exact hF | exact hF.up (by rfl)) (by rw [← hv]; refine (rc_go (by omega) ?_).symm; unfold rc_step; (repeat (first | rw [if_pos (by omega)] | rw [if_neg (by omega)])); try rw [hy_up_row]; try rfl)
                            · refine hy_iload (i := 125) rfl rfl ?_
                              refine hy_const (i := 126) rfl (by decide) ?_
                              refine hy_ic_eq (i := 127) (tt := 131) rfl (fun zc13 => ?_) (fun zc13 => ?_)
                              · refine hy_const (i := 131) rfl (by decide) ?_
                                refine hy_ireturn (i := 132) rfl rfl ?_
                                first | (exfalso; omega) | (refine ⟨congrArg some ?_, hF⟩; rw [← hv]; first | (rw [rc_no (by omega) (by unfold rc_step; repeat (first | rw [if_pos (by omega)] | rw [if_neg (by omega)]))]; done) | (rw [rc_stop (by omega)]; unfold rc_end; first | rw [if_pos (by omega)] | rw [if_neg (by omega)]))
                              · refine hy_iload (i := 128) rfl rfl ?_
                                refine hy_const (i := 129) rfl (by decide) ?_
                                refine hy_ic_ne (i := 130) (tt := 133) rfl (fun zc14 => ?_) (fun zc14 => ?_)
                                · refine hy_iinc (i := 133) rfl rfl (by omega) ?_
                                  refine hy_aload (i := 134) rfl rfl ?_
                                  refine hy_getr (i := 135) rfl rfl ?_
                                  refine hy_iload (i := 136) rfl rfl ?_
                                  refine hy_const (i := 137) rfl (by decide) ?_
                                  refine hy_isub (i := 138) rfl (by omega) ?_
                                  refine hy_aload (i := 139) rfl rfl ?_
                                  refine hy_getr (i := 140) rfl rfl ?_
                                  refine hy_iload (i := 141) rfl rfl ?_
                                  refine hy_const (i := 142) rfl (by decide) ?_
                                  refine hy_isub (i := 143) rfl (by omega) ?_
                                  refine hy_iald (i := 144) rfl rfl (by omega) (k := z - 2) (by omega) ?_
                                  refine hy_iload (i := 145) rfl rfl ?_
                                  refine hy_aload (i := 146) rfl rfl ?_
                                  refine hy_getr (i := 147) rfl rfl ?_
                                  refine hy_iload (i := 148) rfl rfl ?_
                                  refine hy_iald (i := 149) rfl rfl (by omega) (k := z - 1) (by omega) ?_
                                  refine hy_cS3e (i := 150) rfl (by decide) mj_L_reckoned (by decide) rfl (Nat.le_of_ble_eq_true rfl) (c_L_reckoned) ?_
                                  refine hy_iast (i := 151) rfl rfl (by omega) (k := z - 2) (by omega) ?_
                                  refine hy_iinc (i := 152) rfl rfl (by omega) ?_
                                  refine hy_goto (i := 153) (tt := 6) rfl ?_
                                  first | (exfalso; omega) | exact ih (k + 1) _ _ (z + 1) _ _ _ (by omega) (by omega) (by omega) (by omega) (by first | exact hF | exact hF.up (by rfl)) (by rw [← hv]; refine (rc_go (by omega) ?_).symm; unfold rc_step; (repeat (first | rw [if_pos (by omega)] | rw [if_neg (by omega)])); try rw [hy_up_row]; try rfl) | exact ih (k + 1) _ _ (z) _ _ _ (by omega) (by omega) (by omega) (by omega) (by first | exact hF | exact hF.up (by rfl)) (by rw [← hv]; refine (rc_go (by omega) ?_).symm; unfold rc_step; (repeat (first | rw [if_pos (by omega)] | rw [if_neg (by omega)])); try rw [hy_up_row]; try rfl) | exact ih (k + 1) _ _ (z - 1) _ _ _ (by omega) (by omega) (by omega) (by omega) (by first | exact hF | exact hF.up (by rfl)) (by rw [← hv]; refine (rc_go (by omega) ?_).symm; unfold rc_step; (repeat (first | rw [if_pos (by omega)] | rw [if_neg (by omega)])); try rw [hy_up_row]; try rfl)
                                · refine hy_const (i := 131) rfl (by decide) ?_
                                  refine hy_ireturn (i := 132) rfl rfl ?_
                                  first | (exfalso; omega) | (refine ⟨congrArg some ?_, hF⟩; rw [← hv]; first | (rw [rc_no (by omega) (by unfold rc_step; repeat (first | rw [if_pos (by omega)] | rw [if_neg (by omega)]))]; done) | (rw [rc_stop (by omega)]; unfold rc_end; first | rw [if_pos (by omega)] | rw [if_neg (by omega)]))
                        · refine hy_aload (i := 93) rfl rfl ?_
                          refine hy_getr (i := 94) rfl rfl ?_
                          refine hy_iload (i := 95) rfl rfl ?_
                          refine hy_const (i := 96) rfl (by decide) ?_
                          refine hy_isub (i := 97) rfl (by omega) ?_
                          refine hy_iald (i := 98) rfl rfl (by omega) (k := z - 1) (by omega) ?_
                          refine hy_if_eq (i := 99) (tt := 102) rfl (fun zc11 => ?_) (fun zc11 => ?_)
                          · refine hy_const (i := 102) rfl (by decide) ?_
                            refine hy_iload (i := 103) rfl rfl ?_
                            refine hy_const (i := 104) rfl (by decide) ?_
                            refine hy_ic_ne (i := 105) (tt := 108) rfl (fun zc12 => ?_) (fun zc12 => ?_)
                            · refine hy_const (i := 108) rfl (by decide) ?_
                              refine hy_ic_ne (i := 109) (tt := 113) rfl (fun zc13 => ?_) (fun zc13 => ?_)
                              · refine hy_iinc (i := 113) rfl rfl (by omega) ?_
                                refine hy_goto (i := 114) (tt := 152) rfl ?_
                                refine hy_iinc (i := 152) rfl rfl (by omega) ?_
                                refine hy_goto (i := 153) (tt := 6) rfl ?_
                                first | (exfalso; omega) | exact ih (k + 1) _ _ (z + 1) _ _ _ (by omega) (by omega) (by omega) (by omega) (by first | exact hF | exact hF.up (by rfl)) (by rw [← hv]; refine (rc_go (by omega) ?_).symm; unfold rc_step; (repeat (first | rw [if_pos (by omega)] | rw [if_neg (by omega)])); try rw [hy_up_row]; try rfl) | exact ih (k + 1) _ _ (z) _ _ _ (by omega) (by omega) (by omega) (by omega) (by first | exact hF | exact hF.up (by rfl)) (by rw [← hv]; refine (rc_go (by omega) ?_).symm; unfold rc_step; (repeat (first | rw [if_pos (by omega)] | rw [if_neg (by omega)])); try rw [hy_up_row]; try rfl) | exact ih (k + 1) _ _ (z - 1) _ _ _ (by omega) (by omega) (by omega) (by omega) (by first | exact hF | exact hF.up (by rfl)) (by rw [← hv]; refine (rc_go (by omega) ?_).symm; unfold rc_step; (repeat (first | rw [if_pos (by omega)] | rw [if_neg (by omega)])); try rw [hy_up_row]; try rfl)
                              · refine hy_iload (i := 110) rfl rfl ?_
                                refine hy_istore (i := 111) rfl ?_
                                refine hy_goto (i := 112) (tt := 152) rfl ?_
                                refine hy_iinc (i := 152) rfl rfl (by omega) ?_
                                refine hy_goto (i := 153) (tt := 6) rfl ?_
                                first | (exfalso; omega) | exact ih (k + 1) _ _ (z + 1) _ _ _ (by omega) (by omega) (by omega) (by omega) (by first | exact hF | exact hF.up (by rfl)) (by rw [← hv]; refine (rc_go (by omega) ?_).symm; unfold rc_step; (repeat (first | rw [if_pos (by omega)] | rw [if_neg (by omega)])); try rw [hy_up_row]; try rfl) | exact ih (k + 1) _ _ (z) _ _ _ (by omega) (by omega) (by omega) (by omega) (by first | exact hF | exact hF.up (by rfl)) (by rw [← hv]; refine (rc_go (by omega) ?_).symm; unfold rc_step; (repeat (first | rw [if_pos (by omega)] | rw [if_neg (by omega)])); try rw [hy_up_row]; try rfl) | exact ih (k + 1) _ _ (z - 1) _ _ _ (by omega) (by omega) (by omega) (by omega) (by first | exact hF | exact hF.up (by rfl)) (by rw [← hv]; refine (rc_go (by omega) ?_).symm; unfold rc_step; (repeat (first | rw [if_pos (by omega)] | rw [if_neg (by omega)])); try rw [hy_up_row]; try rfl)
                            · refine hy_const (i := 106) rfl (by decide) ?_
                              refine hy_goto (i := 107) (tt := 109) rfl ?_
                              refine hy_ic_ne (i := 109) (tt := 113) rfl (fun zc13 => ?_) (fun zc13 => ?_)
                              · refine hy_iinc (i := 113) rfl rfl (by omega) ?_
                                refine hy_goto (i := 114) (tt := 152) rfl ?_
                                refine hy_iinc (i := 152) rfl rfl (by omega) ?_
                                refine hy_goto (i := 153) (tt := 6) rfl ?_
                                first | (exfalso; omega) | exact ih (k + 1) _ _ (z + 1) _ _ _ (by omega) (by omega) (by omega) (by omega) (by first | exact hF | exact hF.up (by rfl)) (by rw [← hv]; refine (rc_go (by omega) ?_).symm; unfold rc_step; (repeat (first | rw [if_pos (by omega)] | rw [if_neg (by omega)])); try rw [hy_up_row]; try rfl) | exact ih (k + 1) _ _ (z) _ _ _ (by omega) (by omega) (by omega) (by omega) (by first | exact hF | exact hF.up (by rfl)) (by rw [← hv]; refine (rc_go (by omega) ?_).symm; unfold rc_step; (repeat (first | rw [if_pos (by omega)] | rw [if_neg (by omega)])); try rw [hy_up_row]; try rfl) | exact ih (k + 1) _ _ (z - 1) _ _ _ (by omega) (by omega) (by omega) (by omega) (by first | exact hF | exact hF.up (by rfl)) (by rw [← hv]; refine (rc_go (by omega) ?_).symm; unfold rc_step; (repeat (first | rw [if_pos (by omega)] | rw [if_neg (by omega)])); try rw [hy_up_row]; try rfl)
                              · refine hy_iload (i := 110) rfl rfl ?_
                                refine hy_istore (i := 111) rfl ?_
                                refine hy_goto (i := 112) (tt := 152) rfl ?_
                                refine hy_iinc (i := 152) rfl rfl (by omega) ?_
                                refine hy_goto (i := 153) (tt := 6) rfl ?_
                                first | (exfalso; omega) | exact ih (k + 1) _ _ (z + 1) _ _ _ (by omega) (by omega) (by omega) (by omega) (by first | exact hF | exact hF.up (by rfl)) (by rw [← hv]; refine (rc_go (by omega) ?_).symm; unfold rc_step; (repeat (first | rw [if_pos (by omega)] | rw [if_neg (by omega)])); try rw [hy_up_row]; try rfl) | exact ih (k + 1) _ _ (z) _ _ _ (by omega) (by omega) (by omega) (by omega) (by first | exact hF | exact hF.up (by rfl)) (by rw [← hv]; refine (rc_go (by omega) ?_).symm; unfold rc_step; (repeat (first | rw [if_pos (by omega)] | rw [if_neg (by omega)])); try rw [hy_up_row]; try rfl) | exact ih (k + 1) _ _ (z - 1) _ _ _ (by omega) (by omega) (by omega) (by omega) (by first | exact hF | exact hF.up (by rfl)) (by rw [← hv]; refine (rc_go (by omega) ?_).symm; unfold rc_step; (repeat (first | rw [if_pos (by omega)] | rw [if_neg (by omega)])); try rw [hy_up_row]; try rfl)
                          · refine hy_const (i := 100) rfl (by decide) ?_
                            refine hy_goto (i := 101) (tt := 103) rfl ?_
                            refine hy_iload (i := 103) rfl rfl ?_
                            refine hy_const (i := 104) rfl (by decide) ?_
                            refine hy_ic_ne (i := 105) (tt := 108) rfl (fun zc12 => ?_) (fun zc12 => ?_)
                            · refine hy_const (i := 108) rfl (by decide) ?_
                              refine hy_ic_ne (i := 109) (tt := 113) rfl (fun zc13 => ?_) (fun zc13 => ?_)
                              · refine hy_iinc (i := 113) rfl rfl (by omega) ?_
                                refine hy_goto (i := 114) (tt := 152) rfl ?_
                                refine hy_iinc (i := 152) rfl rfl (by omega) ?_
                                refine hy_goto (i := 153) (tt := 6) rfl ?_
                                first | (exfalso; omega) | exact ih (k + 1) _ _ (z + 1) _ _ _ (by omega) (by omega) (by omega) (by omega) (by first | exact hF | exact hF.up (by rfl)) (by rw [← hv]; refine (rc_go (by omega) ?_).symm; unfold rc_step; (repeat (first | rw [if_pos (by omega)] | rw [if_neg (by omega)])); try rw [hy_up_row]; try rfl) | exact ih (k + 1) _ _ (z) _ _ _ (by omega) (by omega) (by omega) (by omega) (by first | exact hF | exact hF.up (by rfl)) (by rw [← hv]; refine (rc_go (by omega) ?_).symm; unfold rc_step; (repeat (first | rw [if_pos (by omega)] | rw [if_neg (by omega)])); try rw [hy_up_row]; try rfl) | exact ih (k + 1) _ _ (z - 1) _ _ _ (by omega) (by omega) (by omega) (by omega) (by first | exact hF | exact hF.up (by rfl)) (by rw [← hv]; refine (rc_go (by omega) ?_).symm; unfold rc_step; (repeat (first | rw [if_pos (by omega)] | rw [if_neg (by omega)])); try rw [hy_up_row]; try rfl)
                              · refine hy_iload (i := 110) rfl rfl ?_
                                refine hy_istore (i := 111) rfl ?_
                                refine hy_goto (i := 112) (tt := 152) rfl ?_
                                refine hy_iinc (i := 152) rfl rfl (by omega) ?_
                                refine hy_goto (i := 153) (tt := 6) rfl ?_
                                first | (exfalso; omega) | exact ih (k + 1) _ _ (z + 1) _ _ _ (by omega) (by omega) (by omega) (by omega) (by first | exact hF | exact hF.up (by rfl)) (by rw [← hv]; refine (rc_go (by omega) ?_).symm; unfold rc_step; (repeat (first | rw [if_pos (by omega)] | rw [if_neg (by omega)])); try rw [hy_up_row]; try rfl) | exact ih (k + 1) _ _ (z) _ _ _ (by omega) (by omega) (by omega) (by omega) (by first | exact hF | exact hF.up (by rfl)) (by rw [← hv]; refine (rc_go (by omega) ?_).symm; unfold rc_step; (repeat (first | rw [if_pos (by omega)] | rw [if_neg (by omega)])); try rw [hy_up_row]; try rfl) | exact ih (k + 1) _ _ (z - 1) _ _ _ (by omega) (by omega) (by omega) (by omega) (by first | exact hF | exact hF.up (by rfl)) (by rw [← hv]; refine (rc_go (by omega) ?_).symm; unfold rc_step; (repeat (first | rw [if_pos (by omega)] | rw [if_neg (by omega)])); try rw [hy_up_row]; try rfl)
                            · refine hy_const (i := 106) rfl (by decide) ?_
                              refine hy_goto (i := 107) (tt := 109) rfl ?_
                              refine hy_ic_ne (i := 109) (tt := 113) rfl (fun zc13 => ?_) (fun zc13 => ?_)
                              · refine hy_iinc (i := 113) rfl rfl (by omega) ?_
                                refine hy_goto (i := 114) (tt := 152) rfl ?_
                                refine hy_iinc (i := 152) rfl rfl (by omega) ?_
                                refine hy_goto (i := 153) (tt := 6) rfl ?_
                                first | (exfalso; omega) | exact ih (k + 1) _ _ (z + 1) _ _ _ (by omega) (by omega) (by omega) (by omega) (by first | exact hF | exact hF.up (by rfl)) (by rw [← hv]; refine (rc_go (by omega) ?_).symm; unfold rc_step; (repeat (first | rw [if_pos (by omega)] | rw [if_neg (by omega)])); try rw [hy_up_row]; try rfl) | exact ih (k + 1) _ _ (z) _ _ _ (by omega) (by omega) (by omega) (by omega) (by first | exact hF | exact hF.up (by rfl)) (by rw [← hv]; refine (rc_go (by omega) ?_).symm; unfold rc_step; (repeat (first | rw [if_pos (by omega)] | rw [if_neg (by omega)])); try rw [hy_up_row]; try rfl) | exact ih (k + 1) _ _ (z - 1) _ _ _ (by omega) (by omega) (by omega) (by omega) (by first | exact hF | exact hF.up (by rfl)) (by rw [← hv]; refine (rc_go (by omega) ?_).symm; unfold rc_step; (repeat (first | rw [if_pos (by omega)] | rw [if_neg (by omega)])); try rw [hy_up_row]; try rfl)
                              · refine hy_iload (i := 110) rfl rfl ?_
                                refine hy_istore (i := 111) rfl ?_
                                refine hy_goto (i := 112) (tt := 152) rfl ?_
                                refine hy_iinc (i := 152) rfl rfl (by omega) ?_
                                refine hy_goto (i := 153) (tt := 6) rfl ?_
                                first | (exfalso; omega) | exact ih (k + 1) _ _ (z + 1) _ _ _ (by omega) (by omega) (by omega) (by omega) (by first | exact hF | exact hF.up (by rfl)) (by rw [← hv]; refine (rc_go (by omega) ?_).symm; unfold rc_step; (repeat (first | rw [if_pos (by omega)] | rw [if_neg (by omega)])); try rw [hy_up_row]; try rfl) | exact ih (k + 1) _ _ (z) _ _ _ (by omega) (by omega) (by omega) (by omega) (by first | exact hF | exact hF.up (by rfl)) (by rw [← hv]; refine (rc_go (by omega) ?_).symm; unfold rc_step; (repeat (first | rw [if_pos (by omega)] | rw [if_neg (by omega)])); try rw [hy_up_row]; try rfl) | exact ih (k + 1) _ _ (z - 1) _ _ _ (by omega) (by omega) (by omega) (by omega) (by first | exact hF | exact hF.up (by rfl)) (by rw [← hv]; refine (rc_go (by omega) ?_).symm; unfold rc_step; (repeat (first | rw [if_pos (by omega)] | rw [if_neg (by omega)])); try rw [hy_up_row]; try rfl)
                    · refine hy_aload (i := 72) rfl rfl ?_
                      refine hy_getr (i := 73) rfl rfl ?_
                      refine hy_iload (i := 74) rfl rfl ?_
                      refine hy_const (i := 75) rfl (by decide) ?_
                      refine hy_isub (i := 76) rfl (by omega) ?_
                      refine hy_const (i := 77) rfl (by decide) ?_
                      refine hy_aload (i := 78) rfl rfl ?_
                      refine hy_getr (i := 79) rfl rfl ?_
                      refine hy_iload (i := 80) rfl rfl ?_
                      refine hy_const (i := 81) rfl (by decide) ?_
                      refine hy_isub (i := 82) rfl (by omega) ?_
                      refine hy_iald (i := 83) rfl rfl (by omega) (k := z - 1) (by omega) ?_
                      refine hy_isubw (i := 84) rfl ?_
                      refine hy_iast (i := 85) rfl rfl (by omega) (k := z - 1) (by omega) ?_
                      refine hy_goto (i := 86) (tt := 152) rfl ?_
                      refine hy_iinc (i := 152) rfl rfl (by omega) ?_
                      refine hy_goto (i := 153) (tt := 6) rfl ?_
                      first | (exfalso; omega) | exact ih (k + 1) _ _ (z + 1) _ _ _ (by omega) (by omega) (by omega) (by omega) (by first | exact hF | exact hF.up (by rfl)) (by rw [← hv]; refine (rc_go (by omega) ?_).symm; unfold rc_step; (repeat (first | rw [if_pos (by omega)] | rw [if_neg (by omega)])); try rw [hy_up_row]; try rfl) | exact ih (k + 1) _ _ (z) _ _ _ (by omega) (by omega) (by omega) (by omega) (by first | exact hF | exact hF.up (by rfl)) (by rw [← hv]; refine (rc_go (by omega) ?_).symm; unfold rc_step; (repeat (first | rw [if_pos (by omega)] | rw [if_neg (by omega)])); try rw [hy_up_row]; try rfl) | exact ih (k + 1) _ _ (z - 1) _ _ _ (by omega) (by omega) (by omega) (by omega) (by first | exact hF | exact hF.up (by rfl)) (by rw [← hv]; refine (rc_go (by omega) ?_).symm; unfold rc_step; (repeat (first | rw [if_pos (by omega)] | rw [if_neg (by omega)])); try rw [hy_up_row]; try rfl)
                  · refine hy_const (i := 67) rfl (by decide) ?_
                    refine hy_ireturn (i := 68) rfl rfl ?_
                    first | (exfalso; omega) | (refine ⟨congrArg some ?_, hF⟩; rw [← hv]; first | (rw [rc_no (by omega) (by unfold rc_step; repeat (first | rw [if_pos (by omega)] | rw [if_neg (by omega)]))]; done) | (rw [rc_stop (by omega)]; unfold rc_end; first | rw [if_pos (by omega)] | rw [if_neg (by omega)]))
                · refine hy_iload (i := 38) rfl rfl ?_
                  refine hy_aload (i := 39) rfl rfl ?_
                  refine hy_getr (i := 40) rfl rfl ?_
                  refine hy_alen (i := 41) rfl rfl (by decide) (by decide) ?_
                  refine hy_ic_ge (i := 42) (tt := 152) rfl (fun zc7 => ?_) (fun zc7 => ?_)
                  · refine hy_iinc (i := 152) rfl rfl (by omega) ?_
                    refine hy_goto (i := 153) (tt := 6) rfl ?_
                    first | (exfalso; omega) | exact ih (k + 1) _ _ (z + 1) _ _ _ (by omega) (by omega) (by omega) (by omega) (by first | exact hF | exact hF.up (by rfl)) (by rw [← hv]; refine (rc_go (by omega) ?_).symm; unfold rc_step; (repeat (first | rw [if_pos (by omega)] | rw [if_neg (by omega)])); try rw [hy_up_row]; try rfl) | exact ih (k + 1) _ _ (z) _ _ _ (by omega) (by omega) (by omega) (by omega) (by first | exact hF | exact hF.up (by rfl)) (by rw [← hv]; refine (rc_go (by omega) ?_).symm; unfold rc_step; (repeat (first | rw [if_pos (by omega)] | rw [if_neg (by omega)])); try rw [hy_up_row]; try rfl) | exact ih (k + 1) _ _ (z - 1) _ _ _ (by omega) (by omega) (by omega) (by omega) (by first | exact hF | exact hF.up (by rfl)) (by rw [← hv]; refine (rc_go (by omega) ?_).symm; unfold rc_step; (repeat (first | rw [if_pos (by omega)] | rw [if_neg (by omega)])); try rw [hy_up_row]; try rfl)
                  · refine hy_iload (i := 43) rfl rfl ?_
                    refine hy_const (i := 44) rfl (by decide) ?_
                    refine hy_ic_eq (i := 45) (tt := 49) rfl (fun zc8 => ?_) (fun zc8 => ?_)
                    · refine hy_aload (i := 49) rfl rfl ?_
                      refine hy_getr (i := 50) rfl rfl ?_
                      refine hy_iload (i := 51) rfl rfl ?_
                      refine hy_iload (i := 52) rfl rfl ?_
                      refine hy_const (i := 53) rfl (by decide) ?_
                      refine hy_ic_ne (i := 54) (tt := 57) rfl (fun zc9 => ?_) (fun zc9 => ?_)
                      · refine hy_aload (i := 57) rfl rfl ?_
                        refine hy_getr (i := 58) rfl rfl ?_
                        refine hy_iload (i := 59) rfl rfl ?_
                        refine hy_iald (i := 60) rfl rfl (by omega) rfl ?_
                        try rw [o3]
                        refine hy_iast (i := 61) rfl rfl (by omega) (k := z) (by omega) ?_
                        refine hy_iinc (i := 62) rfl rfl (by omega) ?_
                        refine hy_goto (i := 63) (tt := 152) rfl ?_
                        refine hy_iinc (i := 152) rfl rfl (by omega) ?_
                        refine hy_goto (i := 153) (tt := 6) rfl ?_
                        first | (exfalso; omega) | exact ih (k + 1) _ _ (z + 1) _ _ _ (by omega) (by omega) (by omega) (by omega) (by first | exact hF | exact hF.up (by rfl)) (by rw [← hv]; refine (rc_go (by omega) ?_).symm; unfold rc_step; (repeat (first | rw [if_pos (by omega)] | rw [if_neg (by omega)])); try rw [hy_up_row]; try rfl) | exact ih (k + 1) _ _ (z) _ _ _ (by omega) (by omega) (by omega) (by omega) (by first | exact hF | exact hF.up (by rfl)) (by rw [← hv]; refine (rc_go (by omega) ?_).symm; unfold rc_step; (repeat (first | rw [if_pos (by omega)] | rw [if_neg (by omega)])); try rw [hy_up_row]; try rfl) | exact ih (k + 1) _ _ (z - 1) _ _ _ (by omega) (by omega) (by omega) (by omega) (by first | exact hF | exact hF.up (by rfl)) (by rw [← hv]; refine (rc_go (by omega) ?_).symm; unfold rc_step; (repeat (first | rw [if_pos (by omega)] | rw [if_neg (by omega)])); try rw [hy_up_row]; try rfl)
                      · refine hy_iload (i := 55) rfl rfl ?_
                        refine hy_goto (i := 56) (tt := 61) rfl ?_
                        try rw [o3]
                        refine hy_iast (i := 61) rfl rfl (by omega) (k := z) (by omega) ?_
                        refine hy_iinc (i := 62) rfl rfl (by omega) ?_
                        refine hy_goto (i := 63) (tt := 152) rfl ?_
                        refine hy_iinc (i := 152) rfl rfl (by omega) ?_
                        refine hy_goto (i := 153) (tt := 6) rfl ?_
                        first | (exfalso; omega) | exact ih (k + 1) _ _ (z + 1) _ _ _ (by omega) (by omega) (by omega) (by omega) (by first | exact hF | exact hF.up (by rfl)) (by rw [← hv]; refine (rc_go (by omega) ?_).symm; unfold rc_step; (repeat (first | rw [if_pos (by omega)] | rw [if_neg (by omega)])); try rw [hy_up_row]; try rfl) | exact ih (k + 1) _ _ (z) _ _ _ (by omega) (by omega) (by omega) (by omega) (by first | exact hF | exact hF.up (by rfl)) (by rw [← hv]; refine (rc_go (by omega) ?_).symm; unfold rc_step; (repeat (first | rw [if_pos (by omega)] | rw [if_neg (by omega)])); try rw [hy_up_row]; try rfl) | exact ih (k + 1) _ _ (z - 1) _ _ _ (by omega) (by omega) (by omega) (by omega) (by first | exact hF | exact hF.up (by rfl)) (by rw [← hv]; refine (rc_go (by omega) ?_).symm; unfold rc_step; (repeat (first | rw [if_pos (by omega)] | rw [if_neg (by omega)])); try rw [hy_up_row]; try rfl)
                    · refine hy_iload (i := 46) rfl rfl ?_
                      refine hy_const (i := 47) rfl (by decide) ?_
                      refine hy_ic_ge (i := 48) (tt := 152) rfl (fun zc9 => ?_) (fun zc9 => ?_)
                      · refine hy_iinc (i := 152) rfl rfl (by omega) ?_
                        refine hy_goto (i := 153) (tt := 6) rfl ?_
                        first | (exfalso; omega) | exact ih (k + 1) _ _ (z + 1) _ _ _ (by omega) (by omega) (by omega) (by omega) (by first | exact hF | exact hF.up (by rfl)) (by rw [← hv]; refine (rc_go (by omega) ?_).symm; unfold rc_step; (repeat (first | rw [if_pos (by omega)] | rw [if_neg (by omega)])); try rw [hy_up_row]; try rfl) | exact ih (k + 1) _ _ (z) _ _ _ (by omega) (by omega) (by omega) (by omega) (by first | exact hF | exact hF.up (by rfl)) (by rw [← hv]; refine (rc_go (by omega) ?_).symm; unfold rc_step; (repeat (first | rw [if_pos (by omega)] | rw [if_neg (by omega)])); try rw [hy_up_row]; try rfl) | exact ih (k + 1) _ _ (z - 1) _ _ _ (by omega) (by omega) (by omega) (by omega) (by first | exact hF | exact hF.up (by rfl)) (by rw [← hv]; refine (rc_go (by omega) ?_).symm; unfold rc_step; (repeat (first | rw [if_pos (by omega)] | rw [if_neg (by omega)])); try rw [hy_up_row]; try rfl)
                      · refine hy_aload (i := 49) rfl rfl ?_
                        refine hy_getr (i := 50) rfl rfl ?_
                        refine hy_iload (i := 51) rfl rfl ?_
                        refine hy_iload (i := 52) rfl rfl ?_
                        refine hy_const (i := 53) rfl (by decide) ?_
                        refine hy_ic_ne (i := 54) (tt := 57) rfl (fun zc10 => ?_) (fun zc10 => ?_)
                        · refine hy_aload (i := 57) rfl rfl ?_
                          refine hy_getr (i := 58) rfl rfl ?_
                          refine hy_iload (i := 59) rfl rfl ?_
                          refine hy_iald (i := 60) rfl rfl (by omega) rfl ?_
                          try rw [o3]
                          refine hy_iast (i := 61) rfl rfl (by omega) (k := z) (by omega) ?_
                          refine hy_iinc (i := 62) rfl rfl (by omega) ?_
                          refine hy_goto (i := 63) (tt := 152) rfl ?_
                          refine hy_iinc (i := 152) rfl rfl (by omega) ?_
                          refine hy_goto (i := 153) (tt := 6) rfl ?_
                          first | (exfalso; omega) | exact ih (k + 1) _ _ (z + 1) _ _ _ (by omega) (by omega) (by omega) (by omega) (by first | exact hF | exact hF.up (by rfl)) (by rw [← hv]; refine (rc_go (by omega) ?_).symm; unfold rc_step; (repeat (first | rw [if_pos (by omega)] | rw [if_neg (by omega)])); try rw [hy_up_row]; try rfl) | exact ih (k + 1) _ _ (z) _ _ _ (by omega) (by omega) (by omega) (by omega) (by first | exact hF | exact hF.up (by rfl)) (by rw [← hv]; refine (rc_go (by omega) ?_).symm; unfold rc_step; (repeat (first | rw [if_pos (by omega)] | rw [if_neg (by omega)])); try rw [hy_up_row]; try rfl) | exact ih (k + 1) _ _ (z - 1) _ _ _ (by omega) (by omega) (by omega) (by omega) (by first | exact hF | exact hF.up (by rfl)) (by rw [← hv]; refine (rc_go (by omega) ?_).symm; unfold rc_step; (repeat (first | rw [if_pos (by omega)] | rw [if_neg (by omega)])); try rw [hy_up_row]; try rfl)
                        · refine hy_iload (i := 55) rfl rfl ?_
                          refine hy_goto (i := 56) (tt := 61) rfl ?_
                          try rw [o3]
                          refine hy_iast (i := 61) rfl rfl (by omega) (k := z) (by omega) ?_
                          refine hy_iinc (i := 62) rfl rfl (by omega) ?_
                          refine hy_goto (i := 63) (tt := 152) rfl ?_
                          refine hy_iinc (i := 152) rfl rfl (by omega) ?_
                          refine hy_goto (i := 153) (tt := 6) rfl ?_
                          first | (exfalso; omega) | exact ih (k + 1) _ _ (z + 1) _ _ _ (by omega) (by omega) (by omega) (by omega) (by first | exact hF | exact hF.up (by rfl)) (by rw [← hv]; refine (rc_go (by omega) ?_).symm; unfold rc_step; (repeat (first | rw [if_pos (by omega)] | rw [if_neg (by omega)])); try rw [hy_up_row]; try rfl) | exact ih (k + 1) _ _ (z) _ _ _ (by omega) (by omega) (by omega) (by omega) (by first | exact hF | exact hF.up (by rfl)) (by rw [← hv]; refine (rc_go (by omega) ?_).symm; unfold rc_step; (repeat (first | rw [if_pos (by omega)] | rw [if_neg (by omega)])); try rw [hy_up_row]; try rfl) | exact ih (k + 1) _ _ (z - 1) _ _ _ (by omega) (by omega) (by omega) (by omega) (by first | exact hF | exact hF.up (by rfl)) (by rw [← hv]; refine (rc_go (by omega) ?_).symm; unfold rc_step; (repeat (first | rw [if_pos (by omega)] | rw [if_neg (by omega)])); try rw [hy_up_row]; try rfl)
  refine hy_const (i := 0) rfl (by decide) ?_
  refine hy_istore (i := 1) rfl ?_
  refine hy_iload (i := 2) rfl rfl ?_
  refine hy_istore (i := 3) rfl ?_
  refine hy_const (i := 4) rfl (by decide) ?_
  refine hy_istore (i := 5) rfl ?_
  exact loop 240 0 a 0 0 t _ _ rfl (by decide) (by decide) rfl hy_F.rf (rc_eq _ _ _ _ 240 a 0 _ _ (fun j hj => by omega))
end LW
/-! the class's law: clauses -/
def lc_val (t : hy_T) (V : Nat → Int) (a : Int) : Int := rc_run (t 12) (t 13) V (t 11 3) 240 a 0 (fun _ => 0)
def lc_hold (t : hy_T) (V : Nat → Int) (k : Int) : Bool := decide (∃ j : Nat, j < (t 11 7).toNat ∧ t 14 j = k ∧ lc_val t V (t 16 j) ≠ 0)
def lc_clamp (m v : Int) : Int := if 0 < (if v < m then v else m) then (if v < m then v else m) else 0
def lc_amtN (t : hy_T) (V : Nat → Int) (k m : Int) : Nat → Nat → Int
  | 0, _ => 0
  | n + 1, j => if t 14 j = k ∧ lc_val t V (t 16 j) ≠ 0 then lc_clamp m (lc_val t V (t 15 j)) else lc_amtN t V k m n (j + 1)
def lc_amt (t : hy_T) (V : Nat → Int) (k m : Int) : Int := lc_amtN t V k m (t 11 7).toNat 0
/-- what the letters stand for -/
def LV (e c q dd m a b n g o : Int) : Nat → Int := fun j => match j with
  | 0 => e
  | 1 => c
  | 2 => q
  | 3 => dd
  | 4 => m
  | 5 => a
  | 6 => b
  | 7 => n
  | 8 => g
  | 9 => o
  | _ => 0
/-- only ten values are read -/
theorem rc_vals (ops args : Nat → Int) (V V' : Nat → Int) (steps : Int) (hv : ∀ j, j < 10 → V j = V' j) : ∀ (n : Nat) (a : Int) (z : Nat) (f : Nat → Int), rc_run ops args V steps n a z f = rc_run ops args V' steps n a z f
  | 0, a, z, f => rfl
  | n + 1, a, z, f => by
    have key : rc_step (ops a.toNat) (args a.toNat) V (a + 1) z f = rc_step (ops a.toNat) (args a.toNat) V' (a + 1) z f := by
      unfold rc_step
      by_cases zc1 : ops a.toNat = 48 ∨ ops a.toNat = 97
      · rw [if_pos zc1, if_pos zc1]
        by_cases zc2 : z < 32 ∧ (ops a.toNat = 48 ∨ args a.toNat < 10)
        · rw [if_pos zc2, if_pos zc2]
          by_cases zc3 : ops a.toNat = 48
          · rw [if_pos zc3, if_pos zc3]
          · rw [if_neg zc3, if_neg zc3, hv _ (by omega)]
        · rw [if_neg zc2, if_neg zc2]
      · rw [if_neg zc1, if_neg zc1]
    by_cases hc : 0 ≤ a ∧ a < steps ∧ ops a.toNat ≠ 46
    · cases h : rc_step (ops a.toNat) (args a.toNat) V' (a + 1) z f with
      | none => rw [rc_no hc (key.trans h), rc_no hc h]
      | some q =>
        obtain ⟨a', z', f'⟩ := q
        rw [rc_go hc (key.trans h), rc_go hc h]
        exact rc_vals ops args V V' steps hv n a' z' f'
    · rw [rc_stop hc, rc_stop hc]
theorem lc_val_V {t : hy_T} {V V' : Nat → Int} (hv : ∀ j, j < 10 → V j = V' j) (a : Int) : lc_val t V a = lc_val t V' a := rc_vals _ _ V V' _ hv 240 a 0 _
theorem lc_hold_V {t : hy_T} {V V' : Nat → Int} (hv : ∀ j, j < 10 → V j = V' j) (k : Int) : lc_hold t V k = lc_hold t V' k := by
  unfold lc_hold
  simp only [lc_val_V hv]
theorem lc_amt_V {t : hy_T} {V V' : Nat → Int} (hv : ∀ j, j < 10 → V j = V' j) (k m : Int) : lc_amt t V k m = lc_amt t V' k m := by
  have h : ∀ n j, lc_amtN t V k m n j = lc_amtN t V' k m n j := by
    intro n
    induction n with
    | zero => intro j; rfl
    | succ n ih => intro j; simp only [lc_amtN, lc_val_V hv, ih]
  exact h _ _
/-- the places where a law is held -/
abbrev lawX : Nat → Nat → Bool := fun r j => (r == 12 || r == 13 || r == 14 || r == 15 || r == 16) || (r == 11 && (j == 3 || j == 7))
def lc_same (t t' : hy_T) : Prop := ∀ r j, lawX r j = true → t' r j = t r j
theorem lc_same_val {t t' : hy_T} (h : lc_same t t') (V : Nat → Int) (a : Int) : lc_val t' V a = lc_val t V a := by
  unfold lc_val
  rw [show t' 12 = t 12 from funext fun j => h 12 j rfl, show t' 13 = t 13 from funext fun j => h 13 j rfl, h 11 3 rfl]
theorem lc_same_hold {t t' : hy_T} (h : lc_same t t') (V : Nat → Int) (k : Int) : lc_hold t' V k = lc_hold t V k := by
  unfold lc_hold
  simp only [lc_same_val h, h 11 7 rfl, show ∀ j, t' 14 j = t 14 j from fun j => h 14 j rfl, show ∀ j, t' 16 j = t 16 j from fun j => h 16 j rfl]
theorem lc_same_amt {t t' : hy_T} (h : lc_same t t') (V : Nat → Int) (k m : Int) : lc_amt t' V k m = lc_amt t V k m := by
  have h1 : ∀ n j, lc_amtN t' V k m n j = lc_amtN t V k m n j := by
    intro n
    induction n with
    | zero => intro j; rfl
    | succ n ih => intro j; simp only [lc_amtN, lc_same_val h, ih, show ∀ j, t' 14 j = t 14 j from fun j => h 14 j rfl, show ∀ j, t' 15 j = t 15 j from fun j => h 15 j rfl, show ∀ j, t' 16 j = t 16 j from fun j => h 16 j rfl]
  unfold lc_amt
  rw [h1, h 11 7 rfl]
theorem lc_same_has {t t' : hy_T} (h : lc_same t t') (k : Int) : rc_has t' k = rc_has t k := by
  unfold rc_has
  simp only [h 11 7 rfl, show ∀ j, t' 14 j = t 14 j from fun j => h 14 j rfl]
theorem lc_same_of {X : Nat → Nat → Bool} {t t' : hy_T} (h : hy_F X t t') (hX : ∀ r j, lawX r j = true → X r j = false) : lc_same t t' := fun r j q => h r j (hX r j q)
theorem rc_val_lc (t : hy_T) (a : Int) : rc_val t 11 a = lc_val t (t 17) a := rfl
/-- a law that is well laid: what its evaluation needs -/
def lc_ok (t : hy_T) : Prop := t 11 3 ≤ 241 ∧ (0 ≤ t 11 7 ∧ t 11 7 ≤ 16) ∧ ∀ j : Nat, j < 241 → 0 ≤ t 13 j
theorem lc_ok_same {t t' : hy_T} (h : lc_same t t') (hk : lc_ok t) : lc_ok t' := by
  obtain ⟨h1, h2, h3⟩ := hk
  exact ⟨by rw [h 11 3 rfl]; exact h1, by rw [h 11 7 rfl]; exact h2, fun j hj => by rw [h 13 j rfl]; exact h3 j hj⟩
section LX
variable {sc : List Int32} {t : hy_T}
theorem c_L_holds {k : Int} (hk : lc_ok t) : hy_Ct sc hm_L_holds 2 [.inr (some 11), .inl k] t (fun r t' => r = some (hy_b (lc_hold t (t 17) k)) ∧ hy_F rX t t') := by
  refine hy_mk_ct ok_L_holds ck_L_holds (Nat.le_of_ble_eq_true rfl) ?_
  have loop : ∀ (n : Nat), ∀ (j : Nat) (t1 : hy_T), n + j = (t 11 7).toNat → hy_F rX t t1 → (∀ m : Nat, m < j → ¬ (t 14 m = k ∧ lc_val t (t 17) (t 16 m) ≠ 0)) → hy_W sc hm_L_holds 2 2 [.inr (some 11), .inl k, .inl (j : Int)] [] t1 (fun r t' => r = some (hy_b (lc_hold t (t 17) k)) ∧ hy_F rX t t') := by
    intro n
    induction n with
    | zero =>
      intro j t1 hj hF hi
      have o1 : t1 11 7 = t 11 7 := hF 11 7 rfl
      have hk2 := hk.2.1
      refine hy_iload (i := 2) rfl rfl ?_
      refine hy_aload (i := 3) rfl rfl ?_
      refine hy_get (i := 4) (fk := 7) rfl rfl rfl ?_
      rw [o1]
      refine hy_ic_ge (i := 5) (tt := 23) rfl (fun zc1 => ?_) (fun zc1 => ?_)
      · refine hy_const (i := 23) rfl (by decide) ?_
        refine hy_zreturn (i := 24) rfl rfl (by first | decide | exact hy_b01 _) ?_
        refine ⟨congrArg some ?_, hF⟩
        rw [show lc_hold t (t 17) k = false from decide_eq_false (fun ⟨m, h1, h2⟩ => hi m (by omega) h2)]
        rfl
      · omega
    | succ n ih =>
      intro j t1 hj hF hi
      have o1 : t1 11 7 = t 11 7 := hF 11 7 rfl
      have hk2 := hk.2.1
      have hs := lc_same_of hF (fun r j q => by revert q; simp [lawX, rX]; omega)
      obtain ⟨k1, -, k3⟩ := lc_ok_same hs hk
      have e1 : rc_val t1 11 (t1 16 j) = lc_val t (t 17) (t 16 j) := by rw [rc_val_lc, lc_same_val hs, show t1 17 = t 17 from funext fun z => hF 17 z rfl, hF 16 j rfl]
      have e2 : t1 14 j = t 14 j := hF 14 j rfl
      refine hy_iload (i := 2) rfl rfl ?_
      refine hy_aload (i := 3) rfl rfl ?_
      refine hy_get (i := 4) (fk := 7) rfl rfl rfl ?_
      rw [o1]
      refine hy_ic_ge (i := 5) (tt := 23) rfl (fun zc1 => ?_) (fun zc1 => ?_)
      · omega
      · refine hy_aload (i := 6) rfl rfl ?_
        refine hy_getr (i := 7) rfl rfl ?_
        refine hy_iload (i := 8) rfl rfl ?_
        refine hy_iald (i := 9) rfl rfl (by omega) rfl ?_
        refine hy_iload (i := 10) rfl rfl ?_
        refine hy_ic_ne (i := 11) (tt := 21) rfl (fun zc2 => ?_) (fun zc2 => ?_)
        · refine hy_iinc (i := 21) rfl rfl (by omega) ?_
          refine hy_goto (i := 22) (tt := 2) rfl ?_
          refine ih (j + 1) _ (by omega) (by first | exact hF | exact hF.tr' (by assumption)) (fun m hm => ?_)
          rcases Nat.lt_succ_iff_lt_or_eq.mp hm with h | rfl
          · exact hi m h
          · intro q
            rw [← e1, ← e2] at q
            first | exact absurd q.1 (by assumption) | exact q.2 (by assumption)
        · refine hy_aload (i := 12) rfl rfl ?_
          refine hy_aload (i := 13) rfl rfl ?_
          refine hy_getr (i := 14) rfl rfl ?_
          refine hy_iload (i := 15) rfl rfl ?_
          refine hy_iald (i := 16) rfl rfl (by omega) rfl ?_
          refine hy_cV1 (i := 17) rfl mj_L_run (by decide) rfl (Nat.le_of_ble_eq_true rfl) rfl rfl rfl (c_L_run (by assumption) (by assumption)) (fun r1_ t1_ h1 => ?_)
          obtain ⟨rfl, hF1⟩ := h1
          dsimp only [hy_st, List.cons_append, List.nil_append]
          refine hy_if_eq (i := 18) (tt := 21) rfl (fun zc3 => ?_) (fun zc3 => ?_)
          · refine hy_iinc (i := 21) rfl rfl (by omega) ?_
            refine hy_goto (i := 22) (tt := 2) rfl ?_
            refine ih (j + 1) _ (by omega) (by first | exact hF | exact hF.tr' (by assumption)) (fun m hm => ?_)
            rcases Nat.lt_succ_iff_lt_or_eq.mp hm with h | rfl
            · exact hi m h
            · intro q
              rw [← e1, ← e2] at q
              first | exact absurd q.1 (by assumption) | exact q.2 (by assumption)
          · refine hy_const (i := 19) rfl (by decide) ?_
            refine hy_zreturn (i := 20) rfl rfl (by first | decide | exact hy_b01 _) ?_
            refine ⟨congrArg some ?_, by exact hF.tr' (by assumption)⟩
            rw [show lc_hold t (t 17) k = true from decide_eq_true ⟨j, by omega, by rw [← e2]; assumption, by rw [← e1]; assumption⟩]
            rfl
  refine hy_const (i := 0) rfl (by decide) ?_
  refine hy_istore (i := 1) rfl ?_
  exact loop (t 11 7).toNat 0 t rfl hy_F.rf (fun m hm => by omega)
theorem c_L_amount {k m : Int} (hk : lc_ok t) : hy_Ct sc hm_L_amount 2 [.inr (some 11), .inl k, .inl m] t (fun r t' => r = some (lc_amt t (t 17) k m) ∧ hy_F rX t t') := by
  refine hy_mk_ct ok_L_amount ck_L_amount (Nat.le_of_ble_eq_true rfl) ?_
  have loop : ∀ (n : Nat), ∀ (j : Nat) (t1 : hy_T), n + j = (t 11 7).toNat → hy_F rX t t1 → lc_amtN t (t 17) k m n j = lc_amt t (t 17) k m → hy_W sc hm_L_amount 2 2 [.inr (some 11), .inl k, .inl m, .inl (j : Int)] [] t1 (fun r t' => r = some (lc_amt t (t 17) k m) ∧ hy_F rX t t') := by
    intro n
    induction n with
    | zero =>
      intro j t1 hj hF hi
      have o1 : t1 11 7 = t 11 7 := hF 11 7 rfl
      have hk2 := hk.2.1
      refine hy_iload (i := 2) rfl rfl ?_
      refine hy_aload (i := 3) rfl rfl ?_
      refine hy_get (i := 4) (fk := 7) rfl rfl rfl ?_
      rw [o1]
      refine hy_ic_ge (i := 5) (tt := 32) rfl (fun zc1 => ?_) (fun zc1 => ?_)
      · refine hy_const (i := 32) rfl (by decide) ?_
        refine hy_ireturn (i := 33) rfl rfl ?_
        exact ⟨congrArg some hi, hF⟩
      · omega
    | succ n ih =>
      intro j t1 hj hF hi
      have o1 : t1 11 7 = t 11 7 := hF 11 7 rfl
      have hk2 := hk.2.1
      have hs := lc_same_of hF (fun r j q => by revert q; simp [lawX, rX]; omega)
      have hk1 := lc_ok_same hs hk
      have k1 := hk1.1
      have k3 := hk1.2.2
      have e1 : rc_val t1 11 (t1 16 j) = lc_val t (t 17) (t 16 j) := by rw [rc_val_lc, lc_same_val hs, show t1 17 = t 17 from funext fun z => hF 17 z rfl, hF 16 j rfl]
      have e2 : t1 14 j = t 14 j := hF 14 j rfl
      refine hy_iload (i := 2) rfl rfl ?_
      refine hy_aload (i := 3) rfl rfl ?_
      refine hy_get (i := 4) (fk := 7) rfl rfl rfl ?_
      rw [o1]
      refine hy_ic_ge (i := 5) (tt := 32) rfl (fun zc1 => ?_) (fun zc1 => ?_)
      · omega
      · refine hy_aload (i := 6) rfl rfl ?_
        refine hy_getr (i := 7) rfl rfl ?_
        refine hy_iload (i := 8) rfl rfl ?_
        refine hy_iald (i := 9) rfl rfl (by omega) rfl ?_
        refine hy_iload (i := 10) rfl rfl ?_
        refine hy_ic_ne (i := 11) (tt := 30) rfl (fun zc2 => ?_) (fun zc2 => ?_)
        · refine hy_iinc (i := 30) rfl rfl (by omega) ?_
          refine hy_goto (i := 31) (tt := 2) rfl ?_
          refine ih (j + 1) _ (by omega) (by first | exact hF | exact hF.tr' hF1) ?_
          rw [← hi]
          simp only [lc_amtN]
          rw [if_neg]
          intro q
          rw [← e1, ← e2] at q
          first | exact absurd q.1 (by assumption) | exact q.2 (by assumption)
        · refine hy_aload (i := 12) rfl rfl ?_
          refine hy_aload (i := 13) rfl rfl ?_
          refine hy_getr (i := 14) rfl rfl ?_
          refine hy_iload (i := 15) rfl rfl ?_
          refine hy_iald (i := 16) rfl rfl (by omega) rfl ?_
          refine hy_cV1 (i := 17) rfl mj_L_run (by decide) rfl (Nat.le_of_ble_eq_true rfl) rfl rfl rfl (c_L_run (by assumption) (by assumption)) (fun r1_ t1_ h1 => ?_)
          obtain ⟨rfl, hF1⟩ := h1
          dsimp only [hy_st, List.cons_append, List.nil_append]
          refine hy_if_eq (i := 18) (tt := 30) rfl (fun zc3 => ?_) (fun zc3 => ?_)
          · refine hy_iinc (i := 30) rfl rfl (by omega) ?_
            refine hy_goto (i := 31) (tt := 2) rfl ?_
            refine ih (j + 1) _ (by omega) (by first | exact hF | exact hF.tr' hF1) ?_
            rw [← hi]
            simp only [lc_amtN]
            rw [if_neg]
            intro q
            rw [← e1, ← e2] at q
            first | exact absurd q.1 (by assumption) | exact q.2 (by assumption)
          · refine hy_const (i := 19) rfl (by decide) ?_
            refine hy_iload (i := 20) rfl rfl ?_
            have hs2 := lc_same_of hF1 (fun r j q => by revert q; simp [lawX, rX]; omega)
            have hk3 := lc_ok_same hs2 hk1
            have k5 := hk3.1
            have k6 := hk3.2.2
            have e3 : rc_val t1_ 11 (t1_ 15 j) = lc_val t (t 17) (t 15 j) := by rw [rc_val_lc, lc_same_val hs2, lc_same_val hs, show t1_ 17 = t1 17 from funext fun z => hF1 17 z rfl, show t1 17 = t 17 from funext fun z => hF 17 z rfl, hF1 15 j rfl, hF 15 j rfl]
            refine hy_aload (i := 21) rfl rfl ?_
            refine hy_aload (i := 22) rfl rfl ?_
            refine hy_getr (i := 23) rfl rfl ?_
            refine hy_iload (i := 24) rfl rfl ?_
            refine hy_iald (i := 25) rfl rfl (by omega) rfl ?_
            refine hy_cV1 (i := 26) rfl mj_L_run (by decide) rfl (Nat.le_of_ble_eq_true rfl) rfl rfl rfl (c_L_run (by assumption) (by assumption)) (fun r2_ t2_ h2 => ?_)
            obtain ⟨rfl, hF2⟩ := h2
            dsimp only [hy_st, List.cons_append, List.nil_append]
            refine hy_min (i := 27) rfl (Nat.le_of_ble_eq_true rfl) ?_
            refine hy_max (i := 28) rfl (Nat.le_of_ble_eq_true rfl) ?_
            refine hy_ireturn (i := 29) rfl rfl ?_
            refine ⟨congrArg some ?_, (hF.tr' hF1).tr' hF2⟩
            rw [← hi]
            simp only [lc_amtN]
            have hp : t 14 j = k ∧ lc_val t (t 17) (t 16 j) ≠ 0 := ⟨by rw [← e2]; assumption, by rw [← e1]; assumption⟩
            rw [if_pos hp, ← e3]
            rfl
  refine hy_const (i := 0) rfl (by decide) ?_
  refine hy_istore (i := 1) rfl ?_
  exact loop (t 11 7).toNat 0 t rfl hy_F.rf rfl
end LX
/-! the class's eyes -/
abbrev eX : Nat → Nat → Bool := fun r _ => r == 17 || r == 18
theorem eX_law {t t1 : hy_T} (h : hy_F eX t t1) : lc_same t t1 := lc_same_of h (fun r j q => by revert q; simp [lawX, eX]; omega)
theorem rX_eX {t t1 t2 : hy_T} (h : hy_F eX t t1) (h2 : hy_F rX t1 t2) : hy_F eX t t2 := h.tr' (h2.w (fun r j q => by revert q; simp [eX, rX]))
theorem rc_tell_F {t t1 : hy_T} (h : hy_F eX t t1) (e c q dd m g : Int) : hy_F eX t (rc_tell t1 e c q dd m g) := by
  unfold rc_tell
  exact (((((((((h.up rfl).up rfl).up rfl).up rfl).up rfl).up rfl).up rfl).up rfl).up rfl).up rfl
theorem tell_hold {t t1 : hy_T} (h : hy_F eX t t1) (e c q dd m g a b k : Int) : lc_hold (hy_up (hy_up (rc_tell t1 e c q dd m g) 17 5 a) 17 6 b) ((hy_up (hy_up (rc_tell t1 e c q dd m g) 17 5 a) 17 6 b) 17) k = lc_hold t (LV e c q dd m a b 0 g 0) k := by
  rw [lc_same_hold (eX_law (((rc_tell_F h e c q dd m g).up rfl).up rfl))]
  refine lc_hold_V (fun j hj => ?_) k
  rcases (show j = 0 ∨ j = 1 ∨ j = 2 ∨ j = 3 ∨ j = 4 ∨ j = 5 ∨ j = 6 ∨ j = 7 ∨ j = 8 ∨ j = 9 by omega) with rfl | rfl | rfl | rfl | rfl | rfl | rfl | rfl | rfl | rfl <;> rfl
theorem tell_amt {t t1 : hy_T} (h : hy_F eX t t1) (e c q dd m g n k w : Int) : lc_amt (hy_up (rc_tell t1 e c q dd m g) 17 7 n) ((hy_up (rc_tell t1 e c q dd m g) 17 7 n) 17) k w = lc_amt t (LV e c q dd m 0 0 n g 0) k w := by
  rw [lc_same_amt (eX_law ((rc_tell_F h e c q dd m g).up rfl))]
  refine lc_amt_V (fun j hj => ?_) k w
  rcases (show j = 0 ∨ j = 1 ∨ j = 2 ∨ j = 3 ∨ j = 4 ∨ j = 5 ∨ j = 6 ∨ j = 7 ∨ j = 8 ∨ j = 9 by omega) with rfl | rfl | rfl | rfl | rfl | rfl | rfl | rfl | rfl | rfl <;> rfl
theorem tell_amto {t t1 : hy_T} (h : hy_F eX t t1) (e c q dd m g n k w : Int) : lc_amt (hy_up (rc_tell t1 e c q dd m g) 17 9 n) ((hy_up (rc_tell t1 e c q dd m g) 17 9 n) 17) k w = lc_amt t (LV e c q dd m 0 0 0 g n) k w := by
  rw [lc_same_amt (eX_law ((rc_tell_F h e c q dd m g).up rfl))]
  refine lc_amt_V (fun j hj => ?_) k w
  rcases (show j = 0 ∨ j = 1 ∨ j = 2 ∨ j = 3 ∨ j = 4 ∨ j = 5 ∨ j = 6 ∨ j = 7 ∨ j = 8 ∨ j = 9 by omega) with rfl | rfl | rfl | rfl | rfl | rfl | rfl | rfl | rfl | rfl <;> rfl
theorem hb_add (p q : Bool) : hy_R (hy_b p + hy_b q) := by cases p <;> cases q <;> decide
theorem hb_add2 {p q : Bool} : hy_b p + hy_b q = 2 ↔ (p && q) = true := by cases p <;> cases q <;> simp [hy_b]
theorem hb_add0 {p q : Bool} : hy_b p + hy_b q ≤ 0 ↔ (p || q) = false := by cases p <;> cases q <;> simp [hy_b]
/-- THE LAW's s: whether a mixed colour is seen, its parts being seen or not -/
def sp_lawS (t : hy_T) (e c q : Int) (a b : Bool) : Bool := if rc_has t 115 = true then lc_hold t (LV e c q (t 33 4) 1 (hy_b a) (hy_b b) 0 0 0) 115 else a && b
def sp_seenN (t : hy_T) (e q plain : Int) : Nat → Int
  | 0 => plain
  | n + 1 =>
    let s := sp_seenN t e q plain n
    if sp_told (t 5 3) n = true then hz_ior s (if sp_lawS t e n q (hz_b s (t 6 n)) (hz_b s (t 7 n)) = true then hz_ishl 1 n else 0) else s
def sp_seen (t : hy_T) (e q : Int) : Int := sp_seenN t e q (sp_hadN (t 34) e q 12) 12
def lk (f : Nat → Int) (c : Int) : Int := if 0 ≤ c ∧ c < 12 then f c.toNat else 12
def sp_asN (t : hy_T) (seen : Int) (f : Nat → Int) : Nat → (Nat → Int)
  | 0 => f
  | n + 1 =>
    let g := sp_asN t seen f n
    su g n (if hz_b seen n = true then (n : Int) else if sp_told (t 5 3) n = true then (if lk g (t 6 n) ≠ 12 then lk g (t 6 n) else lk g (t 7 n)) else 12)
def sp_alikeN (f : Nat → Int) (like : Int) : Nat → Int
  | 0 => 0
  | n + 1 => if f n = like then hz_ior (sp_alikeN f like n) (hz_ishl 1 n) else sp_alikeN f like n
def sp_child (t : hy_T) (a b c q : Int) : Bool :=
  let x := hz_b (sp_seen t a q) c
  let y := hz_b (sp_seen t b q) c
  if rc_has t 107 = true then lc_hold t (LV a c q (t 33 4) (hy_b (sp_told (t 5 3) c)) (hy_b x) (hy_b y) 0 (sp_bc (sp_hav (t 34) c q)) 0) 107 else x || y
theorem sp_lawS_F {t t1 : hy_T} (h : hy_F eX t t1) (e c q : Int) (a b : Bool) : sp_lawS t1 e c q a b = sp_lawS t e c q a b := by
  unfold sp_lawS
  rw [lc_same_has (eX_law h), lc_same_hold (eX_law h), h 33 4 rfl]
theorem sp_seenN_F {t t1 : hy_T} (h : hy_F eX t t1) (e q plain : Int) : ∀ n, sp_seenN t1 e q plain n = sp_seenN t e q plain n
  | 0 => rfl
  | n + 1 => by
    simp only [sp_seenN]
    rw [sp_seenN_F h e q plain n, h 5 3 rfl, show t1 6 n = t 6 n from h 6 n rfl, show t1 7 n = t 7 n from h 7 n rfl, sp_lawS_F h]
theorem sp_seen_F {t t1 : hy_T} (h : hy_F eX t t1) (e q : Int) : sp_seen t1 e q = sp_seen t e q := by
  unfold sp_seen
  rw [sp_seenN_F h, show t1 34 = t 34 from funext fun j => h 34 j rfl]
section SY33
variable {sc : List Int32} {t : hy_T}
theorem c_S_day_33 : hy_Ct sc hm_S_day 0 [.inr (some 33)] t (hy_e (some (t 33 4)) t) := by
  refine hy_mk_ct ok_S_day ck_S_day (Nat.le_of_ble_eq_true rfl) ?_
  refine hy_aload (i := 0) rfl rfl ?_
  refine hy_get (i := 1) (fk := 4) rfl rfl rfl ?_
  refine hy_ireturn (i := 2) rfl rfl ?_
  exact ⟨rfl, rfl⟩
theorem c_S_draw_33 : hy_Ct sc hm_S_draw 0 [.inr (some 33)] t (hy_e (some (t 33 5)) t) := by
  refine hy_mk_ct ok_S_draw ck_S_draw (Nat.le_of_ble_eq_true rfl) ?_
  refine hy_aload (i := 0) rfl rfl ?_
  refine hy_get (i := 1) (fk := 5) rfl rfl rfl ?_
  refine hy_ireturn (i := 2) rfl rfl ?_
  exact ⟨rfl, rfl⟩
theorem c_S_setDraw_33 {x : Int} : hy_Ct sc hm_S_setDraw 0 [.inr (some 33), .inl x] t (hy_e none (hy_up t 33 5 x)) := by
  refine hy_mk_ct ok_S_setDraw ck_S_setDraw (Nat.le_of_ble_eq_true rfl) ?_
  refine hy_aload (i := 0) rfl rfl ?_
  refine hy_iload (i := 1) rfl rfl ?_
  refine hy_put (i := 2) (fk := 5) rfl rfl rfl rfl ?_
  refine hy_return (i := 3) rfl rfl ?_
  exact ⟨rfl, rfl⟩
theorem c_S_treatyCount_33 : hy_Ct sc hm_S_treatyCount 0 [.inr (some 33)] t (hy_e (some (t 33 3)) t) := by
  refine hy_mk_ct ok_S_treatyCount ck_S_treatyCount (Nat.le_of_ble_eq_true rfl) ?_
  refine hy_aload (i := 0) rfl rfl ?_
  refine hy_get (i := 1) (fk := 3) rfl rfl rfl ?_
  refine hy_ireturn (i := 2) rfl rfl ?_
  exact ⟨rfl, rfl⟩
theorem c_S_firstBreakDay_33 : hy_Ct sc hm_S_firstBreakDay 0 [.inr (some 33)] t (hy_e (some (t 33 6)) t) := by
  refine hy_mk_ct ok_S_firstBreakDay ck_S_firstBreakDay (Nat.le_of_ble_eq_true rfl) ?_
  refine hy_aload (i := 0) rfl rfl ?_
  refine hy_get (i := 1) (fk := 6) rfl rfl rfl ?_
  refine hy_ireturn (i := 2) rfl rfl ?_
  exact ⟨rfl, rfl⟩
theorem c_S_firstBreaker_33 : hy_Ct sc hm_S_firstBreaker 0 [.inr (some 33)] t (hy_e (some (t 33 7)) t) := by
  refine hy_mk_ct ok_S_firstBreaker ck_S_firstBreaker (Nat.le_of_ble_eq_true rfl) ?_
  refine hy_aload (i := 0) rfl rfl ?_
  refine hy_get (i := 1) (fk := 7) rfl rfl rfl ?_
  refine hy_ireturn (i := 2) rfl rfl ?_
  exact ⟨rfl, rfl⟩
end SY33
section SY41
variable {sc : List Int32} {t : hy_T}
theorem c_S_day_41 : hy_Ct sc hm_S_day 0 [.inr (some 41)] t (hy_e (some (t 41 4)) t) := by
  refine hy_mk_ct ok_S_day ck_S_day (Nat.le_of_ble_eq_true rfl) ?_
  refine hy_aload (i := 0) rfl rfl ?_
  refine hy_get (i := 1) (fk := 4) rfl rfl rfl ?_
  refine hy_ireturn (i := 2) rfl rfl ?_
  exact ⟨rfl, rfl⟩
theorem c_S_draw_41 : hy_Ct sc hm_S_draw 0 [.inr (some 41)] t (hy_e (some (t 41 5)) t) := by
  refine hy_mk_ct ok_S_draw ck_S_draw (Nat.le_of_ble_eq_true rfl) ?_
  refine hy_aload (i := 0) rfl rfl ?_
  refine hy_get (i := 1) (fk := 5) rfl rfl rfl ?_
  refine hy_ireturn (i := 2) rfl rfl ?_
  exact ⟨rfl, rfl⟩
theorem c_S_setDraw_41 {x : Int} : hy_Ct sc hm_S_setDraw 0 [.inr (some 41), .inl x] t (hy_e none (hy_up t 41 5 x)) := by
  refine hy_mk_ct ok_S_setDraw ck_S_setDraw (Nat.le_of_ble_eq_true rfl) ?_
  refine hy_aload (i := 0) rfl rfl ?_
  refine hy_iload (i := 1) rfl rfl ?_
  refine hy_put (i := 2) (fk := 5) rfl rfl rfl rfl ?_
  refine hy_return (i := 3) rfl rfl ?_
  exact ⟨rfl, rfl⟩
theorem c_S_treatyCount_41 : hy_Ct sc hm_S_treatyCount 0 [.inr (some 41)] t (hy_e (some (t 41 3)) t) := by
  refine hy_mk_ct ok_S_treatyCount ck_S_treatyCount (Nat.le_of_ble_eq_true rfl) ?_
  refine hy_aload (i := 0) rfl rfl ?_
  refine hy_get (i := 1) (fk := 3) rfl rfl rfl ?_
  refine hy_ireturn (i := 2) rfl rfl ?_
  exact ⟨rfl, rfl⟩
theorem c_S_firstBreakDay_41 : hy_Ct sc hm_S_firstBreakDay 0 [.inr (some 41)] t (hy_e (some (t 41 6)) t) := by
  refine hy_mk_ct ok_S_firstBreakDay ck_S_firstBreakDay (Nat.le_of_ble_eq_true rfl) ?_
  refine hy_aload (i := 0) rfl rfl ?_
  refine hy_get (i := 1) (fk := 6) rfl rfl rfl ?_
  refine hy_ireturn (i := 2) rfl rfl ?_
  exact ⟨rfl, rfl⟩
theorem c_S_firstBreaker_41 : hy_Ct sc hm_S_firstBreaker 0 [.inr (some 41)] t (hy_e (some (t 41 7)) t) := by
  refine hy_mk_ct ok_S_firstBreaker ck_S_firstBreaker (Nat.le_of_ble_eq_true rfl) ?_
  refine hy_aload (i := 0) rfl rfl ?_
  refine hy_get (i := 1) (fk := 7) rfl rfl rfl ?_
  refine hy_ireturn (i := 2) rfl rfl ?_
  exact ⟨rfl, rfl⟩
end SY41
section EY
variable {sc : List Int32} {t : hy_T}
theorem c_E_seenWith {e q plain : Int} (hk : lc_ok t) : hy_Ct sc hm_E_seenWith 3 [.inr (some 45), .inl e, .inl q, .inl plain] t (fun r t' => r = some (sp_seenN t e q plain 12) ∧ hy_F eX t t') := by
  refine hy_mk_ct ok_E_seenWith ck_E_seenWith (Nat.le_of_ble_eq_true rfl) ?_
  have hk2 := hk.2.1
  have loop : ∀ (n : Nat), ∀ (k : Nat) (s : Int) (t1 : hy_T) (v7 v8 v9 : hy_V), n + k = 12 → hy_F eX t t1 → s = sp_seenN t e q plain k → hy_W sc hm_E_seenWith 3 9 [.inr (some 45), .inl e, .inl q, .inl plain, .inl s, .inl (hy_b (rc_has t 115)), .inl (k : Int), v7, v8, v9] [] t1 (fun r t' => r = some (sp_seenN t e q plain 12) ∧ hy_F eX t t') := by
    intro n
    induction n with
    | zero =>
      intro k s t1 v7 v8 v9 hn hF hs
      obtain rfl : k = 12 := by omega
      refine hy_iload (i := 9) rfl rfl ?_
      refine hy_const (i := 10) rfl (by decide) ?_
      refine hy_ic_ge (i := 11) (tt := 75) rfl (fun zc1 => ?_) (fun zc1 => ?_)
      · refine hy_iload (i := 75) rfl rfl ?_
        refine hy_ireturn (i := 76) rfl rfl ?_
        exact ⟨congrArg some hs, hF⟩
      · omega
    | succ n ih =>
      intro k s t1 v7 v8 v9 hn hF hs
      have om : t1 5 3 = t 5 3 := hF 5 3 rfl
      have o6 : t1 6 k = t 6 k := hF 6 k rfl
      have o7 : t1 7 k = t 7 k := hF 7 k rfl
      have od : t1 33 4 = t 33 4 := hF 33 4 rfl
      have hkt : lc_ok t1 := lc_ok_same (eX_law hF) hk
      have hkk : ∀ (dd m g a b : Int), lc_ok (hy_up (hy_up (rc_tell t1 e k q dd m g) 17 5 a) 17 6 b) := fun dd m g a b => lc_ok_same (eX_law (((rc_tell_F hF e k q dd m g).up rfl).up rfl)) hk
      refine hy_iload (i := 9) rfl rfl ?_
      refine hy_const (i := 10) rfl (by decide) ?_
      refine hy_ic_ge (i := 11) (tt := 75) rfl (fun zc1 => ?_) (fun zc1 => ?_)
      · omega
      · refine hy_aload (i := 12) rfl rfl ?_
        refine hy_getr (i := 13) rfl rfl ?_
        refine hy_iload (i := 14) rfl rfl ?_
        refine hy_cV1e (i := 15) rfl mj_P_isMixed (by decide) rfl (Nat.le_of_ble_eq_true rfl) rfl rfl rfl (c_P_isMixed) ?_
        rw [om]
        refine hy_ib_eq (i := 16) (tt := 73) rfl (fun zc2 => ?_) (fun zc2 => ?_)
        · refine hy_iinc (i := 73) rfl rfl (by omega) ?_
          refine hy_goto (i := 74) (tt := 9) rfl ?_
          first | (exfalso; omega) | (refine ih (k + 1) _ _ _ _ _ (by omega) (by first | exact hF2 | exact hF) ?_; simp only [sp_seenN]; rw [← hs]; first | (rw [if_neg (show ¬ sp_told (t 5 3) k = true by rw [zc2]; decide)]; done) | (rw [if_pos zc2]; congr 1; unfold sp_lawS; rw [if_neg (show ¬ rc_has t 115 = true by rw [zc4]; decide)]; first | (rw [if_pos (hb_add2.mp zc3)]; done) | (rw [if_neg (fun q => zc3 (hb_add2.mpr q))]; done)) | (rw [if_pos zc2]; congr 1; unfold sp_lawS; rw [if_pos zc4]; first | (rw [if_pos (hy_b_ne.mp (by assumption))]; done) | (rw [hy_b_eq.mp (by assumption : hy_b (lc_hold _ _ 115) = 0)]; rfl)))
        · refine hy_iload (i := 17) rfl rfl ?_
          refine hy_aload (i := 18) rfl rfl ?_
          refine hy_getr (i := 19) rfl rfl ?_
          refine hy_iload (i := 20) rfl rfl ?_
          refine hy_cV1e (i := 21) rfl mj_P_first (by decide) rfl (Nat.le_of_ble_eq_true rfl) rfl rfl rfl (c_P_first) ?_
          rw [om, if_pos zc2, show t1 6 (k : Int).toNat = t 6 k from o6]
          refine hy_cS2e (i := 22) rfl (by decide) mj_W_bit (by decide) rfl (Nat.le_of_ble_eq_true rfl) (c_W_bit) ?_
          refine hy_istore (i := 23) rfl ?_
          refine hy_iload (i := 24) rfl rfl ?_
          refine hy_aload (i := 25) rfl rfl ?_
          refine hy_getr (i := 26) rfl rfl ?_
          refine hy_iload (i := 27) rfl rfl ?_
          refine hy_cV1e (i := 28) rfl mj_P_second (by decide) rfl (Nat.le_of_ble_eq_true rfl) rfl rfl rfl (c_P_second) ?_
          rw [om, if_pos zc2, show t1 7 (k : Int).toNat = t 7 k from o7]
          refine hy_cS2e (i := 29) rfl (by decide) mj_W_bit (by decide) rfl (Nat.le_of_ble_eq_true rfl) (c_W_bit) ?_
          refine hy_istore (i := 30) rfl ?_
          refine hy_iload (i := 31) rfl rfl ?_
          refine hy_iload (i := 32) rfl rfl ?_
          refine hy_iadd (i := 33) rfl (hb_add _ _) ?_
          refine hy_const (i := 34) rfl (by decide) ?_
          refine hy_ic_ne (i := 35) (tt := 38) rfl (fun zc3 => ?_) (fun zc3 => ?_)
          · refine hy_const (i := 38) rfl (by decide) ?_
            refine hy_istore (i := 39) rfl ?_
            refine hy_iload (i := 40) rfl rfl ?_
            refine hy_ib_eq (i := 41) (tt := 63) rfl (fun zc4 => ?_) (fun zc4 => ?_)
            · refine hy_iload (i := 63) rfl rfl ?_
              refine hy_iload (i := 64) rfl rfl ?_
              refine hy_if_eq (i := 65) (tt := 70) rfl (fun zc5 => ?_) (fun zc5 => ?_)
              · refine hy_const (i := 70) rfl (by decide) ?_
                refine hy_ior (i := 71) rfl ?_
                refine hy_istore (i := 72) rfl ?_
                refine hy_iinc (i := 73) rfl rfl (by omega) ?_
                refine hy_goto (i := 74) (tt := 9) rfl ?_
                first | (exfalso; omega) | (refine ih (k + 1) _ _ _ _ _ (by omega) (by first | exact hF2 | exact hF) ?_; simp only [sp_seenN]; rw [← hs]; first | (rw [if_neg (show ¬ sp_told (t 5 3) k = true by rw [zc2]; decide)]; done) | (rw [if_pos zc2]; congr 1; unfold sp_lawS; rw [if_neg (show ¬ rc_has t 115 = true by rw [zc4]; decide)]; first | (rw [if_pos (hb_add2.mp zc3)]; done) | (rw [if_neg (fun q => zc3 (hb_add2.mpr q))]; done)) | (rw [if_pos zc2]; congr 1; unfold sp_lawS; rw [if_pos zc4]; first | (rw [if_pos (hy_b_ne.mp (by assumption))]; done) | (rw [hy_b_eq.mp (by assumption : hy_b (lc_hold _ _ 115) = 0)]; rfl)))
              · refine hy_const (i := 66) rfl (by decide) ?_
                refine hy_iload (i := 67) rfl rfl ?_
                refine hy_ishl (i := 68) rfl ?_
                refine hy_goto (i := 69) (tt := 71) rfl ?_
                refine hy_ior (i := 71) rfl ?_
                refine hy_istore (i := 72) rfl ?_
                refine hy_iinc (i := 73) rfl rfl (by omega) ?_
                refine hy_goto (i := 74) (tt := 9) rfl ?_
                first | (exfalso; omega) | (refine ih (k + 1) _ _ _ _ _ (by omega) (by first | exact hF2 | exact hF) ?_; simp only [sp_seenN]; rw [← hs]; first | (rw [if_neg (show ¬ sp_told (t 5 3) k = true by rw [zc2]; decide)]; done) | (rw [if_pos zc2]; congr 1; unfold sp_lawS; rw [if_neg (show ¬ rc_has t 115 = true by rw [zc4]; decide)]; first | (rw [if_pos (hb_add2.mp zc3)]; done) | (rw [if_neg (fun q => zc3 (hb_add2.mpr q))]; done)) | (rw [if_pos zc2]; congr 1; unfold sp_lawS; rw [if_pos zc4]; first | (rw [if_pos (hy_b_ne.mp (by assumption))]; done) | (rw [hy_b_eq.mp (by assumption : hy_b (lc_hold _ _ 115) = 0)]; rfl)))
            · refine hy_aload (i := 42) rfl rfl ?_
              refine hy_getr (i := 43) rfl rfl ?_
              refine hy_iload (i := 44) rfl rfl ?_
              refine hy_iload (i := 45) rfl rfl ?_
              refine hy_iload (i := 46) rfl rfl ?_
              refine hy_aload (i := 47) rfl rfl ?_
              refine hy_getr (i := 48) rfl rfl ?_
              refine hy_cV0e (i := 49) rfl mj_S_day (by decide) rfl (Nat.le_of_ble_eq_true rfl) rfl rfl rfl (c_S_day_33) ?_
              rw [od]
              refine hy_const (i := 50) rfl (by decide) ?_
              refine hy_const (i := 51) rfl (by decide) ?_
              refine hy_cV6v (i := 52) rfl mj_L_tell (by decide) rfl (Nat.le_of_ble_eq_true rfl) rfl rfl rfl (c_L_tell) ?_
              refine hy_aload (i := 53) rfl rfl ?_
              refine hy_getr (i := 54) rfl rfl ?_
              refine hy_iload (i := 55) rfl rfl ?_
              refine hy_iload (i := 56) rfl rfl ?_
              refine hy_cV2v (i := 57) rfl mj_L_tellParts (by decide) rfl (Nat.le_of_ble_eq_true rfl) rfl rfl rfl (c_L_tellParts) ?_
              refine hy_aload (i := 58) rfl rfl ?_
              refine hy_getr (i := 59) rfl rfl ?_
              refine hy_const (i := 60) rfl (by decide) ?_
              refine hy_cV1 (i := 61) rfl mj_L_holds (by decide) rfl (Nat.le_of_ble_eq_true rfl) rfl rfl rfl (c_L_holds (hkk _ _ _ _ _)) (fun r9_ t9_ h9 => ?_)
              obtain ⟨rfl, hF9⟩ := h9
              dsimp only [hy_st, List.cons_append, List.nil_append]
              rw [tell_hold hF]
              have hF2 := rX_eX (((rc_tell_F hF _ _ _ _ _ _).up rfl).up rfl) hF9
              refine hy_istore (i := 62) rfl ?_
              refine hy_iload (i := 63) rfl rfl ?_
              refine hy_iload (i := 64) rfl rfl ?_
              refine hy_if_eq (i := 65) (tt := 70) rfl (fun zc5 => ?_) (fun zc5 => ?_)
              · refine hy_const (i := 70) rfl (by decide) ?_
                refine hy_ior (i := 71) rfl ?_
                refine hy_istore (i := 72) rfl ?_
                refine hy_iinc (i := 73) rfl rfl (by omega) ?_
                refine hy_goto (i := 74) (tt := 9) rfl ?_
                first | (exfalso; omega) | (refine ih (k + 1) _ _ _ _ _ (by omega) (by first | exact hF2 | exact hF) ?_; simp only [sp_seenN]; rw [← hs]; first | (rw [if_neg (show ¬ sp_told (t 5 3) k = true by rw [zc2]; decide)]; done) | (rw [if_pos zc2]; congr 1; unfold sp_lawS; rw [if_neg (show ¬ rc_has t 115 = true by rw [zc4]; decide)]; first | (rw [if_pos (hb_add2.mp zc3)]; done) | (rw [if_neg (fun q => zc3 (hb_add2.mpr q))]; done)) | (rw [if_pos zc2]; congr 1; unfold sp_lawS; rw [if_pos zc4]; first | (rw [if_pos (hy_b_ne.mp (by assumption))]; done) | (rw [hy_b_eq.mp (by assumption : hy_b (lc_hold _ _ 115) = 0)]; rfl)))
              · refine hy_const (i := 66) rfl (by decide) ?_
                refine hy_iload (i := 67) rfl rfl ?_
                refine hy_ishl (i := 68) rfl ?_
                refine hy_goto (i := 69) (tt := 71) rfl ?_
                refine hy_ior (i := 71) rfl ?_
                refine hy_istore (i := 72) rfl ?_
                refine hy_iinc (i := 73) rfl rfl (by omega) ?_
                refine hy_goto (i := 74) (tt := 9) rfl ?_
                first | (exfalso; omega) | (refine ih (k + 1) _ _ _ _ _ (by omega) (by first | exact hF2 | exact hF) ?_; simp only [sp_seenN]; rw [← hs]; first | (rw [if_neg (show ¬ sp_told (t 5 3) k = true by rw [zc2]; decide)]; done) | (rw [if_pos zc2]; congr 1; unfold sp_lawS; rw [if_neg (show ¬ rc_has t 115 = true by rw [zc4]; decide)]; first | (rw [if_pos (hb_add2.mp zc3)]; done) | (rw [if_neg (fun q => zc3 (hb_add2.mpr q))]; done)) | (rw [if_pos zc2]; congr 1; unfold sp_lawS; rw [if_pos zc4]; first | (rw [if_pos (hy_b_ne.mp (by assumption))]; done) | (rw [hy_b_eq.mp (by assumption : hy_b (lc_hold _ _ 115) = 0)]; rfl)))
          · refine hy_const (i := 36) rfl (by decide) ?_
            refine hy_goto (i := 37) (tt := 39) rfl ?_
            refine hy_istore (i := 39) rfl ?_
            refine hy_iload (i := 40) rfl rfl ?_
            refine hy_ib_eq (i := 41) (tt := 63) rfl (fun zc4 => ?_) (fun zc4 => ?_)
            · refine hy_iload (i := 63) rfl rfl ?_
              refine hy_iload (i := 64) rfl rfl ?_
              refine hy_if_eq (i := 65) (tt := 70) rfl (fun zc5 => ?_) (fun zc5 => ?_)
              · refine hy_const (i := 70) rfl (by decide) ?_
                refine hy_ior (i := 71) rfl ?_
                refine hy_istore (i := 72) rfl ?_
                refine hy_iinc (i := 73) rfl rfl (by omega) ?_
                refine hy_goto (i := 74) (tt := 9) rfl ?_
                first | (exfalso; omega) | (refine ih (k + 1) _ _ _ _ _ (by omega) (by first | exact hF2 | exact hF) ?_; simp only [sp_seenN]; rw [← hs]; first | (rw [if_neg (show ¬ sp_told (t 5 3) k = true by rw [zc2]; decide)]; done) | (rw [if_pos zc2]; congr 1; unfold sp_lawS; rw [if_neg (show ¬ rc_has t 115 = true by rw [zc4]; decide)]; first | (rw [if_pos (hb_add2.mp zc3)]; done) | (rw [if_neg (fun q => zc3 (hb_add2.mpr q))]; done)) | (rw [if_pos zc2]; congr 1; unfold sp_lawS; rw [if_pos zc4]; first | (rw [if_pos (hy_b_ne.mp (by assumption))]; done) | (rw [hy_b_eq.mp (by assumption : hy_b (lc_hold _ _ 115) = 0)]; rfl)))
              · refine hy_const (i := 66) rfl (by decide) ?_
                refine hy_iload (i := 67) rfl rfl ?_
                refine hy_ishl (i := 68) rfl ?_
                refine hy_goto (i := 69) (tt := 71) rfl ?_
                refine hy_ior (i := 71) rfl ?_
                refine hy_istore (i := 72) rfl ?_
                refine hy_iinc (i := 73) rfl rfl (by omega) ?_
                refine hy_goto (i := 74) (tt := 9) rfl ?_
                first | (exfalso; omega) | (refine ih (k + 1) _ _ _ _ _ (by omega) (by first | exact hF2 | exact hF) ?_; simp only [sp_seenN]; rw [← hs]; first | (rw [if_neg (show ¬ sp_told (t 5 3) k = true by rw [zc2]; decide)]; done) | (rw [if_pos zc2]; congr 1; unfold sp_lawS; rw [if_neg (show ¬ rc_has t 115 = true by rw [zc4]; decide)]; first | (rw [if_pos (hb_add2.mp zc3)]; done) | (rw [if_neg (fun q => zc3 (hb_add2.mpr q))]; done)) | (rw [if_pos zc2]; congr 1; unfold sp_lawS; rw [if_pos zc4]; first | (rw [if_pos (hy_b_ne.mp (by assumption))]; done) | (rw [hy_b_eq.mp (by assumption : hy_b (lc_hold _ _ 115) = 0)]; rfl)))
            · refine hy_aload (i := 42) rfl rfl ?_
              refine hy_getr (i := 43) rfl rfl ?_
              refine hy_iload (i := 44) rfl rfl ?_
              refine hy_iload (i := 45) rfl rfl ?_
              refine hy_iload (i := 46) rfl rfl ?_
              refine hy_aload (i := 47) rfl rfl ?_
              refine hy_getr (i := 48) rfl rfl ?_
              refine hy_cV0e (i := 49) rfl mj_S_day (by decide) rfl (Nat.le_of_ble_eq_true rfl) rfl rfl rfl (c_S_day_33) ?_
              rw [od]
              refine hy_const (i := 50) rfl (by decide) ?_
              refine hy_const (i := 51) rfl (by decide) ?_
              refine hy_cV6v (i := 52) rfl mj_L_tell (by decide) rfl (Nat.le_of_ble_eq_true rfl) rfl rfl rfl (c_L_tell) ?_
              refine hy_aload (i := 53) rfl rfl ?_
              refine hy_getr (i := 54) rfl rfl ?_
              refine hy_iload (i := 55) rfl rfl ?_
              refine hy_iload (i := 56) rfl rfl ?_
              refine hy_cV2v (i := 57) rfl mj_L_tellParts (by decide) rfl (Nat.le_of_ble_eq_true rfl) rfl rfl rfl (c_L_tellParts) ?_
              refine hy_aload (i := 58) rfl rfl ?_
              refine hy_getr (i := 59) rfl rfl ?_
              refine hy_const (i := 60) rfl (by decide) ?_
              refine hy_cV1 (i := 61) rfl mj_L_holds (by decide) rfl (Nat.le_of_ble_eq_true rfl) rfl rfl rfl (c_L_holds (hkk _ _ _ _ _)) (fun r9_ t9_ h9 => ?_)
              obtain ⟨rfl, hF9⟩ := h9
              dsimp only [hy_st, List.cons_append, List.nil_append]
              rw [tell_hold hF]
              have hF2 := rX_eX (((rc_tell_F hF _ _ _ _ _ _).up rfl).up rfl) hF9
              refine hy_istore (i := 62) rfl ?_
              refine hy_iload (i := 63) rfl rfl ?_
              refine hy_iload (i := 64) rfl rfl ?_
              refine hy_if_eq (i := 65) (tt := 70) rfl (fun zc5 => ?_) (fun zc5 => ?_)
              · refine hy_const (i := 70) rfl (by decide) ?_
                refine hy_ior (i := 71) rfl ?_
                refine hy_istore (i := 72) rfl ?_
                refine hy_iinc (i := 73) rfl rfl (by omega) ?_
                refine hy_goto (i := 74) (tt := 9) rfl ?_
                first | (exfalso; omega) | (refine ih (k + 1) _ _ _ _ _ (by omega) (by first | exact hF2 | exact hF) ?_; simp only [sp_seenN]; rw [← hs]; first | (rw [if_neg (show ¬ sp_told (t 5 3) k = true by rw [zc2]; decide)]; done) | (rw [if_pos zc2]; congr 1; unfold sp_lawS; rw [if_neg (show ¬ rc_has t 115 = true by rw [zc4]; decide)]; first | (rw [if_pos (hb_add2.mp zc3)]; done) | (rw [if_neg (fun q => zc3 (hb_add2.mpr q))]; done)) | (rw [if_pos zc2]; congr 1; unfold sp_lawS; rw [if_pos zc4]; first | (rw [if_pos (hy_b_ne.mp (by assumption))]; done) | (rw [hy_b_eq.mp (by assumption : hy_b (lc_hold _ _ 115) = 0)]; rfl)))
              · refine hy_const (i := 66) rfl (by decide) ?_
                refine hy_iload (i := 67) rfl rfl ?_
                refine hy_ishl (i := 68) rfl ?_
                refine hy_goto (i := 69) (tt := 71) rfl ?_
                refine hy_ior (i := 71) rfl ?_
                refine hy_istore (i := 72) rfl ?_
                refine hy_iinc (i := 73) rfl rfl (by omega) ?_
                refine hy_goto (i := 74) (tt := 9) rfl ?_
                first | (exfalso; omega) | (refine ih (k + 1) _ _ _ _ _ (by omega) (by first | exact hF2 | exact hF) ?_; simp only [sp_seenN]; rw [← hs]; first | (rw [if_neg (show ¬ sp_told (t 5 3) k = true by rw [zc2]; decide)]; done) | (rw [if_pos zc2]; congr 1; unfold sp_lawS; rw [if_neg (show ¬ rc_has t 115 = true by rw [zc4]; decide)]; first | (rw [if_pos (hb_add2.mp zc3)]; done) | (rw [if_neg (fun q => zc3 (hb_add2.mpr q))]; done)) | (rw [if_pos zc2]; congr 1; unfold sp_lawS; rw [if_pos zc4]; first | (rw [if_pos (hy_b_ne.mp (by assumption))]; done) | (rw [hy_b_eq.mp (by assumption : hy_b (lc_hold _ _ 115) = 0)]; rfl)))
  refine hy_iload (i := 0) rfl rfl ?_
  refine hy_istore (i := 1) rfl ?_
  refine hy_aload (i := 2) rfl rfl ?_
  refine hy_getr (i := 3) rfl rfl ?_
  refine hy_const (i := 4) rfl (by decide) ?_
  refine hy_cV1e (i := 5) rfl mj_L_hasKind (by decide) rfl (Nat.le_of_ble_eq_true rfl) rfl rfl rfl (c_L_hasKind (by assumption)) ?_
  refine hy_istore (i := 6) rfl ?_
  refine hy_const (i := 7) rfl (by decide) ?_
  refine hy_istore (i := 8) rfl ?_
  exact loop 12 0 plain t _ _ _ rfl hy_F.rf rfl
theorem c_E_seen {e q : Int} (hk : lc_ok t) : hy_Ct sc hm_E_seen 4 [.inr (some 45), .inl e, .inl q] t (fun r t' => r = some (sp_seen t e q) ∧ hy_F eX t t') := by
  refine hy_mk_ct ok_E_seen ck_E_seen (Nat.le_of_ble_eq_true rfl) ?_
  refine hy_aload (i := 0) rfl rfl ?_
  refine hy_iload (i := 1) rfl rfl ?_
  refine hy_iload (i := 2) rfl rfl ?_
  refine hy_aload (i := 3) rfl rfl ?_
  refine hy_getr (i := 4) rfl rfl ?_
  refine hy_iload (i := 5) rfl rfl ?_
  refine hy_iload (i := 6) rfl rfl ?_
  refine hy_cV2e (i := 7) rfl mj_S_had (by decide) rfl (Nat.le_of_ble_eq_true rfl) rfl rfl rfl (c_S_had_33) ?_
  refine hy_cV3 (i := 8) rfl mj_E_seenWith (by decide) rfl (Nat.le_of_ble_eq_true rfl) rfl rfl rfl (c_E_seenWith (by assumption)) (fun r2_ t2_ h2 => ?_)
  obtain ⟨rfl, hF2⟩ := h2
  dsimp only [hy_st, List.cons_append, List.nil_append]
  refine hy_ireturn (i := 9) rfl rfl ?_
  exact ⟨rfl, hF2⟩
theorem c_E_looks {c : Int} : hy_Ct sc hm_E_looks 1 [.inr (some 45), .inl c] t (hy_e (some (lk (t 46) c)) t) := by
  refine hy_mk_ct ok_E_looks ck_E_looks (Nat.le_of_ble_eq_true rfl) ?_
  refine hy_iload (i := 0) rfl rfl ?_
  refine hy_const (i := 1) rfl (by decide) ?_
  refine hy_cS2e (i := 2) rfl (by decide) mj_W_isAmong (by decide) rfl (Nat.le_of_ble_eq_true rfl) (c_W_isAmong) ?_
  refine hy_ib_eq (i := 3) (tt := 9) rfl (fun zc1 => ?_) (fun zc1 => ?_)
  · refine hy_const (i := 9) rfl (by decide) ?_
    refine hy_ireturn (i := 10) rfl rfl ?_
    exact ⟨congrArg some (by unfold lk; simp at zc1; split <;> first | rfl | omega), rfl⟩
  · refine hy_aload (i := 4) rfl rfl ?_
    refine hy_getr (i := 5) rfl rfl ?_
    refine hy_iload (i := 6) rfl rfl ?_
    refine hy_iald (i := 7) rfl rfl (by simp at zc1; omega) rfl ?_
    refine hy_goto (i := 8) (tt := 10) rfl ?_
    refine hy_ireturn (i := 10) rfl rfl ?_
    exact ⟨congrArg some (by unfold lk; simp at zc1; split <;> first | rfl | omega), rfl⟩
theorem c_E_alike {c : Int} : hy_Ct sc hm_E_alike 2 [.inr (some 45), .inl c] t (hy_e (some (sp_alikeN (t 46) (lk (t 46) c) 12)) t) := by
  refine hy_mk_ct ok_E_alike ck_E_alike (Nat.le_of_ble_eq_true rfl) ?_
  have loop : ∀ (n : Nat), ∀ (k : Nat), n + k = 12 → hy_W sc hm_E_alike 2 8 [.inr (some 45), .inl c, .inl (lk (t 46) c), .inl (sp_alikeN (t 46) (lk (t 46) c) k), .inl (k : Int)] [] t (hy_e (some (sp_alikeN (t 46) (lk (t 46) c) 12)) t) := by
    intro n
    induction n with
    | zero =>
      intro k hn
      obtain rfl : k = 12 := by omega
      refine hy_iload (i := 8) rfl rfl ?_
      refine hy_const (i := 9) rfl (by decide) ?_
      refine hy_ic_ge (i := 10) (tt := 25) rfl (fun zc1 => ?_) (fun zc1 => ?_)
      · refine hy_iload (i := 25) rfl rfl ?_
        refine hy_ireturn (i := 26) rfl rfl ?_
        exact ⟨rfl, rfl⟩
      · omega
    | succ n ih =>
      intro k hn
      refine hy_iload (i := 8) rfl rfl ?_
      refine hy_const (i := 9) rfl (by decide) ?_
      refine hy_ic_ge (i := 10) (tt := 25) rfl (fun zc1 => ?_) (fun zc1 => ?_)
      · omega
      · refine hy_aload (i := 11) rfl rfl ?_
        refine hy_getr (i := 12) rfl rfl ?_
        refine hy_iload (i := 13) rfl rfl ?_
        refine hy_iald (i := 14) rfl rfl (by omega) rfl ?_
        refine hy_iload (i := 15) rfl rfl ?_
        refine hy_ic_ne (i := 16) (tt := 23) rfl (fun zc2 => ?_) (fun zc2 => ?_)
        · refine hy_iinc (i := 23) rfl rfl (by omega) ?_
          refine hy_goto (i := 24) (tt := 8) rfl ?_
          have h := ih (k + 1) (by omega)
          simp only [sp_alikeN] at h
          first | (rw [if_pos (by assumption)] at h; exact h) | (rw [if_neg (by assumption)] at h; exact h)
        · refine hy_iload (i := 17) rfl rfl ?_
          refine hy_const (i := 18) rfl (by decide) ?_
          refine hy_iload (i := 19) rfl rfl ?_
          refine hy_ishl (i := 20) rfl ?_
          refine hy_ior (i := 21) rfl ?_
          refine hy_istore (i := 22) rfl ?_
          refine hy_iinc (i := 23) rfl rfl (by omega) ?_
          refine hy_goto (i := 24) (tt := 8) rfl ?_
          have h := ih (k + 1) (by omega)
          simp only [sp_alikeN] at h
          first | (rw [if_pos (by assumption)] at h; exact h) | (rw [if_neg (by assumption)] at h; exact h)
  refine hy_aload (i := 0) rfl rfl ?_
  refine hy_iload (i := 1) rfl rfl ?_
  refine hy_cV1e (i := 2) rfl mj_E_looks (by decide) rfl (Nat.le_of_ble_eq_true rfl) rfl rfl rfl (c_E_looks) ?_
  refine hy_istore (i := 3) rfl ?_
  refine hy_const (i := 4) rfl (by decide) ?_
  refine hy_istore (i := 5) rfl ?_
  refine hy_const (i := 6) rfl (by decide) ?_
  refine hy_istore (i := 7) rfl ?_
  exact loop 12 0 rfl
abbrev lX : Nat → Nat → Bool := fun r _ => r == 17 || r == 18 || r == 46
theorem eX_lX {t t1 : hy_T} (h : hy_F eX t t1) : hy_F lX t t1 := h.w (fun r j q => by revert q; simp [eX, lX]; omega)
theorem lX_law {t t1 : hy_T} (h : hy_F lX t t1) : lc_same t t1 := lc_same_of h (fun r j q => by revert q; simp [lawX, lX]; omega)
theorem c_E_look {e q : Int} (hk : lc_ok t) : hy_Ct sc hm_E_look 4 [.inr (some 45), .inl e, .inl q] t (fun r t' => r = none ∧ t' 46 = sp_asN t (sp_seen t e q) (t 46) 12 ∧ hy_F lX t t') := by
  refine hy_mk_ct ok_E_look ck_E_look (Nat.le_of_ble_eq_true rfl) ?_
  have loop : ∀ (n : Nat), ∀ (k : Nat) (t1 : hy_T) (v5 : hy_V), n + k = 12 → hy_F lX t t1 → t1 46 = sp_asN t (sp_seen t e q) (t 46) k → hy_W sc hm_E_look 4 12 [.inr (some 45), .inl e, .inl q, .inl (sp_seen t e q), .inl (k : Int), v5] [] t1 (fun r t' => r = none ∧ t' 46 = sp_asN t (sp_seen t e q) (t 46) 12 ∧ hy_F lX t t') := by
    intro n
    induction n with
    | zero =>
      intro k t1 v5 hn hF hs
      obtain rfl : k = 12 := by omega
      refine hy_iload (i := 12) rfl rfl ?_
      refine hy_const (i := 13) rfl (by decide) ?_
      refine hy_ic_ge (i := 14) (tt := 61) rfl (fun zc1 => ?_) (fun zc1 => ?_)
      · refine hy_return (i := 61) rfl rfl ?_
        exact ⟨rfl, hs, hF⟩
      · omega
    | succ n ih =>
      intro k t1 v5 hn hF hs
      have om : t1 5 3 = t 5 3 := hF 5 3 rfl
      have o6 : t1 6 k = t 6 k := hF 6 k rfl
      have o7 : t1 7 k = t 7 k := hF 7 k rfl
      refine hy_iload (i := 12) rfl rfl ?_
      refine hy_const (i := 13) rfl (by decide) ?_
      refine hy_ic_ge (i := 14) (tt := 61) rfl (fun zc1 => ?_) (fun zc1 => ?_)
      · omega
      · refine hy_iload (i := 15) rfl rfl ?_
        refine hy_iload (i := 16) rfl rfl ?_
        refine hy_cS2e (i := 17) rfl (by decide) mj_W_bit (by decide) rfl (Nat.le_of_ble_eq_true rfl) (c_W_bit) ?_
        refine hy_const (i := 18) rfl (by decide) ?_
        refine hy_icb_ne (i := 19) (tt := 26) rfl (fun zc2 => ?_) (fun zc2 => ?_)
        · refine hy_aload (i := 26) rfl rfl ?_
          refine hy_getr (i := 27) rfl rfl ?_
          refine hy_iload (i := 28) rfl rfl ?_
          refine hy_cV1e (i := 29) rfl mj_P_isMixed (by decide) rfl (Nat.le_of_ble_eq_true rfl) rfl rfl rfl (c_P_isMixed) ?_
          rw [om]
          refine hy_ib_eq (i := 30) (tt := 54) rfl (fun zc3 => ?_) (fun zc3 => ?_)
          · refine hy_aload (i := 54) rfl rfl ?_
            refine hy_getr (i := 55) rfl rfl ?_
            refine hy_iload (i := 56) rfl rfl ?_
            refine hy_const (i := 57) rfl (by decide) ?_
            refine hy_iast (i := 58) rfl rfl (by omega) (k := k) (by omega) ?_
            refine hy_iinc (i := 59) rfl rfl (by omega) ?_
            refine hy_goto (i := 60) (tt := 12) rfl ?_
            refine ih (k + 1) _ _ (by omega) (hF.up rfl) ?_
            rw [hy_up_row]
            simp only [sp_asN]
            rw [← hs]
            first | (rw [if_pos zc2]; done) | (rw [if_neg (show ¬ hz_b (sp_seen t e q) k = true by rw [zc2]; decide), if_pos zc3]; first | (rw [if_pos (by assumption)]; done) | (rw [if_neg (fun q => q (by assumption))]; done)) | (rw [if_neg (show ¬ hz_b (sp_seen t e q) k = true by rw [zc2]; decide), if_neg (show ¬ sp_told (t 5 3) k = true by rw [zc3]; decide)]; done)
          · refine hy_aload (i := 31) rfl rfl ?_
            refine hy_aload (i := 32) rfl rfl ?_
            refine hy_getr (i := 33) rfl rfl ?_
            refine hy_iload (i := 34) rfl rfl ?_
            refine hy_cV1e (i := 35) rfl mj_P_first (by decide) rfl (Nat.le_of_ble_eq_true rfl) rfl rfl rfl (c_P_first) ?_
            rw [om, if_pos zc3, show t1 6 (k : Int).toNat = t 6 k from o6]
            refine hy_cV1e (i := 36) rfl mj_E_looks (by decide) rfl (Nat.le_of_ble_eq_true rfl) rfl rfl rfl (c_E_looks) ?_
            refine hy_istore (i := 37) rfl ?_
            refine hy_aload (i := 38) rfl rfl ?_
            refine hy_getr (i := 39) rfl rfl ?_
            refine hy_iload (i := 40) rfl rfl ?_
            refine hy_iload (i := 41) rfl rfl ?_
            refine hy_const (i := 42) rfl (by decide) ?_
            refine hy_ic_eq (i := 43) (tt := 46) rfl (fun zc4 => ?_) (fun zc4 => ?_)
            · refine hy_aload (i := 46) rfl rfl ?_
              refine hy_aload (i := 47) rfl rfl ?_
              refine hy_getr (i := 48) rfl rfl ?_
              refine hy_iload (i := 49) rfl rfl ?_
              refine hy_cV1e (i := 50) rfl mj_P_second (by decide) rfl (Nat.le_of_ble_eq_true rfl) rfl rfl rfl (c_P_second) ?_
              rw [om, if_pos zc3, show t1 7 (k : Int).toNat = t 7 k from o7]
              refine hy_cV1e (i := 51) rfl mj_E_looks (by decide) rfl (Nat.le_of_ble_eq_true rfl) rfl rfl rfl (c_E_looks) ?_
              refine hy_iast (i := 52) rfl rfl (by omega) (k := k) (by omega) ?_
              refine hy_goto (i := 53) (tt := 59) rfl ?_
              refine hy_iinc (i := 59) rfl rfl (by omega) ?_
              refine hy_goto (i := 60) (tt := 12) rfl ?_
              refine ih (k + 1) _ _ (by omega) (hF.up rfl) ?_
              rw [hy_up_row]
              simp only [sp_asN]
              rw [← hs]
              first | (rw [if_pos zc2]; done) | (rw [if_neg (show ¬ hz_b (sp_seen t e q) k = true by rw [zc2]; decide), if_pos zc3]; first | (rw [if_pos (by assumption)]; done) | (rw [if_neg (fun q => q (by assumption))]; done)) | (rw [if_neg (show ¬ hz_b (sp_seen t e q) k = true by rw [zc2]; decide), if_neg (show ¬ sp_told (t 5 3) k = true by rw [zc3]; decide)]; done)
            · refine hy_iload (i := 44) rfl rfl ?_
              refine hy_goto (i := 45) (tt := 52) rfl ?_
              refine hy_iast (i := 52) rfl rfl (by omega) (k := k) (by omega) ?_
              refine hy_goto (i := 53) (tt := 59) rfl ?_
              refine hy_iinc (i := 59) rfl rfl (by omega) ?_
              refine hy_goto (i := 60) (tt := 12) rfl ?_
              refine ih (k + 1) _ _ (by omega) (hF.up rfl) ?_
              rw [hy_up_row]
              simp only [sp_asN]
              rw [← hs]
              first | (rw [if_pos zc2]; done) | (rw [if_neg (show ¬ hz_b (sp_seen t e q) k = true by rw [zc2]; decide), if_pos zc3]; first | (rw [if_pos (by assumption)]; done) | (rw [if_neg (fun q => q (by assumption))]; done)) | (rw [if_neg (show ¬ hz_b (sp_seen t e q) k = true by rw [zc2]; decide), if_neg (show ¬ sp_told (t 5 3) k = true by rw [zc3]; decide)]; done)
        · refine hy_aload (i := 20) rfl rfl ?_
          refine hy_getr (i := 21) rfl rfl ?_
          refine hy_iload (i := 22) rfl rfl ?_
          refine hy_iload (i := 23) rfl rfl ?_
          refine hy_iast (i := 24) rfl rfl (by omega) (k := k) (by omega) ?_
          refine hy_goto (i := 25) (tt := 59) rfl ?_
          refine hy_iinc (i := 59) rfl rfl (by omega) ?_
          refine hy_goto (i := 60) (tt := 12) rfl ?_
          refine ih (k + 1) _ _ (by omega) (hF.up rfl) ?_
          rw [hy_up_row]
          simp only [sp_asN]
          rw [← hs]
          first | (rw [if_pos zc2]; done) | (rw [if_neg (show ¬ hz_b (sp_seen t e q) k = true by rw [zc2]; decide), if_pos zc3]; first | (rw [if_pos (by assumption)]; done) | (rw [if_neg (fun q => q (by assumption))]; done)) | (rw [if_neg (show ¬ hz_b (sp_seen t e q) k = true by rw [zc2]; decide), if_neg (show ¬ sp_told (t 5 3) k = true by rw [zc3]; decide)]; done)
  refine hy_aload (i := 0) rfl rfl ?_
  refine hy_iload (i := 1) rfl rfl ?_
  refine hy_iload (i := 2) rfl rfl ?_
  refine hy_aload (i := 3) rfl rfl ?_
  refine hy_getr (i := 4) rfl rfl ?_
  refine hy_iload (i := 5) rfl rfl ?_
  refine hy_iload (i := 6) rfl rfl ?_
  refine hy_cV2e (i := 7) rfl mj_S_had (by decide) rfl (Nat.le_of_ble_eq_true rfl) rfl rfl rfl (c_S_had_33) ?_
  refine hy_cV3 (i := 8) rfl mj_E_seenWith (by decide) rfl (Nat.le_of_ble_eq_true rfl) rfl rfl rfl (c_E_seenWith (by assumption)) (fun r2_ t2_ h2 => ?_)
  obtain ⟨rfl, hF2⟩ := h2
  dsimp only [hy_st, List.cons_append, List.nil_append]
  refine hy_istore (i := 9) rfl ?_
  refine hy_const (i := 10) rfl (by decide) ?_
  refine hy_istore (i := 11) rfl ?_
  exact loop 12 0 _ _ rfl (eX_lX hF2) (funext fun j => hF2 46 j rfl)
theorem c_E_childSees {a b c q : Int} (hk : lc_ok t) : hy_Ct sc hm_E_childSees 5 [.inr (some 45), .inl a, .inl b, .inl c, .inl q] t (fun r t' => r = some (hy_b (sp_child t a b c q)) ∧ hy_F eX t t') := by
  refine hy_mk_ct ok_E_childSees ck_E_childSees (Nat.le_of_ble_eq_true rfl) ?_
  refine hy_aload (i := 0) rfl rfl ?_
  refine hy_iload (i := 1) rfl rfl ?_
  refine hy_iload (i := 2) rfl rfl ?_
  refine hy_cV2 (i := 3) rfl mj_E_seen (by decide) rfl (Nat.le_of_ble_eq_true rfl) rfl rfl rfl (c_E_seen (by assumption)) (fun r1_ t1_ h1 => ?_)
  obtain ⟨rfl, hF1⟩ := h1
  dsimp only [hy_st, List.cons_append, List.nil_append]
  refine hy_iload (i := 4) rfl rfl ?_
  refine hy_cS2e (i := 5) rfl (by decide) mj_W_bit (by decide) rfl (Nat.le_of_ble_eq_true rfl) (c_W_bit) ?_
  refine hy_istore (i := 6) rfl ?_
  have hk1 := lc_ok_same (eX_law hF1) hk
  refine hy_aload (i := 7) rfl rfl ?_
  refine hy_iload (i := 8) rfl rfl ?_
  refine hy_iload (i := 9) rfl rfl ?_
  refine hy_cV2 (i := 10) rfl mj_E_seen (by decide) rfl (Nat.le_of_ble_eq_true rfl) rfl rfl rfl (c_E_seen hk1) (fun r3_ t3_ h3 => ?_)
  obtain ⟨rfl, hF3⟩ := h3
  dsimp only [hy_st, List.cons_append, List.nil_append]
  rw [sp_seen_F hF1]
  have hG := hF1.tr' hF3
  have hk2 := lc_ok_same (eX_law hG) hk
  have hk3 := hk2.2.1
  have om : t3_ 5 3 = t 5 3 := hG 5 3 rfl
  have od : t3_ 33 4 = t 33 4 := hG 33 4 rfl
  have oh : t3_ 34 = t 34 := funext fun j => hG 34 j rfl
  refine hy_iload (i := 11) rfl rfl ?_
  refine hy_cS2e (i := 12) rfl (by decide) mj_W_bit (by decide) rfl (Nat.le_of_ble_eq_true rfl) (c_W_bit) ?_
  refine hy_istore (i := 13) rfl ?_
  refine hy_aload (i := 14) rfl rfl ?_
  refine hy_getr (i := 15) rfl rfl ?_
  refine hy_const (i := 16) rfl (by decide) ?_
  refine hy_cV1e (i := 17) rfl mj_L_hasKind (by decide) rfl (Nat.le_of_ble_eq_true rfl) rfl rfl rfl (c_L_hasKind (by assumption)) ?_
  rw [lc_same_has (eX_law hG)]
  refine hy_ib_ne (i := 18) (tt := 27) rfl (fun zc1 => ?_) (fun zc1 => ?_)
  · refine hy_aload (i := 27) rfl rfl ?_
    refine hy_getr (i := 28) rfl rfl ?_
    refine hy_iload (i := 29) rfl rfl ?_
    refine hy_cV1e (i := 30) rfl mj_P_isMixed (by decide) rfl (Nat.le_of_ble_eq_true rfl) rfl rfl rfl (c_P_isMixed) ?_
    rw [om]
    refine hy_ib_eq (i := 31) (tt := 34) rfl (fun zc2 => ?_) (fun zc2 => ?_)
    · refine hy_const (i := 34) rfl (by decide) ?_
      refine hy_istore (i := 35) rfl ?_
      refine hy_aload (i := 36) rfl rfl ?_
      refine hy_getr (i := 37) rfl rfl ?_
      refine hy_iload (i := 38) rfl rfl ?_
      refine hy_iload (i := 39) rfl rfl ?_
      refine hy_iload (i := 40) rfl rfl ?_
      refine hy_aload (i := 41) rfl rfl ?_
      refine hy_getr (i := 42) rfl rfl ?_
      refine hy_cV0e (i := 43) rfl mj_S_day (by decide) rfl (Nat.le_of_ble_eq_true rfl) rfl rfl rfl (c_S_day_33) ?_
      rw [od]
      refine hy_iload (i := 44) rfl rfl ?_
      refine hy_aload (i := 45) rfl rfl ?_
      refine hy_getr (i := 46) rfl rfl ?_
      refine hy_iload (i := 47) rfl rfl ?_
      refine hy_iload (i := 48) rfl rfl ?_
      refine hy_cV2e (i := 49) rfl mj_S_havers (by decide) rfl (Nat.le_of_ble_eq_true rfl) rfl rfl rfl (c_S_havers_33) ?_
      refine hy_cS1e (i := 50) rfl (by decide) mj_J_bitCount (by decide) rfl (Nat.le_of_ble_eq_true rfl) (c_J_bitCount) ?_
      rw [oh]
      refine hy_cV6v (i := 51) rfl mj_L_tell (by decide) rfl (Nat.le_of_ble_eq_true rfl) rfl rfl rfl (c_L_tell) ?_
      refine hy_aload (i := 52) rfl rfl ?_
      refine hy_getr (i := 53) rfl rfl ?_
      refine hy_iload (i := 54) rfl rfl ?_
      refine hy_iload (i := 55) rfl rfl ?_
      refine hy_cV2v (i := 56) rfl mj_L_tellParts (by decide) rfl (Nat.le_of_ble_eq_true rfl) rfl rfl rfl (c_L_tellParts) ?_
      refine hy_aload (i := 57) rfl rfl ?_
      refine hy_getr (i := 58) rfl rfl ?_
      refine hy_const (i := 59) rfl (by decide) ?_
      refine hy_cV1 (i := 60) rfl mj_L_holds (by decide) rfl (Nat.le_of_ble_eq_true rfl) rfl rfl rfl (c_L_holds (lc_ok_same (eX_law (((rc_tell_F hG _ _ _ _ _ _).up rfl).up rfl)) hk)) (fun r12_ t12_ h12 => ?_)
      obtain ⟨rfl, hF12⟩ := h12
      dsimp only [hy_st, List.cons_append, List.nil_append]
      rw [tell_hold hG]
      have hG2 := rX_eX (((rc_tell_F hG _ _ _ _ _ _).up rfl).up rfl) hF12
      refine hy_zreturn (i := 61) rfl rfl (by first | decide | exact hy_b01 _) ?_
      first | (refine ⟨congrArg some ?_, hG2⟩; simp only [sp_child]; rw [if_pos zc1, zc2]; rfl) | (refine ⟨congrArg some ?_, hG⟩; simp only [sp_child]; rw [if_neg (show ¬ rc_has t 107 = true by rw [zc1]; decide)]; first | (rw [hb_add0.mp zc2]; rfl) | (have h9 := (not_congr hb_add0).mp zc2; rw [Bool.not_eq_false] at h9; rw [h9]; rfl))
    · refine hy_const (i := 32) rfl (by decide) ?_
      refine hy_goto (i := 33) (tt := 35) rfl ?_
      refine hy_istore (i := 35) rfl ?_
      refine hy_aload (i := 36) rfl rfl ?_
      refine hy_getr (i := 37) rfl rfl ?_
      refine hy_iload (i := 38) rfl rfl ?_
      refine hy_iload (i := 39) rfl rfl ?_
      refine hy_iload (i := 40) rfl rfl ?_
      refine hy_aload (i := 41) rfl rfl ?_
      refine hy_getr (i := 42) rfl rfl ?_
      refine hy_cV0e (i := 43) rfl mj_S_day (by decide) rfl (Nat.le_of_ble_eq_true rfl) rfl rfl rfl (c_S_day_33) ?_
      rw [od]
      refine hy_iload (i := 44) rfl rfl ?_
      refine hy_aload (i := 45) rfl rfl ?_
      refine hy_getr (i := 46) rfl rfl ?_
      refine hy_iload (i := 47) rfl rfl ?_
      refine hy_iload (i := 48) rfl rfl ?_
      refine hy_cV2e (i := 49) rfl mj_S_havers (by decide) rfl (Nat.le_of_ble_eq_true rfl) rfl rfl rfl (c_S_havers_33) ?_
      refine hy_cS1e (i := 50) rfl (by decide) mj_J_bitCount (by decide) rfl (Nat.le_of_ble_eq_true rfl) (c_J_bitCount) ?_
      rw [oh]
      refine hy_cV6v (i := 51) rfl mj_L_tell (by decide) rfl (Nat.le_of_ble_eq_true rfl) rfl rfl rfl (c_L_tell) ?_
      refine hy_aload (i := 52) rfl rfl ?_
      refine hy_getr (i := 53) rfl rfl ?_
      refine hy_iload (i := 54) rfl rfl ?_
      refine hy_iload (i := 55) rfl rfl ?_
      refine hy_cV2v (i := 56) rfl mj_L_tellParts (by decide) rfl (Nat.le_of_ble_eq_true rfl) rfl rfl rfl (c_L_tellParts) ?_
      refine hy_aload (i := 57) rfl rfl ?_
      refine hy_getr (i := 58) rfl rfl ?_
      refine hy_const (i := 59) rfl (by decide) ?_
      refine hy_cV1 (i := 60) rfl mj_L_holds (by decide) rfl (Nat.le_of_ble_eq_true rfl) rfl rfl rfl (c_L_holds (lc_ok_same (eX_law (((rc_tell_F hG _ _ _ _ _ _).up rfl).up rfl)) hk)) (fun r12_ t12_ h12 => ?_)
      obtain ⟨rfl, hF12⟩ := h12
      dsimp only [hy_st, List.cons_append, List.nil_append]
      rw [tell_hold hG]
      have hG2 := rX_eX (((rc_tell_F hG _ _ _ _ _ _).up rfl).up rfl) hF12
      refine hy_zreturn (i := 61) rfl rfl (by first | decide | exact hy_b01 _) ?_
      first | (refine ⟨congrArg some ?_, hG2⟩; simp only [sp_child]; rw [if_pos zc1, zc2]; rfl) | (refine ⟨congrArg some ?_, hG⟩; simp only [sp_child]; rw [if_neg (show ¬ rc_has t 107 = true by rw [zc1]; decide)]; first | (rw [hb_add0.mp zc2]; rfl) | (have h9 := (not_congr hb_add0).mp zc2; rw [Bool.not_eq_false] at h9; rw [h9]; rfl))
  · refine hy_iload (i := 19) rfl rfl ?_
    refine hy_iload (i := 20) rfl rfl ?_
    refine hy_iadd (i := 21) rfl (hb_add _ _) ?_
    refine hy_if_le (i := 22) (tt := 25) rfl (fun zc2 => ?_) (fun zc2 => ?_)
    · refine hy_const (i := 25) rfl (by decide) ?_
      refine hy_zreturn (i := 26) rfl rfl (by first | decide | exact hy_b01 _) ?_
      first | (refine ⟨congrArg some ?_, hG2⟩; simp only [sp_child]; rw [if_pos zc1, zc2]; rfl) | (refine ⟨congrArg some ?_, hG⟩; simp only [sp_child]; rw [if_neg (show ¬ rc_has t 107 = true by rw [zc1]; decide)]; first | (rw [hb_add0.mp zc2]; rfl) | (have h9 := (not_congr hb_add0).mp zc2; rw [Bool.not_eq_false] at h9; rw [h9]; rfl))
    · refine hy_const (i := 23) rfl (by decide) ?_
      refine hy_goto (i := 24) (tt := 26) rfl ?_
      refine hy_zreturn (i := 26) rfl rfl (by first | decide | exact hy_b01 _) ?_
      first | (refine ⟨congrArg some ?_, hG2⟩; simp only [sp_child]; rw [if_pos zc1, zc2]; rfl) | (refine ⟨congrArg some ?_, hG⟩; simp only [sp_child]; rw [if_neg (show ¬ rc_has t 107 = true by rw [zc1]; decide)]; first | (rw [hb_add0.mp zc2]; rfl) | (have h9 := (not_congr hb_add0).mp zc2; rw [Bool.not_eq_false] at h9; rw [h9]; rfl))
end EY
/-! the class's ground and purse -/
def sp_fields (t : hy_T) (e c : Int) : Nat → Int
  | 0 => 0
  | n + 1 => sp_fields t e c n + (if t 9 n = c ∧ t 35 n = e then 1 else 0)
theorem sp_fields_le (t : hy_T) (e c : Int) : ∀ n : Nat, 0 ≤ sp_fields t e c n ∧ sp_fields t e c n ≤ n
  | 0 => by simp [sp_fields]
  | n + 1 => by
    have h := sp_fields_le t e c n
    simp only [sp_fields]
    split <;> omega
theorem lc_clamp_le {m : Int} (hm : 0 ≤ m) (v : Int) : 0 ≤ lc_clamp m v ∧ lc_clamp m v ≤ m := by
  unfold lc_clamp
  split <;> split <;> omega
theorem lc_amt_le (t : hy_T) (V : Nat → Int) (k : Int) {m : Int} (hm : 0 ≤ m) : 0 ≤ lc_amt t V k m ∧ lc_amt t V k m ≤ m := by
  have h : ∀ n j, 0 ≤ lc_amtN t V k m n j ∧ lc_amtN t V k m n j ≤ m := by
    intro n
    induction n with
    | zero => intro j; simp [lc_amtN, hm]
    | succ n ih =>
      intro j
      simp only [lc_amtN]
      split
      · exact lc_clamp_le hm _
      · exact ih _
  exact h _ _
def sp_priceOf (t : hy_T) (e c q n g : Int) : Int := lc_amt t (LV e c q (t 33 4) (hy_b (sp_told (t 5 3) c)) 0 0 n g 0) 118 99
def sp_price (t : hy_T) (e q sup c : Int) : Int := if 0 < sp_fields t e c 64 then sp_fields t e c 64 * sp_priceOf t e c q (sp_fields t e c 64) (sp_bc (hz_ior (sp_hav (t 34) c q) (hz_ishl (hy_b (hz_b sup c)) e))) else 0
theorem sp_priceOf_le (t : hy_T) (e c q n g : Int) : 0 ≤ sp_priceOf t e c q n g ∧ sp_priceOf t e c q n g ≤ 99 := lc_amt_le t _ 118 (by decide)
theorem sp_price_le (t : hy_T) (e q sup c : Int) : 0 ≤ sp_price t e q sup c ∧ sp_price t e q sup c ≤ 6400 := by
  unfold sp_price
  have h1 := sp_fields_le t e c 64
  split
  · have h2 := sp_priceOf_le t e c q (sp_fields t e c 64) (sp_bc (hz_ior (sp_hav (t 34) c q) (hz_ishl (hy_b (hz_b sup c)) e)))
    generalize sp_priceOf t e c q (sp_fields t e c 64) (sp_bc (hz_ior (sp_hav (t 34) c q) (hz_ishl (hy_b (hz_b sup c)) e))) = p at h2
    generalize sp_fields t e c 64 = f at h1
    have h3 : f * p ≤ 64 * 99 := Int.mul_le_mul (by omega) (by omega) (by omega) (by omega)
    have h4 : 0 ≤ f * p := Int.mul_nonneg (by omega) (by omega)
    omega
  · omega
def sp_worthN (f : Nat → Int) (seen : Int) : Nat → Int
  | 0 => 0
  | n + 1 => sp_worthN f seen n + hy_b (hz_b seen n) * f n
theorem hb_mul (p : Bool) (x : Int) : hy_b p * x = if p = true then x else 0 := by cases p <;> simp [hy_b]
theorem sp_worthN_le {f : Nat → Int} (hf : ∀ c : Nat, c < 12 → 0 ≤ f c ∧ f c ≤ 6400) (seen : Int) : ∀ n : Nat, n ≤ 12 → 0 ≤ sp_worthN f seen n ∧ sp_worthN f seen n ≤ 6400 * n
  | 0, _ => by simp [sp_worthN]
  | n + 1, hn => by
    have h := sp_worthN_le hf seen n (by omega)
    have h2 := hf n (by omega)
    simp only [sp_worthN, hb_mul]
    split <;> omega
abbrev pX : Nat → Nat → Bool := fun r _ => r == 17 || r == 18 || r == 48
theorem eX_pX {t t1 : hy_T} (h : hy_F eX t t1) : hy_F pX t t1 := h.w (fun r j q => by revert q; simp [eX, pX]; omega)
theorem pX_law {t t1 : hy_T} (h : hy_F pX t t1) : lc_same t t1 := lc_same_of h (fun r j q => by revert q; simp [lawX, pX]; omega)
theorem sp_fields_F {X : Nat → Nat → Bool} {t t1 : hy_T} (h : hy_F X t t1) (h9 : ∀ j, X 9 j = false) (h35 : ∀ j, X 35 j = false) (e c : Int) : ∀ n, sp_fields t1 e c n = sp_fields t e c n
  | 0 => rfl
  | n + 1 => by simp only [sp_fields, sp_fields_F h h9 h35 e c n, h 9 n (h9 n), h 35 n (h35 n)]
section PU
variable {sc : List Int32} {t : hy_T}
theorem c_G_at {f : Int} : hy_Ct sc hm_G_at 1 [.inr (some 8), .inl f] t (hy_e (some (if 0 ≤ f ∧ f < 64 then t 9 f.toNat else 12)) t) := by
  refine hy_mk_ct ok_G_at ck_G_at (Nat.le_of_ble_eq_true rfl) ?_
  refine hy_iload (i := 0) rfl rfl ?_
  refine hy_const (i := 1) rfl (by decide) ?_
  refine hy_cS2e (i := 2) rfl (by decide) mj_W_isAmong (by decide) rfl (Nat.le_of_ble_eq_true rfl) (c_W_isAmong) ?_
  refine hy_ib_eq (i := 3) (tt := 9) rfl (fun zc1 => ?_) (fun zc1 => ?_)
  · refine hy_const (i := 9) rfl (by decide) ?_
    refine hy_ireturn (i := 10) rfl rfl ?_
    exact ⟨congrArg some (by simp at zc1; split <;> first | rfl | omega), rfl⟩
  · refine hy_aload (i := 4) rfl rfl ?_
    refine hy_getr (i := 5) rfl rfl ?_
    refine hy_iload (i := 6) rfl rfl ?_
    refine hy_iald (i := 7) rfl rfl (by simp at zc1; omega) rfl ?_
    refine hy_goto (i := 8) (tt := 10) rfl ?_
    refine hy_ireturn (i := 10) rfl rfl ?_
    exact ⟨congrArg some (by simp at zc1; split <;> first | rfl | omega), rfl⟩
def sp_paintedN (t : hy_T) : Nat → Int
  | 0 => 0
  | n + 1 => if t 9 n = 12 then sp_paintedN t n else sp_paintedN t n + 1
theorem sp_painted_le (t : hy_T) : ∀ n : Nat, 0 ≤ sp_paintedN t n ∧ sp_paintedN t n ≤ n
  | 0 => by simp [sp_paintedN]
  | n + 1 => by
    have h := sp_painted_le t n
    simp only [sp_paintedN]
    split <;> omega
theorem c_G_painted : hy_Ct sc hm_G_painted 0 [.inr (some 8)] t (hy_e (some (sp_paintedN t 64)) t) := by
  refine hy_mk_ct ok_G_painted ck_G_painted (Nat.le_of_ble_eq_true rfl) ?_
  have loop : ∀ (n : Nat), ∀ (k : Nat) (s : Int), n + k = 64 → s = sp_paintedN t k → hy_W sc hm_G_painted 0 4 [.inr (some 8), .inl s, .inl (k : Int)] [] t (hy_e (some (sp_paintedN t 64)) t) := by
    intro n
    induction n with
    | zero =>
      intro k s hn hs
      obtain rfl : k = 64 := by omega
      refine hy_iload (i := 4) rfl rfl ?_
      refine hy_const (i := 5) rfl (by decide) ?_
      refine hy_ic_ge (i := 6) (tt := 16) rfl (fun zc1 => ?_) (fun zc1 => ?_)
      · refine hy_iload (i := 16) rfl rfl ?_
        refine hy_ireturn (i := 17) rfl rfl ?_
        exact ⟨congrArg some hs, rfl⟩
      · omega
    | succ n ih =>
      intro k s hn hs
      have hb := sp_painted_le t k
      refine hy_iload (i := 4) rfl rfl ?_
      refine hy_const (i := 5) rfl (by decide) ?_
      refine hy_ic_ge (i := 6) (tt := 16) rfl (fun zc1 => ?_) (fun zc1 => ?_)
      · omega
      · refine hy_aload (i := 7) rfl rfl ?_
        refine hy_getr (i := 8) rfl rfl ?_
        refine hy_iload (i := 9) rfl rfl ?_
        refine hy_iald (i := 10) rfl rfl (by omega) rfl ?_
        refine hy_const (i := 11) rfl (by decide) ?_
        refine hy_ic_eq (i := 12) (tt := 14) rfl (fun zc2 => ?_) (fun zc2 => ?_)
        · refine hy_iinc (i := 14) rfl rfl (by omega) ?_
          refine hy_goto (i := 15) (tt := 4) rfl ?_
          refine ih (k + 1) _ (by omega) ?_
          simp only [sp_paintedN]
          rw [← hs]
          first | (rw [if_pos (show t 9 k = 12 by assumption)]; done) | (rw [if_neg (show ¬ t 9 k = 12 by assumption)]; done)
        · refine hy_iinc (i := 13) rfl rfl (by omega) ?_
          refine hy_iinc (i := 14) rfl rfl (by omega) ?_
          refine hy_goto (i := 15) (tt := 4) rfl ?_
          refine ih (k + 1) _ (by omega) ?_
          simp only [sp_paintedN]
          rw [← hs]
          first | (rw [if_pos (show t 9 k = 12 by assumption)]; done) | (rw [if_neg (show ¬ t 9 k = 12 by assumption)]; done)
  refine hy_const (i := 0) rfl (by decide) ?_
  refine hy_istore (i := 1) rfl ?_
  refine hy_const (i := 2) rfl (by decide) ?_
  refine hy_istore (i := 3) rfl ?_
  exact loop 64 0 0 rfl rfl
theorem c_U_fieldsOf {e c : Int} : hy_Ct sc hm_U_fieldsOf 2 [.inr (some 47), .inl e, .inl c] t (hy_e (some (sp_fields t e c 64)) t) := by
  refine hy_mk_ct ok_U_fieldsOf ck_U_fieldsOf (Nat.le_of_ble_eq_true rfl) ?_
  have loop : ∀ (n : Nat), ∀ (k : Nat) (s : Int), n + k = 64 → s = sp_fields t e c k → hy_W sc hm_U_fieldsOf 2 4 [.inr (some 47), .inl e, .inl c, .inl s, .inl (k : Int)] [] t (hy_e (some (sp_fields t e c 64)) t) := by
    intro n
    induction n with
    | zero =>
      intro k s hn hs
      obtain rfl : k = 64 := by omega
      refine hy_iload (i := 4) rfl rfl ?_
      refine hy_const (i := 5) rfl (by decide) ?_
      refine hy_ic_ge (i := 6) (tt := 22) rfl (fun zc1 => ?_) (fun zc1 => ?_)
      · refine hy_iload (i := 22) rfl rfl ?_
        refine hy_ireturn (i := 23) rfl rfl ?_
        exact ⟨congrArg some hs, rfl⟩
      · omega
    | succ n ih =>
      intro k s hn hs
      have hb := sp_fields_le t e c k
      refine hy_iload (i := 4) rfl rfl ?_
      refine hy_const (i := 5) rfl (by decide) ?_
      refine hy_ic_ge (i := 6) (tt := 22) rfl (fun zc1 => ?_) (fun zc1 => ?_)
      · omega
      · refine hy_aload (i := 7) rfl rfl ?_
        refine hy_getr (i := 8) rfl rfl ?_
        refine hy_iload (i := 9) rfl rfl ?_
        refine hy_cV1e (i := 10) rfl mj_G_at (by decide) rfl (Nat.le_of_ble_eq_true rfl) rfl rfl rfl (c_G_at) ?_
        rw [if_pos (show 0 ≤ (k : Int) ∧ (k : Int) < 64 by omega)]
        refine hy_iload (i := 11) rfl rfl ?_
        refine hy_ic_ne (i := 12) (tt := 20) rfl (fun zc2 => ?_) (fun zc2 => ?_)
        · refine hy_iinc (i := 20) rfl rfl (by omega) ?_
          refine hy_goto (i := 21) (tt := 4) rfl ?_
          refine ih (k + 1) _ (by omega) ?_
          simp only [sp_fields]
          rw [← hs]
          first | (rw [if_pos (show t 9 k = c ∧ t 35 k = e from ⟨by assumption, by assumption⟩)]; done) | (rw [if_neg (fun q : t 9 k = c ∧ t 35 k = e => by first | exact absurd q.1 (by assumption) | exact absurd q.2 (by assumption))]; simp; done)
        · refine hy_aload (i := 13) rfl rfl ?_
          refine hy_getr (i := 14) rfl rfl ?_
          refine hy_iload (i := 15) rfl rfl ?_
          refine hy_cV1e (i := 16) rfl mj_S_ownerOf (by decide) rfl (Nat.le_of_ble_eq_true rfl) rfl rfl rfl (c_S_ownerOf_33) ?_
          rw [if_pos (show 0 ≤ (k : Int) ∧ (k : Int) < 64 by omega)]
          refine hy_iload (i := 17) rfl rfl ?_
          refine hy_ic_ne (i := 18) (tt := 20) rfl (fun zc3 => ?_) (fun zc3 => ?_)
          · refine hy_iinc (i := 20) rfl rfl (by omega) ?_
            refine hy_goto (i := 21) (tt := 4) rfl ?_
            refine ih (k + 1) _ (by omega) ?_
            simp only [sp_fields]
            rw [← hs]
            first | (rw [if_pos (show t 9 k = c ∧ t 35 k = e from ⟨by assumption, by assumption⟩)]; done) | (rw [if_neg (fun q : t 9 k = c ∧ t 35 k = e => by first | exact absurd q.1 (by assumption) | exact absurd q.2 (by assumption))]; simp; done)
          · refine hy_iinc (i := 19) rfl rfl (by omega) ?_
            refine hy_iinc (i := 20) rfl rfl (by omega) ?_
            refine hy_goto (i := 21) (tt := 4) rfl ?_
            refine ih (k + 1) _ (by omega) ?_
            simp only [sp_fields]
            rw [← hs]
            first | (rw [if_pos (show t 9 k = c ∧ t 35 k = e from ⟨by assumption, by assumption⟩)]; done) | (rw [if_neg (fun q : t 9 k = c ∧ t 35 k = e => by first | exact absurd q.1 (by assumption) | exact absurd q.2 (by assumption))]; simp; done)
  refine hy_const (i := 0) rfl (by decide) ?_
  refine hy_istore (i := 1) rfl ?_
  refine hy_const (i := 2) rfl (by decide) ?_
  refine hy_istore (i := 3) rfl ?_
  exact loop 64 0 0 rfl rfl
theorem c_U_priceOf {e c q n g : Int} (hk : lc_ok t) : hy_Ct sc hm_U_priceOf 3 [.inr (some 47), .inl e, .inl c, .inl q, .inl n, .inl g] t (fun r t' => r = some (sp_priceOf t e c q n g) ∧ hy_F eX t t') := by
  refine hy_mk_ct ok_U_priceOf ck_U_priceOf (Nat.le_of_ble_eq_true rfl) ?_
  refine hy_aload (i := 0) rfl rfl ?_
  refine hy_getr (i := 1) rfl rfl ?_
  refine hy_iload (i := 2) rfl rfl ?_
  refine hy_cV1e (i := 3) rfl mj_P_isMixed (by decide) rfl (Nat.le_of_ble_eq_true rfl) rfl rfl rfl (c_P_isMixed) ?_
  refine hy_ib_eq (i := 4) (tt := 7) rfl (fun zc1 => ?_) (fun zc1 => ?_)
  · refine hy_const (i := 7) rfl (by decide) ?_
    refine hy_istore (i := 8) rfl ?_
    refine hy_aload (i := 9) rfl rfl ?_
    refine hy_getr (i := 10) rfl rfl ?_
    refine hy_iload (i := 11) rfl rfl ?_
    refine hy_iload (i := 12) rfl rfl ?_
    refine hy_iload (i := 13) rfl rfl ?_
    refine hy_aload (i := 14) rfl rfl ?_
    refine hy_getr (i := 15) rfl rfl ?_
    refine hy_cV0e (i := 16) rfl mj_S_day (by decide) rfl (Nat.le_of_ble_eq_true rfl) rfl rfl rfl (c_S_day_33) ?_
    refine hy_iload (i := 17) rfl rfl ?_
    refine hy_iload (i := 18) rfl rfl ?_
    refine hy_cV6v (i := 19) rfl mj_L_tell (by decide) rfl (Nat.le_of_ble_eq_true rfl) rfl rfl rfl (c_L_tell) ?_
    refine hy_aload (i := 20) rfl rfl ?_
    refine hy_getr (i := 21) rfl rfl ?_
    refine hy_iload (i := 22) rfl rfl ?_
    refine hy_cV1v (i := 23) rfl mj_L_tellFields (by decide) rfl (Nat.le_of_ble_eq_true rfl) rfl rfl rfl (c_L_tellFields) ?_
    refine hy_aload (i := 24) rfl rfl ?_
    refine hy_getr (i := 25) rfl rfl ?_
    refine hy_const (i := 26) rfl (by decide) ?_
    refine hy_const (i := 27) rfl (by decide) ?_
    refine hy_cV2 (i := 28) rfl mj_L_amount (by decide) rfl (Nat.le_of_ble_eq_true rfl) rfl rfl rfl (c_L_amount (lc_ok_same (eX_law ((rc_tell_F hy_F.rf _ _ _ _ _ _).up rfl)) hk)) (fun r5_ t5_ h5 => ?_)
    obtain ⟨rfl, hF5⟩ := h5
    dsimp only [hy_st, List.cons_append, List.nil_append]
    rw [tell_amt hy_F.rf]
    have hG := rX_eX ((rc_tell_F (hy_F.rf (t := t)) _ _ _ _ _ _).up rfl) hF5
    refine hy_ireturn (i := 29) rfl rfl ?_
    refine ⟨congrArg some ?_, hG⟩
    unfold sp_priceOf
    rw [zc1]
    rfl
  · refine hy_const (i := 5) rfl (by decide) ?_
    refine hy_goto (i := 6) (tt := 8) rfl ?_
    refine hy_istore (i := 8) rfl ?_
    refine hy_aload (i := 9) rfl rfl ?_
    refine hy_getr (i := 10) rfl rfl ?_
    refine hy_iload (i := 11) rfl rfl ?_
    refine hy_iload (i := 12) rfl rfl ?_
    refine hy_iload (i := 13) rfl rfl ?_
    refine hy_aload (i := 14) rfl rfl ?_
    refine hy_getr (i := 15) rfl rfl ?_
    refine hy_cV0e (i := 16) rfl mj_S_day (by decide) rfl (Nat.le_of_ble_eq_true rfl) rfl rfl rfl (c_S_day_33) ?_
    refine hy_iload (i := 17) rfl rfl ?_
    refine hy_iload (i := 18) rfl rfl ?_
    refine hy_cV6v (i := 19) rfl mj_L_tell (by decide) rfl (Nat.le_of_ble_eq_true rfl) rfl rfl rfl (c_L_tell) ?_
    refine hy_aload (i := 20) rfl rfl ?_
    refine hy_getr (i := 21) rfl rfl ?_
    refine hy_iload (i := 22) rfl rfl ?_
    refine hy_cV1v (i := 23) rfl mj_L_tellFields (by decide) rfl (Nat.le_of_ble_eq_true rfl) rfl rfl rfl (c_L_tellFields) ?_
    refine hy_aload (i := 24) rfl rfl ?_
    refine hy_getr (i := 25) rfl rfl ?_
    refine hy_const (i := 26) rfl (by decide) ?_
    refine hy_const (i := 27) rfl (by decide) ?_
    refine hy_cV2 (i := 28) rfl mj_L_amount (by decide) rfl (Nat.le_of_ble_eq_true rfl) rfl rfl rfl (c_L_amount (lc_ok_same (eX_law ((rc_tell_F hy_F.rf _ _ _ _ _ _).up rfl)) hk)) (fun r5_ t5_ h5 => ?_)
    obtain ⟨rfl, hF5⟩ := h5
    dsimp only [hy_st, List.cons_append, List.nil_append]
    rw [tell_amt hy_F.rf]
    have hG := rX_eX ((rc_tell_F (hy_F.rf (t := t)) _ _ _ _ _ _).up rfl) hF5
    refine hy_ireturn (i := 29) rfl rfl ?_
    refine ⟨congrArg some ?_, hG⟩
    unfold sp_priceOf
    rw [zc1]
    rfl
theorem sp_priceOf_F {X : Nat → Nat → Bool} {t t1 : hy_T} (h : hy_F X t t1) (hl : lc_same t t1) (h5 : X 5 3 = false) (h33 : X 33 4 = false) (e c q n g : Int) : sp_priceOf t1 e c q n g = sp_priceOf t e c q n g := by
  unfold sp_priceOf
  rw [lc_same_amt hl, h 5 3 h5, h 33 4 h33]
theorem c_U_price {e q sup : Int} (hk : lc_ok t) : hy_Ct sc hm_U_price 4 [.inr (some 47), .inl e, .inl q, .inl sup] t (fun r t' => r = none ∧ (∀ c : Nat, c < 12 → t' 48 c = sp_price t e q sup c) ∧ hy_F pX t t') := by
  refine hy_mk_ct ok_U_price ck_U_price (Nat.le_of_ble_eq_true rfl) ?_
  have loop : ∀ (n : Nat), ∀ (k : Nat) (t1 : hy_T) (v5 v6 : hy_V), n + k = 12 → hy_F pX t t1 → (∀ c : Nat, c < k → t1 48 c = sp_price t e q sup c) → hy_W sc hm_U_price 4 2 [.inr (some 47), .inl e, .inl q, .inl sup, .inl (k : Int), v5, v6] [] t1 (fun r t' => r = none ∧ (∀ c : Nat, c < 12 → t' 48 c = sp_price t e q sup c) ∧ hy_F pX t t') := by
    intro n
    induction n with
    | zero =>
      intro k t1 v5 v6 hn hF hs
      obtain rfl : k = 12 := by omega
      refine hy_iload (i := 2) rfl rfl ?_
      refine hy_const (i := 3) rfl (by decide) ?_
      refine hy_ic_ge (i := 4) (tt := 42) rfl (fun zc1 => ?_) (fun zc1 => ?_)
      · refine hy_return (i := 42) rfl rfl ?_
        exact ⟨rfl, hs, hF⟩
      · omega
    | succ n ih =>
      intro k t1 v5 v6 hn hF hs
      have hk1 := lc_ok_same (pX_law hF) hk
      have of := sp_fields_F hF (fun _ => rfl) (fun _ => rfl) e k 64
      have oh : t1 34 = t 34 := funext fun j => hF 34 j rfl
      have hb := sp_fields_le t e k 64
      have hpr := sp_price_le t e q sup k
      refine hy_iload (i := 2) rfl rfl ?_
      refine hy_const (i := 3) rfl (by decide) ?_
      refine hy_ic_ge (i := 4) (tt := 42) rfl (fun zc1 => ?_) (fun zc1 => ?_)
      · omega
      · refine hy_aload (i := 5) rfl rfl ?_
        refine hy_iload (i := 6) rfl rfl ?_
        refine hy_iload (i := 7) rfl rfl ?_
        refine hy_cV2e (i := 8) rfl mj_U_fieldsOf (by decide) rfl (Nat.le_of_ble_eq_true rfl) rfl rfl rfl (c_U_fieldsOf) ?_
        rw [of]
        refine hy_istore (i := 9) rfl ?_
        refine hy_aload (i := 10) rfl rfl ?_
        refine hy_getr (i := 11) rfl rfl ?_
        refine hy_iload (i := 12) rfl rfl ?_
        refine hy_iload (i := 13) rfl rfl ?_
        refine hy_cV2e (i := 14) rfl mj_S_havers (by decide) rfl (Nat.le_of_ble_eq_true rfl) rfl rfl rfl (c_S_havers_33) ?_
        rw [oh]
        refine hy_iload (i := 15) rfl rfl ?_
        refine hy_iload (i := 16) rfl rfl ?_
        refine hy_cS2e (i := 17) rfl (by decide) mj_W_bit (by decide) rfl (Nat.le_of_ble_eq_true rfl) (c_W_bit) ?_
        refine hy_iload (i := 18) rfl rfl ?_
        refine hy_ishl (i := 19) rfl ?_
        refine hy_ior (i := 20) rfl ?_
        refine hy_istore (i := 21) rfl ?_
        refine hy_aload (i := 22) rfl rfl ?_
        refine hy_getr (i := 23) rfl rfl ?_
        refine hy_iload (i := 24) rfl rfl ?_
        refine hy_iload (i := 25) rfl rfl ?_
        refine hy_if_le (i := 26) (tt := 38) rfl (fun zc2 => ?_) (fun zc2 => ?_)
        · refine hy_const (i := 38) rfl (by decide) ?_
          first | rw [← e1] | rw [show (0 : Int) = sp_price t e q sup k by unfold sp_price; rw [if_neg (by omega)]]
          refine hy_iast (i := 39) rfl rfl (by omega) (k := k) (by omega) ?_
          refine hy_iinc (i := 40) rfl rfl (by omega) ?_
          refine hy_goto (i := 41) (tt := 2) rfl ?_
          refine ih (k + 1) _ _ _ (by omega) ?_ ?_
          · first | exact (hF.tr' (eX_pX (by assumption))).up rfl | exact hF.up rfl
          · intro c hc
            rcases Nat.lt_succ_iff_lt_or_eq.mp hc with h | rfl
            · rw [hy_up_row]; unfold su; rw [if_neg (by omega)]; first | exact hs c h | (rw [hF5 48 c rfl]; exact hs c h)
            · rw [hy_up_row]; unfold su; rw [if_pos rfl]
        · refine hy_iload (i := 27) rfl rfl ?_
          refine hy_aload (i := 28) rfl rfl ?_
          refine hy_iload (i := 29) rfl rfl ?_
          refine hy_iload (i := 30) rfl rfl ?_
          refine hy_iload (i := 31) rfl rfl ?_
          refine hy_iload (i := 32) rfl rfl ?_
          refine hy_iload (i := 33) rfl rfl ?_
          refine hy_cS1e (i := 34) rfl (by decide) mj_J_bitCount (by decide) rfl (Nat.le_of_ble_eq_true rfl) (c_J_bitCount) ?_
          refine hy_cV5 (i := 35) rfl mj_U_priceOf (by decide) rfl (Nat.le_of_ble_eq_true rfl) rfl rfl rfl (c_U_priceOf (by assumption)) (fun r5_ t5_ h5 => ?_)
          obtain ⟨rfl, hF5⟩ := h5
          dsimp only [hy_st, List.cons_append, List.nil_append]
          rw [sp_priceOf_F hF (pX_law hF) rfl rfl]
          have e1 : sp_price t e q sup k = sp_fields t e k 64 * sp_priceOf t e k q (sp_fields t e k 64) (sp_bc (hz_ior (sp_hav (t 34) k q) (hz_ishl (hy_b (hz_b sup k)) e))) := by unfold sp_price; rw [if_pos (by omega)]
          refine hy_imul (i := 36) rfl (by rw [← e1]; omega) ?_
          refine hy_goto (i := 37) (tt := 39) rfl ?_
          first | rw [← e1] | rw [show (0 : Int) = sp_price t e q sup k by unfold sp_price; rw [if_neg (by omega)]]
          refine hy_iast (i := 39) rfl rfl (by omega) (k := k) (by omega) ?_
          refine hy_iinc (i := 40) rfl rfl (by omega) ?_
          refine hy_goto (i := 41) (tt := 2) rfl ?_
          refine ih (k + 1) _ _ _ (by omega) ?_ ?_
          · first | exact (hF.tr' (eX_pX (by assumption))).up rfl | exact hF.up rfl
          · intro c hc
            rcases Nat.lt_succ_iff_lt_or_eq.mp hc with h | rfl
            · rw [hy_up_row]; unfold su; rw [if_neg (by omega)]; first | exact hs c h | (rw [hF5 48 c rfl]; exact hs c h)
            · rw [hy_up_row]; unfold su; rw [if_pos rfl]
  refine hy_const (i := 0) rfl (by decide) ?_
  refine hy_istore (i := 1) rfl ?_
  exact loop 12 0 t _ _ rfl hy_F.rf (fun c hc => by omega)
theorem c_U_worthWith {e q plain : Int} (hk : lc_ok t) (hp : ∀ c : Nat, c < 12 → 0 ≤ t 48 c ∧ t 48 c ≤ 6400) : hy_Ct sc hm_U_worthWith 4 [.inr (some 47), .inl e, .inl q, .inl plain] t (fun r t' => r = some (sp_worthN (t 48) (sp_seenN t e q plain 12) 12) ∧ hy_F eX t t') := by
  refine hy_mk_ct ok_U_worthWith ck_U_worthWith (Nat.le_of_ble_eq_true rfl) ?_
  have loop : ∀ (n : Nat), ∀ (k : Nat) (s : Int) (t1 : hy_T), n + k = 12 → hy_F eX t t1 → s = sp_worthN (t 48) (sp_seenN t e q plain 12) k → hy_W sc hm_U_worthWith 4 11 [.inr (some 47), .inl e, .inl q, .inl plain, .inl (sp_seenN t e q plain 12), .inl s, .inl (k : Int)] [] t1 (fun r t' => r = some (sp_worthN (t 48) (sp_seenN t e q plain 12) 12) ∧ hy_F eX t t') := by
    intro n
    induction n with
    | zero =>
      intro k s t1 hn hF hs
      obtain rfl : k = 12 := by omega
      refine hy_iload (i := 11) rfl rfl ?_
      refine hy_const (i := 12) rfl (by decide) ?_
      refine hy_ic_ge (i := 13) (tt := 27) rfl (fun zc1 => ?_) (fun zc1 => ?_)
      · refine hy_iload (i := 27) rfl rfl ?_
        refine hy_ireturn (i := 28) rfl rfl ?_
        exact ⟨congrArg some hs, hF⟩
      · omega
    | succ n ih =>
      intro k s t1 hn hF hs
      have hb := sp_worthN_le hp (sp_seenN t e q plain 12) k (by omega)
      have hb2 := sp_worthN_le hp (sp_seenN t e q plain 12) (k + 1) (by omega)
      have hpk := hp k (by omega)
      have e1 : sp_worthN (t 48) (sp_seenN t e q plain 12) (k + 1) = s + hy_b (hz_b (sp_seenN t e q plain 12) k) * t 48 k := by rw [hs]; rfl
      refine hy_iload (i := 11) rfl rfl ?_
      refine hy_const (i := 12) rfl (by decide) ?_
      refine hy_ic_ge (i := 13) (tt := 27) rfl (fun zc1 => ?_) (fun zc1 => ?_)
      · omega
      · refine hy_iload (i := 14) rfl rfl ?_
        refine hy_iload (i := 15) rfl rfl ?_
        refine hy_iload (i := 16) rfl rfl ?_
        refine hy_cS2e (i := 17) rfl (by decide) mj_W_bit (by decide) rfl (Nat.le_of_ble_eq_true rfl) (c_W_bit) ?_
        refine hy_aload (i := 18) rfl rfl ?_
        refine hy_getr (i := 19) rfl rfl ?_
        refine hy_iload (i := 20) rfl rfl ?_
        refine hy_iald (i := 21) rfl rfl (by omega) rfl ?_
        rw [show t1 48 (k : Int).toNat = t 48 k from hF 48 k rfl]
        refine hy_imul (i := 22) rfl (by rw [hb_mul]; split <;> omega) ?_
        refine hy_iadd (i := 23) rfl (by rw [← e1]; omega) ?_
        refine hy_istore (i := 24) rfl ?_
        refine hy_iinc (i := 25) rfl rfl (by omega) ?_
        refine hy_goto (i := 26) (tt := 11) rfl ?_
        exact ih (k + 1) _ _ (by omega) hF e1.symm
  refine hy_aload (i := 0) rfl rfl ?_
  refine hy_getr (i := 1) rfl rfl ?_
  refine hy_iload (i := 2) rfl rfl ?_
  refine hy_iload (i := 3) rfl rfl ?_
  refine hy_iload (i := 4) rfl rfl ?_
  refine hy_cV3 (i := 5) rfl mj_E_seenWith (by decide) rfl (Nat.le_of_ble_eq_true rfl) rfl rfl rfl (c_E_seenWith (by assumption)) (fun r1_ t1_ h1 => ?_)
  obtain ⟨rfl, hF1⟩ := h1
  dsimp only [hy_st, List.cons_append, List.nil_append]
  refine hy_istore (i := 6) rfl ?_
  refine hy_const (i := 7) rfl (by decide) ?_
  refine hy_istore (i := 8) rfl ?_
  refine hy_const (i := 9) rfl (by decide) ?_
  refine hy_istore (i := 10) rfl ?_
  exact loop 12 0 0 _ rfl hF1 rfl
def sp_worth (t : hy_T) (e q : Int) : Int := sp_worthN (fun c => sp_price t e q 0 c) (sp_seen t e q) 12
theorem sp_worthN_eq {f g : Nat → Int} (h : ∀ c : Nat, c < 12 → f c = g c) (seen : Int) : ∀ n : Nat, n ≤ 12 → sp_worthN f seen n = sp_worthN g seen n
  | 0, _ => rfl
  | n + 1, hn => by simp only [sp_worthN, sp_worthN_eq h seen n (by omega), h n (by omega)]
theorem sp_lawS_G {X : Nat → Nat → Bool} {t t1 : hy_T} (h : hy_F X t t1) (hl : lc_same t t1) (h33 : X 33 4 = false) (e c q : Int) (a b : Bool) : sp_lawS t1 e c q a b = sp_lawS t e c q a b := by
  unfold sp_lawS
  rw [lc_same_has hl, lc_same_hold hl, h 33 4 h33]
theorem sp_seenN_G {X : Nat → Nat → Bool} {t t1 : hy_T} (h : hy_F X t t1) (hl : lc_same t t1) (h33 : X 33 4 = false) (h5 : X 5 3 = false) (h6 : ∀ j, X 6 j = false) (h7 : ∀ j, X 7 j = false) (e q plain : Int) : ∀ n, sp_seenN t1 e q plain n = sp_seenN t e q plain n
  | 0 => rfl
  | n + 1 => by
    simp only [sp_seenN]
    rw [sp_seenN_G h hl h33 h5 h6 h7 e q plain n, h 5 3 h5, h 6 n (h6 n), h 7 n (h7 n), sp_lawS_G h hl h33]
theorem c_U_worthTo {e q : Int} (hk : lc_ok t) : hy_Ct sc hm_U_worthTo 5 [.inr (some 47), .inl e, .inl q] t (fun r t' => r = some (sp_worth t e q) ∧ hy_F pX t t') := by
  refine hy_mk_ct ok_U_worthTo ck_U_worthTo (Nat.le_of_ble_eq_true rfl) ?_
  refine hy_aload (i := 0) rfl rfl ?_
  refine hy_iload (i := 1) rfl rfl ?_
  refine hy_iload (i := 2) rfl rfl ?_
  refine hy_const (i := 3) rfl (by decide) ?_
  refine hy_cV3 (i := 4) rfl mj_U_price (by decide) rfl (Nat.le_of_ble_eq_true rfl) rfl rfl rfl (c_U_price (by assumption)) (fun r1_ t1_ h1 => ?_)
  obtain ⟨rfl, hP1, hF1⟩ := h1
  dsimp only [hy_st, List.nil_append]
  have hk1 := lc_ok_same (pX_law hF1) hk
  have hp1 : ∀ c : Nat, c < 12 → 0 ≤ t1_ 48 c ∧ t1_ 48 c ≤ 6400 := fun c hc => by rw [hP1 c hc]; exact sp_price_le t e q 0 c
  refine hy_aload (i := 5) rfl rfl ?_
  refine hy_iload (i := 6) rfl rfl ?_
  refine hy_iload (i := 7) rfl rfl ?_
  refine hy_aload (i := 8) rfl rfl ?_
  refine hy_getr (i := 9) rfl rfl ?_
  refine hy_iload (i := 10) rfl rfl ?_
  refine hy_iload (i := 11) rfl rfl ?_
  refine hy_cV2e (i := 12) rfl mj_S_had (by decide) rfl (Nat.le_of_ble_eq_true rfl) rfl rfl rfl (c_S_had_33) ?_
  refine hy_cV3 (i := 13) rfl mj_U_worthWith (by decide) rfl (Nat.le_of_ble_eq_true rfl) rfl rfl rfl (c_U_worthWith hk1 hp1) (fun r3_ t3_ h3 => ?_)
  obtain ⟨rfl, hF3⟩ := h3
  dsimp only [hy_st, List.cons_append, List.nil_append]
  refine hy_ireturn (i := 14) rfl rfl ?_
  refine ⟨congrArg some ?_, hF1.tr' (eX_pX hF3)⟩
  unfold sp_worth sp_seen
  rw [show t1_ 34 = t 34 from funext fun j => hF1 34 j rfl, sp_seenN_G hF1 (pX_law hF1) rfl rfl (fun _ => rfl) (fun _ => rfl)]
  exact sp_worthN_eq hP1 _ 12 (Nat.le_refl _)
theorem c_U_orders {n : Int} : hy_Ct sc hm_U_orders 1 [.inl n] t (hy_e (some (if 0 ≤ n ∧ n < 6 then [1, 1, 2, 6, 24, 120].getD n.toNat 0 else 0)) t) := by
  refine hy_mk_ct ok_U_orders ck_U_orders (Nat.le_of_ble_eq_true rfl) ?_
  refine hy_iload (i := 0) rfl rfl ?_
  refine hy_gets (i := 1) rfl ?_
  refine hy_alen_o (i := 2) rfl ?_
  refine hy_cS2e (i := 3) rfl (by decide) mj_W_isAmong (by decide) rfl (Nat.le_of_ble_eq_true rfl) (c_W_isAmong) ?_
  refine hy_ib_eq (i := 4) (tt := 9) rfl (fun zc1 => ?_) (fun zc1 => ?_)
  · refine hy_const (i := 9) rfl (by decide) ?_
    refine hy_ireturn (i := 10) rfl rfl ?_
    exact ⟨congrArg some (by simp at zc1; first | rw [if_pos (by omega)] | rw [if_neg (by omega)]), rfl⟩
  · refine hy_gets (i := 5) rfl ?_
    refine hy_iload (i := 6) rfl rfl ?_
    refine hy_iald_o (i := 7) rfl (by simp at zc1; omega) ?_
    refine hy_goto (i := 8) (tt := 10) rfl ?_
    refine hy_ireturn (i := 10) rfl rfl ?_
    exact ⟨congrArg some (by simp at zc1; first | rw [if_pos (by omega)] | rw [if_neg (by omega)]), rfl⟩
end PU
