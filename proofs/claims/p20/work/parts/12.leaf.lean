/-! the small ones -/
def hz_b (x k : Int) : Bool := decide (hz_iand (hz_ishr x k) 1 = 1)
theorem hy_b01 (p : Bool) : hy_b p = 0 ∨ hy_b p = 1 := by cases p <;> simp [hy_b]
theorem hz_and1 (x : Int) : hz_iand x 1 = 0 ∨ hz_iand x 1 = 1 := by
  unfold hz_iand
  have h : ((Int32.ofInt x &&& Int32.ofInt 1).toBitVec = 0#32 ∨ (Int32.ofInt x &&& Int32.ofInt 1).toBitVec = 1#32) := by
    rw [Int32.toBitVec_and, show (Int32.ofInt 1).toBitVec = 1#32 from rfl]
    generalize (Int32.ofInt x).toBitVec = v
    have h1 : v &&& 1#32 = BitVec.ofNat 32 (v.toNat % 2) := by
      apply BitVec.eq_of_toNat_eq
      simp [BitVec.toNat_and, Nat.and_one_is_mod]
      omega
    rw [h1]
    rcases (show v.toNat % 2 = 0 ∨ v.toNat % 2 = 1 by omega) with q | q <;> rw [q]
    · exact Or.inl rfl
    · exact Or.inr rfl
  rcases h with h | h
  · left
    show (Int32.ofInt x &&& Int32.ofInt 1).toBitVec.toInt = 0
    rw [h]; rfl
  · right
    show (Int32.ofInt x &&& Int32.ofInt 1).toBitVec.toInt = 1
    rw [h]; rfl
theorem hz_bit_v (x k : Int) : hz_iand (hz_ishr x k) 1 = hy_b (hz_b x k) := by
  unfold hz_b
  rcases hz_and1 (hz_ishr x k) with h | h <;> rw [h] <;> rfl
theorem hy_b_1 {p : Bool} : hy_b p = 1 ↔ p = true := by cases p <;> simp [hy_b]
theorem hy_icb_ne {sc : List Int32} {u : hx_M} {d i : Nat} {loc st : List hy_V} {t : hy_T} {Q : Option Int → hy_T → Prop} {p : Bool} {tt : Nat} (hop : (hx_ops u)[i]? = some (.if_icmp .ne (tt : Int))) (kt : p = false → hy_W sc u d tt loc st t Q) (kf : p = true → hy_W sc u d (i + 1) loc st t Q) : hy_W sc u d i loc (.inl 1 :: .inl (hy_b p) :: st) t Q :=
  hy_ic_ne hop (fun q => kt (by rw [hy_b_1] at q; simpa using q)) (fun q => kf (hy_b_1.mp q))
theorem hy_icb_eq {sc : List Int32} {u : hx_M} {d i : Nat} {loc st : List hy_V} {t : hy_T} {Q : Option Int → hy_T → Prop} {p : Bool} {tt : Nat} (hop : (hx_ops u)[i]? = some (.if_icmp .eq (tt : Int))) (kt : p = true → hy_W sc u d tt loc st t Q) (kf : p = false → hy_W sc u d (i + 1) loc st t Q) : hy_W sc u d i loc (.inl 1 :: .inl (hy_b p) :: st) t Q :=
  hy_ic_eq hop (fun q => kt (hy_b_1.mp q)) (fun q => kf (by rw [hy_b_1] at q; simpa using q))
section LF
variable {sc : List Int32} {t : hy_T}
theorem c_W_isAmong {a n : Int} : hy_Ct sc hm_W_isAmong 0 [.inl a, .inl n] t (hy_e (some (hy_b (decide (0 ≤ a ∧ a < n)))) t) := by
  refine hy_mk_ct ok_W_isAmong ck_W_isAmong (Nat.le_of_ble_eq_true rfl) ?_
  refine hy_iload (i := 0) rfl rfl ?_
  refine hy_if_lt (i := 1) (tt := 7) rfl (fun zc1 => ?_) (fun zc1 => ?_)
  · refine hy_const (i := 7) rfl (by decide) ?_
    refine hy_zreturn (i := 8) rfl rfl (by first | decide | exact hy_b01 _) ?_
    exact ⟨congrArg some (by simp [hy_b]; omega), rfl⟩
  · refine hy_iload (i := 2) rfl rfl ?_
    refine hy_iload (i := 3) rfl rfl ?_
    refine hy_ic_ge (i := 4) (tt := 7) rfl (fun zc2 => ?_) (fun zc2 => ?_)
    · refine hy_const (i := 7) rfl (by decide) ?_
      refine hy_zreturn (i := 8) rfl rfl (by first | decide | exact hy_b01 _) ?_
      exact ⟨congrArg some (by simp [hy_b]; omega), rfl⟩
    · refine hy_const (i := 5) rfl (by decide) ?_
      refine hy_goto (i := 6) (tt := 8) rfl ?_
      refine hy_zreturn (i := 8) rfl rfl (by first | decide | exact hy_b01 _) ?_
      exact ⟨congrArg some (by simp [hy_b]; omega), rfl⟩
theorem c_W_isEmpire {a : Int} : hy_Ct sc hm_W_isEmpire 1 [.inl a] t (hy_e (some (hy_b (decide (0 ≤ a ∧ a < 6)))) t) := by
  refine hy_mk_ct ok_W_isEmpire ck_W_isEmpire (Nat.le_of_ble_eq_true rfl) ?_
  refine hy_iload (i := 0) rfl rfl ?_
  refine hy_const (i := 1) rfl (by decide) ?_
  refine hy_cS2e (i := 2) rfl (by decide) mj_W_isAmong (by decide) rfl (Nat.le_of_ble_eq_true rfl) (c_W_isAmong) ?_
  refine hy_zreturn (i := 3) rfl rfl (by first | decide | exact hy_b01 _) ?_
  exact ⟨rfl, rfl⟩
theorem c_W_isQuarter {a : Int} : hy_Ct sc hm_W_isQuarter 0 [.inl a] t (hy_e (some (hy_b (decide (0 ≤ a ∧ a < 4)))) t) := by
  refine hy_mk_ct ok_W_isQuarter ck_W_isQuarter (Nat.le_of_ble_eq_true rfl) ?_
  refine hy_iload (i := 0) rfl rfl ?_
  refine hy_if_lt (i := 1) (tt := 7) rfl (fun zc1 => ?_) (fun zc1 => ?_)
  · refine hy_const (i := 7) rfl (by decide) ?_
    refine hy_zreturn (i := 8) rfl rfl (by first | decide | exact hy_b01 _) ?_
    exact ⟨congrArg some (by simp [hy_b]; omega), rfl⟩
  · refine hy_iload (i := 2) rfl rfl ?_
    refine hy_const (i := 3) rfl (by decide) ?_
    refine hy_ic_ge (i := 4) (tt := 7) rfl (fun zc2 => ?_) (fun zc2 => ?_)
    · refine hy_const (i := 7) rfl (by decide) ?_
      refine hy_zreturn (i := 8) rfl rfl (by first | decide | exact hy_b01 _) ?_
      exact ⟨congrArg some (by simp [hy_b]; omega), rfl⟩
    · refine hy_const (i := 5) rfl (by decide) ?_
      refine hy_goto (i := 6) (tt := 8) rfl ?_
      refine hy_zreturn (i := 8) rfl rfl (by first | decide | exact hy_b01 _) ?_
      exact ⟨congrArg some (by simp [hy_b]; omega), rfl⟩
theorem c_W_isPlace {a b : Int} : hy_Ct sc hm_W_isPlace 1 [.inl a, .inl b] t (hy_e (some (hy_b (decide ((0 ≤ a ∧ a < 8) ∧ 0 ≤ b ∧ b < 8)))) t) := by
  refine hy_mk_ct ok_W_isPlace ck_W_isPlace (Nat.le_of_ble_eq_true rfl) ?_
  refine hy_iload (i := 0) rfl rfl ?_
  refine hy_const (i := 1) rfl (by decide) ?_
  refine hy_cS2e (i := 2) rfl (by decide) mj_W_isAmong (by decide) rfl (Nat.le_of_ble_eq_true rfl) (c_W_isAmong) ?_
  refine hy_ib_eq (i := 3) (tt := 10) rfl (fun zc1 => ?_) (fun zc1 => ?_)
  · refine hy_const (i := 10) rfl (by decide) ?_
    refine hy_zreturn (i := 11) rfl rfl (by first | decide | exact hy_b01 _) ?_
    exact ⟨congrArg some (by simp_all [hy_b]; try omega), rfl⟩
  · refine hy_iload (i := 4) rfl rfl ?_
    refine hy_const (i := 5) rfl (by decide) ?_
    refine hy_cS2e (i := 6) rfl (by decide) mj_W_isAmong (by decide) rfl (Nat.le_of_ble_eq_true rfl) (c_W_isAmong) ?_
    refine hy_ib_eq (i := 7) (tt := 10) rfl (fun zc2 => ?_) (fun zc2 => ?_)
    · refine hy_const (i := 10) rfl (by decide) ?_
      refine hy_zreturn (i := 11) rfl rfl (by first | decide | exact hy_b01 _) ?_
      exact ⟨congrArg some (by simp_all [hy_b]; try omega), rfl⟩
    · refine hy_const (i := 8) rfl (by decide) ?_
      refine hy_goto (i := 9) (tt := 11) rfl ?_
      refine hy_zreturn (i := 11) rfl rfl (by first | decide | exact hy_b01 _) ?_
      exact ⟨congrArg some (by simp_all [hy_b]; try omega), rfl⟩
theorem c_W_isDays {a : Int} : hy_Ct sc hm_W_isDays 0 [.inl a] t (hy_e (some (hy_b (decide (1 ≤ a ∧ a ≤ 99)))) t) := by
  refine hy_mk_ct ok_W_isDays ck_W_isDays (Nat.le_of_ble_eq_true rfl) ?_
  refine hy_iload (i := 0) rfl rfl ?_
  refine hy_const (i := 1) rfl (by decide) ?_
  refine hy_ic_lt (i := 2) (tt := 8) rfl (fun zc1 => ?_) (fun zc1 => ?_)
  · refine hy_const (i := 8) rfl (by decide) ?_
    refine hy_zreturn (i := 9) rfl rfl (by first | decide | exact hy_b01 _) ?_
    exact ⟨congrArg some (by simp [hy_b]; omega), rfl⟩
  · refine hy_iload (i := 3) rfl rfl ?_
    refine hy_const (i := 4) rfl (by decide) ?_
    refine hy_ic_gt (i := 5) (tt := 8) rfl (fun zc2 => ?_) (fun zc2 => ?_)
    · refine hy_const (i := 8) rfl (by decide) ?_
      refine hy_zreturn (i := 9) rfl rfl (by first | decide | exact hy_b01 _) ?_
      exact ⟨congrArg some (by simp [hy_b]; omega), rfl⟩
    · refine hy_const (i := 6) rfl (by decide) ?_
      refine hy_goto (i := 7) (tt := 9) rfl ?_
      refine hy_zreturn (i := 9) rfl rfl (by first | decide | exact hy_b01 _) ?_
      exact ⟨congrArg some (by simp [hy_b]; omega), rfl⟩
theorem c_W_isDigit {a : Int} : hy_Ct sc hm_W_isDigit 0 [.inl a] t (hy_e (some (hy_b (decide (48 ≤ a ∧ a ≤ 57)))) t) := by
  refine hy_mk_ct ok_W_isDigit ck_W_isDigit (Nat.le_of_ble_eq_true rfl) ?_
  refine hy_iload (i := 0) rfl rfl ?_
  refine hy_const (i := 1) rfl (by decide) ?_
  refine hy_ic_lt (i := 2) (tt := 8) rfl (fun zc1 => ?_) (fun zc1 => ?_)
  · refine hy_const (i := 8) rfl (by decide) ?_
    refine hy_zreturn (i := 9) rfl rfl (by first | decide | exact hy_b01 _) ?_
    exact ⟨congrArg some (by simp [hy_b]; omega), rfl⟩
  · refine hy_iload (i := 3) rfl rfl ?_
    refine hy_const (i := 4) rfl (by decide) ?_
    refine hy_ic_gt (i := 5) (tt := 8) rfl (fun zc2 => ?_) (fun zc2 => ?_)
    · refine hy_const (i := 8) rfl (by decide) ?_
      refine hy_zreturn (i := 9) rfl rfl (by first | decide | exact hy_b01 _) ?_
      exact ⟨congrArg some (by simp [hy_b]; omega), rfl⟩
    · refine hy_const (i := 6) rfl (by decide) ?_
      refine hy_goto (i := 7) (tt := 9) rfl ?_
      refine hy_zreturn (i := 9) rfl rfl (by first | decide | exact hy_b01 _) ?_
      exact ⟨congrArg some (by simp [hy_b]; omega), rfl⟩
theorem c_W_bit {a b : Int} : hy_Ct sc hm_W_bit 0 [.inl a, .inl b] t (hy_e (some (hy_b (hz_b a b))) t) := by
  refine hy_mk_ct ok_W_bit ck_W_bit (Nat.le_of_ble_eq_true rfl) ?_
  refine hy_iload (i := 0) rfl rfl ?_
  refine hy_iload (i := 1) rfl rfl ?_
  refine hy_ishr (i := 2) rfl ?_
  refine hy_const (i := 3) rfl (by decide) ?_
  refine hy_iand (i := 4) rfl ?_
  refine hy_ireturn (i := 5) rfl rfl ?_
  exact ⟨congrArg some (hz_bit_v a b), rfl⟩
theorem c_M_in {a l h : Int} : hy_Ct sc hm_M_in 0 [.inl a, .inl l, .inl h] t (hy_e (some (hy_b (decide (l ≤ a ∧ a ≤ h)))) t) := by
  refine hy_mk_ct ok_M_in ck_M_in (Nat.le_of_ble_eq_true rfl) ?_
  refine hy_iload (i := 0) rfl rfl ?_
  refine hy_iload (i := 1) rfl rfl ?_
  refine hy_ic_lt (i := 2) (tt := 8) rfl (fun zc1 => ?_) (fun zc1 => ?_)
  · refine hy_const (i := 8) rfl (by decide) ?_
    refine hy_zreturn (i := 9) rfl rfl (by first | decide | exact hy_b01 _) ?_
    exact ⟨congrArg some (by simp [hy_b]; omega), rfl⟩
  · refine hy_iload (i := 3) rfl rfl ?_
    refine hy_iload (i := 4) rfl rfl ?_
    refine hy_ic_gt (i := 5) (tt := 8) rfl (fun zc2 => ?_) (fun zc2 => ?_)
    · refine hy_const (i := 8) rfl (by decide) ?_
      refine hy_zreturn (i := 9) rfl rfl (by first | decide | exact hy_b01 _) ?_
      exact ⟨congrArg some (by simp [hy_b]; omega), rfl⟩
    · refine hy_const (i := 6) rfl (by decide) ?_
      refine hy_goto (i := 7) (tt := 9) rfl ?_
      refine hy_zreturn (i := 9) rfl rfl (by first | decide | exact hy_b01 _) ?_
      exact ⟨congrArg some (by simp [hy_b]; omega), rfl⟩
theorem c_M_min {a b : Int} : hy_Ct sc hm_M_min 0 [.inl a, .inl b] t (hy_e (some (if a < b then a else b)) t) := by
  refine hy_mk_ct ok_M_min ck_M_min (Nat.le_of_ble_eq_true rfl) ?_
  refine hy_iload (i := 0) rfl rfl ?_
  refine hy_iload (i := 1) rfl rfl ?_
  refine hy_ic_ge (i := 2) (tt := 5) rfl (fun zc1 => ?_) (fun zc1 => ?_)
  · refine hy_iload (i := 5) rfl rfl ?_
    refine hy_ireturn (i := 6) rfl rfl ?_
    exact ⟨congrArg some (by split <;> omega), rfl⟩
  · refine hy_iload (i := 3) rfl rfl ?_
    refine hy_goto (i := 4) (tt := 6) rfl ?_
    refine hy_ireturn (i := 6) rfl rfl ?_
    exact ⟨congrArg some (by split <;> omega), rfl⟩
theorem c_M_max {a b : Int} : hy_Ct sc hm_M_max 0 [.inl a, .inl b] t (hy_e (some (if b < a then a else b)) t) := by
  refine hy_mk_ct ok_M_max ck_M_max (Nat.le_of_ble_eq_true rfl) ?_
  refine hy_iload (i := 0) rfl rfl ?_
  refine hy_iload (i := 1) rfl rfl ?_
  refine hy_ic_le (i := 2) (tt := 5) rfl (fun zc1 => ?_) (fun zc1 => ?_)
  · refine hy_iload (i := 5) rfl rfl ?_
    refine hy_ireturn (i := 6) rfl rfl ?_
    exact ⟨congrArg some (by split <;> omega), rfl⟩
  · refine hy_iload (i := 3) rfl rfl ?_
    refine hy_goto (i := 4) (tt := 6) rfl ?_
    refine hy_ireturn (i := 6) rfl rfl ?_
    exact ⟨congrArg some (by split <;> omega), rfl⟩
theorem c_M_has {a b : Int} : hy_Ct sc hm_M_has 0 [.inl a, .inl b] t (hy_e (some (hy_b (hz_b a b))) t) := by
  refine hy_mk_ct ok_M_has ck_M_has (Nat.le_of_ble_eq_true rfl) ?_
  refine hy_iload (i := 0) rfl rfl ?_
  refine hy_iload (i := 1) rfl rfl ?_
  refine hy_ishr (i := 2) rfl ?_
  refine hy_const (i := 3) rfl (by decide) ?_
  refine hy_iand (i := 4) rfl ?_
  refine hy_const (i := 5) rfl (by decide) ?_
  refine hy_ic_ne (i := 6) (tt := 9) rfl (fun zc1 => ?_) (fun zc1 => ?_)
  · refine hy_const (i := 9) rfl (by decide) ?_
    refine hy_zreturn (i := 10) rfl rfl (by first | decide | exact hy_b01 _) ?_
    exact ⟨congrArg some (by simp [hz_b, hy_b, zc1]), rfl⟩
  · refine hy_const (i := 7) rfl (by decide) ?_
    refine hy_goto (i := 8) (tt := 10) rfl ?_
    refine hy_zreturn (i := 10) rfl rfl (by first | decide | exact hy_b01 _) ?_
    exact ⟨congrArg some (by simp [hz_b, hy_b, zc1]), rfl⟩
theorem c_M_isEmpire {a : Int} : hy_Ct sc hm_M_isEmpire 0 [.inl a] t (hy_e (some (hy_b (decide (0 ≤ a ∧ a < 6)))) t) := by
  refine hy_mk_ct ok_M_isEmpire ck_M_isEmpire (Nat.le_of_ble_eq_true rfl) ?_
  refine hy_iload (i := 0) rfl rfl ?_
  refine hy_if_lt (i := 1) (tt := 7) rfl (fun zc1 => ?_) (fun zc1 => ?_)
  · refine hy_const (i := 7) rfl (by decide) ?_
    refine hy_zreturn (i := 8) rfl rfl (by first | decide | exact hy_b01 _) ?_
    exact ⟨congrArg some (by simp [hy_b]; omega), rfl⟩
  · refine hy_iload (i := 2) rfl rfl ?_
    refine hy_const (i := 3) rfl (by decide) ?_
    refine hy_ic_ge (i := 4) (tt := 7) rfl (fun zc2 => ?_) (fun zc2 => ?_)
    · refine hy_const (i := 7) rfl (by decide) ?_
      refine hy_zreturn (i := 8) rfl rfl (by first | decide | exact hy_b01 _) ?_
      exact ⟨congrArg some (by simp [hy_b]; omega), rfl⟩
    · refine hy_const (i := 5) rfl (by decide) ?_
      refine hy_goto (i := 6) (tt := 8) rfl ?_
      refine hy_zreturn (i := 8) rfl rfl (by first | decide | exact hy_b01 _) ?_
      exact ⟨congrArg some (by simp [hy_b]; omega), rfl⟩
theorem c_M_isQuarter {a : Int} : hy_Ct sc hm_M_isQuarter 0 [.inl a] t (hy_e (some (hy_b (decide (0 ≤ a ∧ a < 4)))) t) := by
  refine hy_mk_ct ok_M_isQuarter ck_M_isQuarter (Nat.le_of_ble_eq_true rfl) ?_
  refine hy_iload (i := 0) rfl rfl ?_
  refine hy_if_lt (i := 1) (tt := 7) rfl (fun zc1 => ?_) (fun zc1 => ?_)
  · refine hy_const (i := 7) rfl (by decide) ?_
    refine hy_zreturn (i := 8) rfl rfl (by first | decide | exact hy_b01 _) ?_
    exact ⟨congrArg some (by simp [hy_b]; omega), rfl⟩
  · refine hy_iload (i := 2) rfl rfl ?_
    refine hy_const (i := 3) rfl (by decide) ?_
    refine hy_ic_ge (i := 4) (tt := 7) rfl (fun zc2 => ?_) (fun zc2 => ?_)
    · refine hy_const (i := 7) rfl (by decide) ?_
      refine hy_zreturn (i := 8) rfl rfl (by first | decide | exact hy_b01 _) ?_
      exact ⟨congrArg some (by simp [hy_b]; omega), rfl⟩
    · refine hy_const (i := 5) rfl (by decide) ?_
      refine hy_goto (i := 6) (tt := 8) rfl ?_
      refine hy_zreturn (i := 8) rfl rfl (by first | decide | exact hy_b01 _) ?_
      exact ⟨congrArg some (by simp [hy_b]; omega), rfl⟩
end LF
