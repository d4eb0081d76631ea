/-! a war's state: treaties made, broken, copied -/
def sp_qh (hv : Nat → Int) (c : Int) : Nat → Int
  | 0 => 0
  | n + 1 => sp_qh hv c n + sp_bc (sp_hav hv c n)
theorem sp_qh_le (hv : Nat → Int) (c : Int) : ∀ n : Nat, 0 ≤ sp_qh hv c n ∧ sp_qh hv c n ≤ 63 * n
  | 0 => by simp [sp_qh]
  | n + 1 => by
    have h1 := sp_qh_le hv c n
    have h2 := hz_bc_le (sp_hav hv c n)
    simp only [sp_qh]
    omega
/-- treaties behind the place n move up by one, from place n on to m -/
def sp_shift (b : Nat) (t : hy_T) : Nat → Nat → hy_T
  | _, 0 => t
  | a, n + 1 => sp_shift b (hy_up t (b + 3) a (t (b + 3) (a + 6))) (a + 1) n
def sp_first (b : Nat) (t : hy_T) (i : Int) : hy_T := if t b 6 = -2 then
    let t1 := hy_up t b 6 (t b 4)
    hy_up t1 b 7 (sp_part b t1 i 2) else t
def sp_broken (b : Nat) (t : hy_T) (i : Int) : hy_T :=
  let t1 := sp_first b t i
  let t2 := sp_moveN b t1 (sp_part b t1 i 0) (sp_part b t1 i 1) (sp_part b t1 i 3) (sp_part b t1 i 2) 4
  let t3 := sp_shift b t2 (6 * i).toNat (6 * (t b 3 - 1) - 6 * i).toNat
  hy_up t3 b 3 (t b 3 - 1)
theorem sp_shift_F (b : Nat) : ∀ (n a : Nat) (t : hy_T), hy_F (fun r _ => r == b + 3) t (sp_shift b t a n)
  | 0, _, _ => hy_F.rf
  | n + 1, a, t => by
    have ih := sp_shift_F b n (a + 1) (hy_up t (b + 3) a (t (b + 3) (a + 6)))
    simp only [sp_shift]
    exact (hy_F.up hy_F.rf (by simp)).tr' ih
def sp_scopy (t : hy_T) (a b : Nat) : hy_T :=
  let t1 := hy_cp (hy_cp (hy_cp t (a + 1) (b + 1) 48) (a + 2) (b + 2) 64) (a + 3) (b + 3) 96
  let t2 := hy_up t1 b 3 (t1 a 3)
  let t3 := hy_up t2 b 4 (t2 a 4)
  hy_up t3 b 5 (t3 a 5)
section SV33
variable {sc : List Int32} {t : hy_T}
theorem c_S_part_33 {i w : Int} (hc : 0 ≤ t 33 3 ∧ t 33 3 ≤ 16) : hy_Ct sc hm_S_part 1 [.inr (some 33), .inl i, .inl w] t (hy_e (some (sp_part 33 t i w)) t) := by
  refine hy_mk_ct ok_S_part ck_S_part (Nat.le_of_ble_eq_true rfl) ?_
  refine hy_iload (i := 0) rfl rfl ?_
  refine hy_aload (i := 1) rfl rfl ?_
  refine hy_get (i := 2) (fk := 3) rfl rfl rfl ?_
  refine hy_cS2e (i := 3) rfl (by decide) mj_W_isAmong (by decide) rfl (Nat.le_of_ble_eq_true rfl) (c_W_isAmong) ?_
  refine hy_ib_eq (i := 4) (tt := 18) rfl (fun zc1 => ?_) (fun zc1 => ?_)
  · refine hy_const (i := 18) rfl (by decide) ?_
    refine hy_ireturn (i := 19) rfl rfl ?_
    exact ⟨congrArg some (by unfold sp_part; first | (simp at zc1 zc2; split <;> first | rfl | omega) | (simp at zc1; split <;> first | rfl | omega)), rfl⟩
  · refine hy_iload (i := 5) rfl rfl ?_
    refine hy_const (i := 6) rfl (by decide) ?_
    refine hy_cS2e (i := 7) rfl (by decide) mj_W_isAmong (by decide) rfl (Nat.le_of_ble_eq_true rfl) (c_W_isAmong) ?_
    refine hy_ib_eq (i := 8) (tt := 18) rfl (fun zc2 => ?_) (fun zc2 => ?_)
    · refine hy_const (i := 18) rfl (by decide) ?_
      refine hy_ireturn (i := 19) rfl rfl ?_
      exact ⟨congrArg some (by unfold sp_part; first | (simp at zc1 zc2; split <;> first | rfl | omega) | (simp at zc1; split <;> first | rfl | omega)), rfl⟩
    · refine hy_aload (i := 9) rfl rfl ?_
      refine hy_getr (i := 10) rfl rfl ?_
      refine hy_const (i := 11) rfl (by decide) ?_
      refine hy_iload (i := 12) rfl rfl ?_
      refine hy_imul (i := 13) rfl (by simp at zc1 zc2; omega) ?_
      refine hy_iload (i := 14) rfl rfl ?_
      refine hy_iadd (i := 15) rfl (by simp at zc1 zc2; omega) ?_
      refine hy_iald (i := 16) rfl rfl (by simp at zc1 zc2; omega) rfl ?_
      refine hy_goto (i := 17) (tt := 19) rfl ?_
      refine hy_ireturn (i := 19) rfl rfl ?_
      exact ⟨congrArg some (by unfold sp_part; first | (simp at zc1 zc2; split <;> first | rfl | omega) | (simp at zc1; split <;> first | rfl | omega)), rfl⟩
theorem c_S_quartersHad_33 {c : Int} : hy_Ct sc hm_S_quartersHad 2 [.inr (some 33), .inl c] t (hy_e (some (sp_qh (t 34) c 4)) t) := by
  refine hy_mk_ct ok_S_quartersHad ck_S_quartersHad (Nat.le_of_ble_eq_true rfl) ?_
  have loop : ∀ (n : Nat), ∀ (k : Nat), n + k = 4 → hy_W sc hm_S_quartersHad 2 4 [.inr (some 33), .inl c, .inl (sp_qh (t 34) c k), .inl (k : Int)] [] t (hy_e (some (sp_qh (t 34) c 4)) t) := by
    intro n
    induction n with
    | zero =>
      intro k hk
      obtain rfl : k = 4 := by omega
      refine hy_iload (i := 4) rfl rfl ?_
      refine hy_const (i := 5) rfl (by decide) ?_
      refine hy_ic_ge (i := 6) (tt := 17) rfl (fun zc1 => ?_) (fun zc1 => ?_)
      · refine hy_iload (i := 17) rfl rfl ?_
        refine hy_ireturn (i := 18) rfl rfl ?_
        exact ⟨rfl, rfl⟩
      · omega
    | succ n ih =>
      intro k hk
      have h1 := sp_qh_le (t 34) c k
      have h2 := hz_bc_le (sp_hav (t 34) c k)
      refine hy_iload (i := 4) rfl rfl ?_
      refine hy_const (i := 5) rfl (by decide) ?_
      refine hy_ic_ge (i := 6) (tt := 17) rfl (fun zc1 => ?_) (fun zc1 => ?_)
      · omega
      · refine hy_iload (i := 7) rfl rfl ?_
        refine hy_aload (i := 8) rfl rfl ?_
        refine hy_iload (i := 9) rfl rfl ?_
        refine hy_iload (i := 10) rfl rfl ?_
        refine hy_cV2e (i := 11) rfl mj_S_havers (by decide) rfl (Nat.le_of_ble_eq_true rfl) rfl rfl rfl (c_S_havers_33) ?_
        refine hy_cS1e (i := 12) rfl (by decide) mj_J_bitCount (by decide) rfl (Nat.le_of_ble_eq_true rfl) (c_J_bitCount) ?_
        refine hy_iadd (i := 13) rfl (by omega) ?_
        refine hy_istore (i := 14) rfl ?_
        refine hy_iinc (i := 15) rfl rfl (by omega) ?_
        refine hy_goto (i := 16) (tt := 4) rfl ?_
        exact ih (k + 1) (by omega)
  refine hy_const (i := 0) rfl (by decide) ?_
  refine hy_istore (i := 1) rfl ?_
  refine hy_const (i := 2) rfl (by decide) ?_
  refine hy_istore (i := 3) rfl ?_
  exact loop 4 0 rfl
theorem c_S_isMade_33 {c w g o s : Int} (hc : 0 ≤ t 33 3 ∧ t 33 3 ≤ 16) (hs : s = 0 ∨ s = 1) : hy_Ct sc hm_S_isMade 3 [.inr (some 33), .inl c, .inl w, .inl g, .inl o, .inl s] t (hy_e (some (hy_b (decide (t 33 3 < 16) && sp_canGo (t 34) c w g o))) (if (decide (t 33 3 < 16) && sp_canGo (t 34) c w g o) = true then sp_made 33 t c w g o s else t)) := by
  rcases hs with rfl | rfl
  · refine hy_mk_ct ok_S_isMade ck_S_isMade (Nat.le_of_ble_eq_true rfl) ?_
    have hF := sp_moveN_F 33 t c w g o 4
    have hF3 : sp_moveN 33 t c w g o 4 33 3 = t 33 3 := hF 33 3 rfl
    have hF4 : sp_moveN 33 t c w g o 4 33 4 = t 33 4 := hF 33 4 rfl
    refine hy_aload (i := 0) rfl rfl ?_
    refine hy_get (i := 1) (fk := 3) rfl rfl rfl ?_
    refine hy_const (i := 2) rfl (by decide) ?_
    refine hy_ic_ge (i := 3) (tt := 11) rfl (fun zc1 => ?_) (fun zc1 => ?_)
    · refine hy_const (i := 11) rfl (by decide) ?_
      refine hy_zreturn (i := 12) rfl rfl (by first | decide | exact hy_b01 _) ?_
      exact ⟨congrArg some (by rw [show decide (t 33 3 < 16) = false from decide_eq_false (by omega)]; rfl), by rw [show decide (t 33 3 < 16) = false from decide_eq_false (by omega)]; rfl⟩
    · refine hy_aload (i := 4) rfl rfl ?_
      refine hy_iload (i := 5) rfl rfl ?_
      refine hy_iload (i := 6) rfl rfl ?_
      refine hy_iload (i := 7) rfl rfl ?_
      refine hy_iload (i := 8) rfl rfl ?_
      refine hy_cV4e (i := 9) rfl mj_S_canGo (by decide) rfl (Nat.le_of_ble_eq_true rfl) rfl rfl rfl (c_S_canGo_33) ?_
      refine hy_ib_ne (i := 10) (tt := 13) rfl (fun zc2 => ?_) (fun zc2 => ?_)
      · refine hy_aload (i := 13) rfl rfl ?_
        refine hy_iload (i := 14) rfl rfl ?_
        refine hy_iload (i := 15) rfl rfl ?_
        refine hy_iload (i := 16) rfl rfl ?_
        refine hy_if_eq (i := 17) (tt := 20) rfl (fun zc3 => ?_) (fun zc3 => ?_)
        · refine hy_iload (i := 20) rfl rfl ?_
          refine hy_iload (i := 21) rfl rfl ?_
          refine hy_cV4v (i := 22) rfl mj_S_move (by decide) rfl (Nat.le_of_ble_eq_true rfl) rfl rfl rfl (c_S_move_33) ?_
          refine hy_const (i := 23) rfl (by decide) ?_
          refine hy_aload (i := 24) rfl rfl ?_
          refine hy_get (i := 25) (fk := 3) rfl rfl rfl ?_
          rw [hF3]
          refine hy_imul (i := 26) rfl (by omega) ?_
          refine hy_istore (i := 27) rfl ?_
          refine hy_aload (i := 28) rfl rfl ?_
          refine hy_getr (i := 29) rfl rfl ?_
          refine hy_iload (i := 30) rfl rfl ?_
          refine hy_iload (i := 31) rfl rfl ?_
          refine hy_iast (i := 32) rfl rfl (by omega) (k := (6 * t 33 3).toNat) (by omega) ?_
          refine hy_aload (i := 33) rfl rfl ?_
          refine hy_getr (i := 34) rfl rfl ?_
          refine hy_iload (i := 35) rfl rfl ?_
          refine hy_const (i := 36) rfl (by decide) ?_
          refine hy_iadd (i := 37) rfl (by omega) ?_
          refine hy_iload (i := 38) rfl rfl ?_
          refine hy_iast (i := 39) rfl rfl (by omega) (k := (6 * t 33 3).toNat + 1) (by omega) ?_
          refine hy_aload (i := 40) rfl rfl ?_
          refine hy_getr (i := 41) rfl rfl ?_
          refine hy_iload (i := 42) rfl rfl ?_
          refine hy_const (i := 43) rfl (by decide) ?_
          refine hy_iadd (i := 44) rfl (by omega) ?_
          refine hy_iload (i := 45) rfl rfl ?_
          refine hy_iast (i := 46) rfl rfl (by omega) (k := (6 * t 33 3).toNat + 2) (by omega) ?_
          refine hy_aload (i := 47) rfl rfl ?_
          refine hy_getr (i := 48) rfl rfl ?_
          refine hy_iload (i := 49) rfl rfl ?_
          refine hy_const (i := 50) rfl (by decide) ?_
          refine hy_iadd (i := 51) rfl (by omega) ?_
          refine hy_iload (i := 52) rfl rfl ?_
          refine hy_iast (i := 53) rfl rfl (by omega) (k := (6 * t 33 3).toNat + 3) (by omega) ?_
          refine hy_aload (i := 54) rfl rfl ?_
          refine hy_getr (i := 55) rfl rfl ?_
          refine hy_iload (i := 56) rfl rfl ?_
          refine hy_const (i := 57) rfl (by decide) ?_
          refine hy_iadd (i := 58) rfl (by omega) ?_
          refine hy_iload (i := 59) rfl rfl ?_
          refine hy_if_eq (i := 60) (tt := 63) rfl (fun zc4 => ?_) (fun zc4 => ?_)
          · refine hy_const (i := 63) rfl (by decide) ?_
            refine hy_iast (i := 64) rfl rfl (by omega) (k := (6 * t 33 3).toNat + 4) (by omega) ?_
            refine hy_aload (i := 65) rfl rfl ?_
            refine hy_getr (i := 66) rfl rfl ?_
            refine hy_iload (i := 67) rfl rfl ?_
            refine hy_const (i := 68) rfl (by decide) ?_
            refine hy_iadd (i := 69) rfl (by omega) ?_
            refine hy_aload (i := 70) rfl rfl ?_
            refine hy_get (i := 71) (fk := 4) rfl rfl rfl ?_
            refine hy_iast (i := 72) rfl rfl (by omega) (k := (6 * t 33 3).toNat + 5) (by omega) ?_
            refine hy_aload (i := 73) rfl rfl ?_
            refine hy_dup (i := 74) rfl ?_
            refine hy_get (i := 75) (fk := 3) rfl rfl rfl ?_
            refine hy_const (i := 76) rfl (by decide) ?_
            refine hy_iadd (i := 77) rfl (by simp only [hy_up]; simp [hF3]; omega) ?_
            refine hy_put (i := 78) (fk := 3) rfl rfl rfl rfl ?_
            refine hy_const (i := 79) rfl (by decide) ?_
            refine hy_zreturn (i := 80) rfl rfl (by first | decide | exact hy_b01 _) ?_
            refine ⟨congrArg some (by rw [show decide (t 33 3 < 16) = true from decide_eq_true (by omega), zc2]; rfl), ?_⟩
            rw [show decide (t 33 3 < 16) = true from decide_eq_true (by omega), zc2]
            simp only [sp_made, sp_lay, if_true, Bool.and_self]
            simp [hy_up, hF3, hF4]
          · omega
        · omega
      · refine hy_const (i := 11) rfl (by decide) ?_
        refine hy_zreturn (i := 12) rfl rfl (by first | decide | exact hy_b01 _) ?_
        exact ⟨congrArg some (by rw [zc2, Bool.and_false]; rfl), by rw [zc2, Bool.and_false]; rfl⟩
  · refine hy_mk_ct ok_S_isMade ck_S_isMade (Nat.le_of_ble_eq_true rfl) ?_
    have hF := sp_moveN_F 33 t c w (-1) o 4
    have hF3 : sp_moveN 33 t c w (-1) o 4 33 3 = t 33 3 := hF 33 3 rfl
    have hF4 : sp_moveN 33 t c w (-1) o 4 33 4 = t 33 4 := hF 33 4 rfl
    refine hy_aload (i := 0) rfl rfl ?_
    refine hy_get (i := 1) (fk := 3) rfl rfl rfl ?_
    refine hy_const (i := 2) rfl (by decide) ?_
    refine hy_ic_ge (i := 3) (tt := 11) rfl (fun zc1 => ?_) (fun zc1 => ?_)
    · refine hy_const (i := 11) rfl (by decide) ?_
      refine hy_zreturn (i := 12) rfl rfl (by first | decide | exact hy_b01 _) ?_
      exact ⟨congrArg some (by rw [show decide (t 33 3 < 16) = false from decide_eq_false (by omega)]; rfl), by rw [show decide (t 33 3 < 16) = false from decide_eq_false (by omega)]; rfl⟩
    · refine hy_aload (i := 4) rfl rfl ?_
      refine hy_iload (i := 5) rfl rfl ?_
      refine hy_iload (i := 6) rfl rfl ?_
      refine hy_iload (i := 7) rfl rfl ?_
      refine hy_iload (i := 8) rfl rfl ?_
      refine hy_cV4e (i := 9) rfl mj_S_canGo (by decide) rfl (Nat.le_of_ble_eq_true rfl) rfl rfl rfl (c_S_canGo_33) ?_
      refine hy_ib_ne (i := 10) (tt := 13) rfl (fun zc2 => ?_) (fun zc2 => ?_)
      · refine hy_aload (i := 13) rfl rfl ?_
        refine hy_iload (i := 14) rfl rfl ?_
        refine hy_iload (i := 15) rfl rfl ?_
        refine hy_iload (i := 16) rfl rfl ?_
        refine hy_if_eq (i := 17) (tt := 20) rfl (fun zc3 => ?_) (fun zc3 => ?_)
        · omega
        · refine hy_const (i := 18) rfl (by decide) ?_
          refine hy_goto (i := 19) (tt := 21) rfl ?_
          refine hy_iload (i := 21) rfl rfl ?_
          refine hy_cV4v (i := 22) rfl mj_S_move (by decide) rfl (Nat.le_of_ble_eq_true rfl) rfl rfl rfl (c_S_move_33) ?_
          refine hy_const (i := 23) rfl (by decide) ?_
          refine hy_aload (i := 24) rfl rfl ?_
          refine hy_get (i := 25) (fk := 3) rfl rfl rfl ?_
          rw [hF3]
          refine hy_imul (i := 26) rfl (by omega) ?_
          refine hy_istore (i := 27) rfl ?_
          refine hy_aload (i := 28) rfl rfl ?_
          refine hy_getr (i := 29) rfl rfl ?_
          refine hy_iload (i := 30) rfl rfl ?_
          refine hy_iload (i := 31) rfl rfl ?_
          refine hy_iast (i := 32) rfl rfl (by omega) (k := (6 * t 33 3).toNat) (by omega) ?_
          refine hy_aload (i := 33) rfl rfl ?_
          refine hy_getr (i := 34) rfl rfl ?_
          refine hy_iload (i := 35) rfl rfl ?_
          refine hy_const (i := 36) rfl (by decide) ?_
          refine hy_iadd (i := 37) rfl (by omega) ?_
          refine hy_iload (i := 38) rfl rfl ?_
          refine hy_iast (i := 39) rfl rfl (by omega) (k := (6 * t 33 3).toNat + 1) (by omega) ?_
          refine hy_aload (i := 40) rfl rfl ?_
          refine hy_getr (i := 41) rfl rfl ?_
          refine hy_iload (i := 42) rfl rfl ?_
          refine hy_const (i := 43) rfl (by decide) ?_
          refine hy_iadd (i := 44) rfl (by omega) ?_
          refine hy_iload (i := 45) rfl rfl ?_
          refine hy_iast (i := 46) rfl rfl (by omega) (k := (6 * t 33 3).toNat + 2) (by omega) ?_
          refine hy_aload (i := 47) rfl rfl ?_
          refine hy_getr (i := 48) rfl rfl ?_
          refine hy_iload (i := 49) rfl rfl ?_
          refine hy_const (i := 50) rfl (by decide) ?_
          refine hy_iadd (i := 51) rfl (by omega) ?_
          refine hy_iload (i := 52) rfl rfl ?_
          refine hy_iast (i := 53) rfl rfl (by omega) (k := (6 * t 33 3).toNat + 3) (by omega) ?_
          refine hy_aload (i := 54) rfl rfl ?_
          refine hy_getr (i := 55) rfl rfl ?_
          refine hy_iload (i := 56) rfl rfl ?_
          refine hy_const (i := 57) rfl (by decide) ?_
          refine hy_iadd (i := 58) rfl (by omega) ?_
          refine hy_iload (i := 59) rfl rfl ?_
          refine hy_if_eq (i := 60) (tt := 63) rfl (fun zc4 => ?_) (fun zc4 => ?_)
          · omega
          · refine hy_const (i := 61) rfl (by decide) ?_
            refine hy_goto (i := 62) (tt := 64) rfl ?_
            refine hy_iast (i := 64) rfl rfl (by omega) (k := (6 * t 33 3).toNat + 4) (by omega) ?_
            refine hy_aload (i := 65) rfl rfl ?_
            refine hy_getr (i := 66) rfl rfl ?_
            refine hy_iload (i := 67) rfl rfl ?_
            refine hy_const (i := 68) rfl (by decide) ?_
            refine hy_iadd (i := 69) rfl (by omega) ?_
            refine hy_aload (i := 70) rfl rfl ?_
            refine hy_get (i := 71) (fk := 4) rfl rfl rfl ?_
            refine hy_iast (i := 72) rfl rfl (by omega) (k := (6 * t 33 3).toNat + 5) (by omega) ?_
            refine hy_aload (i := 73) rfl rfl ?_
            refine hy_dup (i := 74) rfl ?_
            refine hy_get (i := 75) (fk := 3) rfl rfl rfl ?_
            refine hy_const (i := 76) rfl (by decide) ?_
            refine hy_iadd (i := 77) rfl (by simp only [hy_up]; simp [hF3]; omega) ?_
            refine hy_put (i := 78) (fk := 3) rfl rfl rfl rfl ?_
            refine hy_const (i := 79) rfl (by decide) ?_
            refine hy_zreturn (i := 80) rfl rfl (by first | decide | exact hy_b01 _) ?_
            refine ⟨congrArg some (by rw [show decide (t 33 3 < 16) = true from decide_eq_true (by omega), zc2]; rfl), ?_⟩
            rw [show decide (t 33 3 < 16) = true from decide_eq_true (by omega), zc2]
            simp only [sp_made, sp_lay, if_true, Bool.and_self]
            simp [hy_up, hF3, hF4]
      · refine hy_const (i := 11) rfl (by decide) ?_
        refine hy_zreturn (i := 12) rfl rfl (by first | decide | exact hy_b01 _) ?_
        exact ⟨congrArg some (by rw [zc2, Bool.and_false]; rfl), by rw [zc2, Bool.and_false]; rfl⟩
theorem sp_first_F33 {i : Int} : hy_F (fun r j => r == 33 && (j == 6 || j == 7)) t (sp_first 33 t i) := by
  unfold sp_first
  split
  · exact (hy_F.rf.up (by rfl)).up (by rfl)
  · exact hy_F.rf
theorem c_S_breakTreaty_33 {i : Int} (hc : 0 ≤ t 33 3 ∧ t 33 3 ≤ 16) (hi : 0 ≤ i ∧ i < t 33 3) : hy_Ct sc hm_S_breakTreaty 3 [.inr (some 33), .inl i] t (hy_e none (sp_broken 33 t i)) := by
  refine hy_mk_ct ok_S_breakTreaty ck_S_breakTreaty (Nat.le_of_ble_eq_true rfl) ?_
  have hF := sp_first_F33 (t := t) (i := i)
  have hF3 : sp_first 33 t i 33 3 = t 33 3 := hF 33 3 rfl
  have hFc : 0 ≤ sp_first 33 t i 33 3 ∧ sp_first 33 t i 33 3 ≤ 16 := by rw [hF3]; exact hc
  have loop : ∀ (n : Nat), ∀ (a : Nat) (t1 : hy_T), n + a = (6 * (t 33 3 - 1)).toNat → t1 33 3 = t 33 3 → hy_W sc hm_S_breakTreaty 3 36 [.inr (some 33), .inl i, .inl (a : Int)] [] t1 (hy_e none (hy_up (sp_shift 33 t1 a n) 33 3 (t 33 3 - 1))) := by
    intro n
    induction n with
    | zero =>
      intro a t1 hn h3
      refine hy_iload (i := 36) rfl rfl ?_
      refine hy_const (i := 37) rfl (by decide) ?_
      refine hy_aload (i := 38) rfl rfl ?_
      refine hy_get (i := 39) (fk := 3) rfl rfl rfl ?_
      rw [h3]
      refine hy_const (i := 40) rfl (by decide) ?_
      refine hy_isub (i := 41) rfl (by omega) ?_
      refine hy_imul (i := 42) rfl (by omega) ?_
      refine hy_ic_ge (i := 43) (tt := 56) rfl (fun zc1 => ?_) (fun zc1 => ?_)
      · refine hy_aload (i := 56) rfl rfl ?_
        refine hy_dup (i := 57) rfl ?_
        refine hy_get (i := 58) (fk := 3) rfl rfl rfl ?_
        rw [h3]
        refine hy_const (i := 59) rfl (by decide) ?_
        refine hy_isub (i := 60) rfl (by omega) ?_
        refine hy_put (i := 61) (fk := 3) rfl rfl rfl rfl ?_
        refine hy_return (i := 62) rfl rfl ?_
        exact ⟨rfl, rfl⟩
      · omega
    | succ n ih =>
      intro a t1 hn h3
      refine hy_iload (i := 36) rfl rfl ?_
      refine hy_const (i := 37) rfl (by decide) ?_
      refine hy_aload (i := 38) rfl rfl ?_
      refine hy_get (i := 39) (fk := 3) rfl rfl rfl ?_
      rw [h3]
      refine hy_const (i := 40) rfl (by decide) ?_
      refine hy_isub (i := 41) rfl (by omega) ?_
      refine hy_imul (i := 42) rfl (by omega) ?_
      refine hy_ic_ge (i := 43) (tt := 56) rfl (fun zc1 => ?_) (fun zc1 => ?_)
      · omega
      · refine hy_aload (i := 44) rfl rfl ?_
        refine hy_getr (i := 45) rfl rfl ?_
        refine hy_iload (i := 46) rfl rfl ?_
        refine hy_aload (i := 47) rfl rfl ?_
        refine hy_getr (i := 48) rfl rfl ?_
        refine hy_iload (i := 49) rfl rfl ?_
        refine hy_const (i := 50) rfl (by decide) ?_
        refine hy_iadd (i := 51) rfl (by omega) ?_
        refine hy_iald (i := 52) rfl rfl (by omega) (k := a + 6) (by omega) ?_
        refine hy_iast (i := 53) rfl rfl (by omega) (k := a) (by omega) ?_
        refine hy_iinc (i := 54) rfl rfl (by omega) ?_
        refine hy_goto (i := 55) (tt := 36) rfl ?_
        exact ih (a + 1) _ (by omega) h3
  have go : ∀ t1 : hy_T, t1 = sp_first 33 t i → t1 33 3 = t 33 3 → (0 ≤ t1 33 3 ∧ t1 33 3 ≤ 16) → hy_W sc hm_S_breakTreaty 3 14 [.inr (some 33), .inl i, .inr none] [] t1 (hy_e none (sp_broken 33 t i)) := by
    intro t1 ht h3 hc1
    have hM : sp_moveN 33 t1 (sp_part 33 t1 i 0) (sp_part 33 t1 i 1) (sp_part 33 t1 i 3) (sp_part 33 t1 i 2) 4 33 3 = t 33 3 := (sp_moveN_F 33 t1 _ _ _ _ 4 33 3 rfl).trans h3
    refine hy_aload (i := 14) rfl rfl ?_
    refine hy_aload (i := 15) rfl rfl ?_
    refine hy_iload (i := 16) rfl rfl ?_
    refine hy_const (i := 17) rfl (by decide) ?_
    refine hy_cV2e (i := 18) rfl mj_S_part (by decide) rfl (Nat.le_of_ble_eq_true rfl) rfl rfl rfl (c_S_part_33 (by assumption)) ?_
    refine hy_aload (i := 19) rfl rfl ?_
    refine hy_iload (i := 20) rfl rfl ?_
    refine hy_const (i := 21) rfl (by decide) ?_
    refine hy_cV2e (i := 22) rfl mj_S_part (by decide) rfl (Nat.le_of_ble_eq_true rfl) rfl rfl rfl (c_S_part_33 (by assumption)) ?_
    refine hy_aload (i := 23) rfl rfl ?_
    refine hy_iload (i := 24) rfl rfl ?_
    refine hy_const (i := 25) rfl (by decide) ?_
    refine hy_cV2e (i := 26) rfl mj_S_part (by decide) rfl (Nat.le_of_ble_eq_true rfl) rfl rfl rfl (c_S_part_33 (by assumption)) ?_
    refine hy_aload (i := 27) rfl rfl ?_
    refine hy_iload (i := 28) rfl rfl ?_
    refine hy_const (i := 29) rfl (by decide) ?_
    refine hy_cV2e (i := 30) rfl mj_S_part (by decide) rfl (Nat.le_of_ble_eq_true rfl) rfl rfl rfl (c_S_part_33 (by assumption)) ?_
    refine hy_cV4v (i := 31) rfl mj_S_move (by decide) rfl (Nat.le_of_ble_eq_true rfl) rfl rfl rfl (c_S_move_33) ?_
    refine hy_const (i := 32) rfl (by decide) ?_
    refine hy_iload (i := 33) rfl rfl ?_
    refine hy_imul (i := 34) rfl (by omega) ?_
    refine hy_istore (i := 35) rfl ?_
    have h := loop (6 * (t 33 3 - 1) - 6 * i).toNat (6 * i).toNat _ (by omega) hM
    rw [show (((6 * i).toNat : Nat) : Int) = 6 * i by omega] at h
    refine hy_W.mono h (fun r t' hq => ?_)
    obtain ⟨h1, h2⟩ := hq
    exact ⟨h1, by rw [h2]; simp only [sp_broken, ← ht]⟩
  refine hy_aload (i := 0) rfl rfl ?_
  refine hy_get (i := 1) (fk := 6) rfl rfl rfl ?_
  refine hy_const (i := 2) rfl (by decide) ?_
  refine hy_ic_ne (i := 3) (tt := 14) rfl (fun zc1 => ?_) (fun zc1 => ?_)
  · first | exact go _ (by unfold sp_first; rw [if_pos zc1]) rfl hc | exact go _ (by unfold sp_first; rw [if_pos zc1]; rfl) rfl hc | exact go _ (by unfold sp_first; rw [if_neg zc1]) rfl hc
  · refine hy_aload (i := 4) rfl rfl ?_
    refine hy_aload (i := 5) rfl rfl ?_
    refine hy_get (i := 6) (fk := 4) rfl rfl rfl ?_
    refine hy_put (i := 7) (fk := 6) rfl rfl rfl rfl ?_
    refine hy_aload (i := 8) rfl rfl ?_
    refine hy_aload (i := 9) rfl rfl ?_
    refine hy_iload (i := 10) rfl rfl ?_
    refine hy_const (i := 11) rfl (by decide) ?_
    refine hy_cV2e (i := 12) rfl mj_S_part (by decide) rfl (Nat.le_of_ble_eq_true rfl) rfl rfl rfl (c_S_part_33 (by assumption)) ?_
    refine hy_put (i := 13) (fk := 7) rfl rfl rfl rfl ?_
    first | exact go _ (by unfold sp_first; rw [if_pos zc1]) rfl hc | exact go _ (by unfold sp_first; rw [if_pos zc1]; rfl) rfl hc | exact go _ (by unfold sp_first; rw [if_neg zc1]) rfl hc
end SV33
section SV41
variable {sc : List Int32} {t : hy_T}
theorem c_S_part_41 {i w : Int} (hc : 0 ≤ t 41 3 ∧ t 41 3 ≤ 16) : hy_Ct sc hm_S_part 1 [.inr (some 41), .inl i, .inl w] t (hy_e (some (sp_part 41 t i w)) t) := by
  refine hy_mk_ct ok_S_part ck_S_part (Nat.le_of_ble_eq_true rfl) ?_
  refine hy_iload (i := 0) rfl rfl ?_
  refine hy_aload (i := 1) rfl rfl ?_
  refine hy_get (i := 2) (fk := 3) rfl rfl rfl ?_
  refine hy_cS2e (i := 3) rfl (by decide) mj_W_isAmong (by decide) rfl (Nat.le_of_ble_eq_true rfl) (c_W_isAmong) ?_
  refine hy_ib_eq (i := 4) (tt := 18) rfl (fun zc1 => ?_) (fun zc1 => ?_)
  · refine hy_const (i := 18) rfl (by decide) ?_
    refine hy_ireturn (i := 19) rfl rfl ?_
    exact ⟨congrArg some (by unfold sp_part; first | (simp at zc1 zc2; split <;> first | rfl | omega) | (simp at zc1; split <;> first | rfl | omega)), rfl⟩
  · refine hy_iload (i := 5) rfl rfl ?_
    refine hy_const (i := 6) rfl (by decide) ?_
    refine hy_cS2e (i := 7) rfl (by decide) mj_W_isAmong (by decide) rfl (Nat.le_of_ble_eq_true rfl) (c_W_isAmong) ?_
    refine hy_ib_eq (i := 8) (tt := 18) rfl (fun zc2 => ?_) (fun zc2 => ?_)
    · refine hy_const (i := 18) rfl (by decide) ?_
      refine hy_ireturn (i := 19) rfl rfl ?_
      exact ⟨congrArg some (by unfold sp_part; first | (simp at zc1 zc2; split <;> first | rfl | omega) | (simp at zc1; split <;> first | rfl | omega)), rfl⟩
    · refine hy_aload (i := 9) rfl rfl ?_
      refine hy_getr (i := 10) rfl rfl ?_
      refine hy_const (i := 11) rfl (by decide) ?_
      refine hy_iload (i := 12) rfl rfl ?_
      refine hy_imul (i := 13) rfl (by simp at zc1 zc2; omega) ?_
      refine hy_iload (i := 14) rfl rfl ?_
      refine hy_iadd (i := 15) rfl (by simp at zc1 zc2; omega) ?_
      refine hy_iald (i := 16) rfl rfl (by simp at zc1 zc2; omega) rfl ?_
      refine hy_goto (i := 17) (tt := 19) rfl ?_
      refine hy_ireturn (i := 19) rfl rfl ?_
      exact ⟨congrArg some (by unfold sp_part; first | (simp at zc1 zc2; split <;> first | rfl | omega) | (simp at zc1; split <;> first | rfl | omega)), rfl⟩
theorem c_S_quartersHad_41 {c : Int} : hy_Ct sc hm_S_quartersHad 2 [.inr (some 41), .inl c] t (hy_e (some (sp_qh (t 42) c 4)) t) := by
  refine hy_mk_ct ok_S_quartersHad ck_S_quartersHad (Nat.le_of_ble_eq_true rfl) ?_
  have loop : ∀ (n : Nat), ∀ (k : Nat), n + k = 4 → hy_W sc hm_S_quartersHad 2 4 [.inr (some 41), .inl c, .inl (sp_qh (t 42) c k), .inl (k : Int)] [] t (hy_e (some (sp_qh (t 42) c 4)) t) := by
    intro n
    induction n with
    | zero =>
      intro k hk
      obtain rfl : k = 4 := by omega
      refine hy_iload (i := 4) rfl rfl ?_
      refine hy_const (i := 5) rfl (by decide) ?_
      refine hy_ic_ge (i := 6) (tt := 17) rfl (fun zc1 => ?_) (fun zc1 => ?_)
      · refine hy_iload (i := 17) rfl rfl ?_
        refine hy_ireturn (i := 18) rfl rfl ?_
        exact ⟨rfl, rfl⟩
      · omega
    | succ n ih =>
      intro k hk
      have h1 := sp_qh_le (t 42) c k
      have h2 := hz_bc_le (sp_hav (t 42) c k)
      refine hy_iload (i := 4) rfl rfl ?_
      refine hy_const (i := 5) rfl (by decide) ?_
      refine hy_ic_ge (i := 6) (tt := 17) rfl (fun zc1 => ?_) (fun zc1 => ?_)
      · omega
      · refine hy_iload (i := 7) rfl rfl ?_
        refine hy_aload (i := 8) rfl rfl ?_
        refine hy_iload (i := 9) rfl rfl ?_
        refine hy_iload (i := 10) rfl rfl ?_
        refine hy_cV2e (i := 11) rfl mj_S_havers (by decide) rfl (Nat.le_of_ble_eq_true rfl) rfl rfl rfl (c_S_havers_41) ?_
        refine hy_cS1e (i := 12) rfl (by decide) mj_J_bitCount (by decide) rfl (Nat.le_of_ble_eq_true rfl) (c_J_bitCount) ?_
        refine hy_iadd (i := 13) rfl (by omega) ?_
        refine hy_istore (i := 14) rfl ?_
        refine hy_iinc (i := 15) rfl rfl (by omega) ?_
        refine hy_goto (i := 16) (tt := 4) rfl ?_
        exact ih (k + 1) (by omega)
  refine hy_const (i := 0) rfl (by decide) ?_
  refine hy_istore (i := 1) rfl ?_
  refine hy_const (i := 2) rfl (by decide) ?_
  refine hy_istore (i := 3) rfl ?_
  exact loop 4 0 rfl
theorem c_S_isMade_41 {c w g o s : Int} (hc : 0 ≤ t 41 3 ∧ t 41 3 ≤ 16) (hs : s = 0 ∨ s = 1) : hy_Ct sc hm_S_isMade 3 [.inr (some 41), .inl c, .inl w, .inl g, .inl o, .inl s] t (hy_e (some (hy_b (decide (t 41 3 < 16) && sp_canGo (t 42) c w g o))) (if (decide (t 41 3 < 16) && sp_canGo (t 42) c w g o) = true then sp_made 41 t c w g o s else t)) := by
  rcases hs with rfl | rfl
  · refine hy_mk_ct ok_S_isMade ck_S_isMade (Nat.le_of_ble_eq_true rfl) ?_
    have hF := sp_moveN_F 41 t c w g o 4
    have hF3 : sp_moveN 41 t c w g o 4 41 3 = t 41 3 := hF 41 3 rfl
    have hF4 : sp_moveN 41 t c w g o 4 41 4 = t 41 4 := hF 41 4 rfl
    refine hy_aload (i := 0) rfl rfl ?_
    refine hy_get (i := 1) (fk := 3) rfl rfl rfl ?_
    refine hy_const (i := 2) rfl (by decide) ?_
    refine hy_ic_ge (i := 3) (tt := 11) rfl (fun zc1 => ?_) (fun zc1 => ?_)
    · refine hy_const (i := 11) rfl (by decide) ?_
      refine hy_zreturn (i := 12) rfl rfl (by first | decide | exact hy_b01 _) ?_
      exact ⟨congrArg some (by rw [show decide (t 41 3 < 16) = false from decide_eq_false (by omega)]; rfl), by rw [show decide (t 41 3 < 16) = false from decide_eq_false (by omega)]; rfl⟩
    · refine hy_aload (i := 4) rfl rfl ?_
      refine hy_iload (i := 5) rfl rfl ?_
      refine hy_iload (i := 6) rfl rfl ?_
      refine hy_iload (i := 7) rfl rfl ?_
      refine hy_iload (i := 8) rfl rfl ?_
      refine hy_cV4e (i := 9) rfl mj_S_canGo (by decide) rfl (Nat.le_of_ble_eq_true rfl) rfl rfl rfl (c_S_canGo_41) ?_
      refine hy_ib_ne (i := 10) (tt := 13) rfl (fun zc2 => ?_) (fun zc2 => ?_)
      · refine hy_aload (i := 13) rfl rfl ?_
        refine hy_iload (i := 14) rfl rfl ?_
        refine hy_iload (i := 15) rfl rfl ?_
        refine hy_iload (i := 16) rfl rfl ?_
        refine hy_if_eq (i := 17) (tt := 20) rfl (fun zc3 => ?_) (fun zc3 => ?_)
        · refine hy_iload (i := 20) rfl rfl ?_
          refine hy_iload (i := 21) rfl rfl ?_
          refine hy_cV4v (i := 22) rfl mj_S_move (by decide) rfl (Nat.le_of_ble_eq_true rfl) rfl rfl rfl (c_S_move_41) ?_
          refine hy_const (i := 23) rfl (by decide) ?_
          refine hy_aload (i := 24) rfl rfl ?_
          refine hy_get (i := 25) (fk := 3) rfl rfl rfl ?_
          rw [hF3]
          refine hy_imul (i := 26) rfl (by omega) ?_
          refine hy_istore (i := 27) rfl ?_
          refine hy_aload (i := 28) rfl rfl ?_
          refine hy_getr (i := 29) rfl rfl ?_
          refine hy_iload (i := 30) rfl rfl ?_
          refine hy_iload (i := 31) rfl rfl ?_
          refine hy_iast (i := 32) rfl rfl (by omega) (k := (6 * t 41 3).toNat) (by omega) ?_
          refine hy_aload (i := 33) rfl rfl ?_
          refine hy_getr (i := 34) rfl rfl ?_
          refine hy_iload (i := 35) rfl rfl ?_
          refine hy_const (i := 36) rfl (by decide) ?_
          refine hy_iadd (i := 37) rfl (by omega) ?_
          refine hy_iload (i := 38) rfl rfl ?_
          refine hy_iast (i := 39) rfl rfl (by omega) (k := (6 * t 41 3).toNat + 1) (by omega) ?_
          refine hy_aload (i := 40) rfl rfl ?_
          refine hy_getr (i := 41) rfl rfl ?_
          refine hy_iload (i := 42) rfl rfl ?_
          refine hy_const (i := 43) rfl (by decide) ?_
          refine hy_iadd (i := 44) rfl (by omega) ?_
          refine hy_iload (i := 45) rfl rfl ?_
          refine hy_iast (i := 46) rfl rfl (by omega) (k := (6 * t 41 3).toNat + 2) (by omega) ?_
          refine hy_aload (i := 47) rfl rfl ?_
          refine hy_getr (i := 48) rfl rfl ?_
          refine hy_iload (i := 49) rfl rfl ?_
          refine hy_const (i := 50) rfl (by decide) ?_
          refine hy_iadd (i := 51) rfl (by omega) ?_
          refine hy_iload (i := 52) rfl rfl ?_
          refine hy_iast (i := 53) rfl rfl (by omega) (k := (6 * t 41 3).toNat + 3) (by omega) ?_
          refine hy_aload (i := 54) rfl rfl ?_
          refine hy_getr (i := 55) rfl rfl ?_
          refine hy_iload (i := 56) rfl rfl ?_
          refine hy_const (i := 57) rfl (by decide) ?_
          refine hy_iadd (i := 58) rfl (by omega) ?_
          refine hy_iload (i := 59) rfl rfl ?_
          refine hy_if_eq (i := 60) (tt := 63) rfl (fun zc4 => ?_) (fun zc4 => ?_)
          · refine hy_const (i := 63) rfl (by decide) ?_
            refine hy_iast (i := 64) rfl rfl (by omega) (k := (6 * t 41 3).toNat + 4) (by omega) ?_
            refine hy_aload (i := 65) rfl rfl ?_
            refine hy_getr (i := 66) rfl rfl ?_
            refine hy_iload (i := 67) rfl rfl ?_
            refine hy_const (i := 68) rfl (by decide) ?_
            refine hy_iadd (i := 69) rfl (by omega) ?_
            refine hy_aload (i := 70) rfl rfl ?_
            refine hy_get (i := 71) (fk := 4) rfl rfl rfl ?_
            refine hy_iast (i := 72) rfl rfl (by omega) (k := (6 * t 41 3).toNat + 5) (by omega) ?_
            refine hy_aload (i := 73) rfl rfl ?_
            refine hy_dup (i := 74) rfl ?_
            refine hy_get (i := 75) (fk := 3) rfl rfl rfl ?_
            refine hy_const (i := 76) rfl (by decide) ?_
            refine hy_iadd (i := 77) rfl (by simp only [hy_up]; simp [hF3]; omega) ?_
            refine hy_put (i := 78) (fk := 3) rfl rfl rfl rfl ?_
            refine hy_const (i := 79) rfl (by decide) ?_
            refine hy_zreturn (i := 80) rfl rfl (by first | decide | exact hy_b01 _) ?_
            refine ⟨congrArg some (by rw [show decide (t 41 3 < 16) = true from decide_eq_true (by omega), zc2]; rfl), ?_⟩
            rw [show decide (t 41 3 < 16) = true from decide_eq_true (by omega), zc2]
            simp only [sp_made, sp_lay, if_true, Bool.and_self]
            simp [hy_up, hF3, hF4]
          · omega
        · omega
      · refine hy_const (i := 11) rfl (by decide) ?_
        refine hy_zreturn (i := 12) rfl rfl (by first | decide | exact hy_b01 _) ?_
        exact ⟨congrArg some (by rw [zc2, Bool.and_false]; rfl), by rw [zc2, Bool.and_false]; rfl⟩
  · refine hy_mk_ct ok_S_isMade ck_S_isMade (Nat.le_of_ble_eq_true rfl) ?_
    have hF := sp_moveN_F 41 t c w (-1) o 4
    have hF3 : sp_moveN 41 t c w (-1) o 4 41 3 = t 41 3 := hF 41 3 rfl
    have hF4 : sp_moveN 41 t c w (-1) o 4 41 4 = t 41 4 := hF 41 4 rfl
    refine hy_aload (i := 0) rfl rfl ?_
    refine hy_get (i := 1) (fk := 3) rfl rfl rfl ?_
    refine hy_const (i := 2) rfl (by decide) ?_
    refine hy_ic_ge (i := 3) (tt := 11) rfl (fun zc1 => ?_) (fun zc1 => ?_)
    · refine hy_const (i := 11) rfl (by decide) ?_
      refine hy_zreturn (i := 12) rfl rfl (by first | decide | exact hy_b01 _) ?_
      exact ⟨congrArg some (by rw [show decide (t 41 3 < 16) = false from decide_eq_false (by omega)]; rfl), by rw [show decide (t 41 3 < 16) = false from decide_eq_false (by omega)]; rfl⟩
    · refine hy_aload (i := 4) rfl rfl ?_
      refine hy_iload (i := 5) rfl rfl ?_
      refine hy_iload (i := 6) rfl rfl ?_
      refine hy_iload (i := 7) rfl rfl ?_
      refine hy_iload (i := 8) rfl rfl ?_
      refine hy_cV4e (i := 9) rfl mj_S_canGo (by decide) rfl (Nat.le_of_ble_eq_true rfl) rfl rfl rfl (c_S_canGo_41) ?_
      refine hy_ib_ne (i := 10) (tt := 13) rfl (fun zc2 => ?_) (fun zc2 => ?_)
      · refine hy_aload (i := 13) rfl rfl ?_
        refine hy_iload (i := 14) rfl rfl ?_
        refine hy_iload (i := 15) rfl rfl ?_
        refine hy_iload (i := 16) rfl rfl ?_
        refine hy_if_eq (i := 17) (tt := 20) rfl (fun zc3 => ?_) (fun zc3 => ?_)
        · omega
        · refine hy_const (i := 18) rfl (by decide) ?_
          refine hy_goto (i := 19) (tt := 21) rfl ?_
          refine hy_iload (i := 21) rfl rfl ?_
          refine hy_cV4v (i := 22) rfl mj_S_move (by decide) rfl (Nat.le_of_ble_eq_true rfl) rfl rfl rfl (c_S_move_41) ?_
          refine hy_const (i := 23) rfl (by decide) ?_
          refine hy_aload (i := 24) rfl rfl ?_
          refine hy_get (i := 25) (fk := 3) rfl rfl rfl ?_
          rw [hF3]
          refine hy_imul (i := 26) rfl (by omega) ?_
          refine hy_istore (i := 27) rfl ?_
          refine hy_aload (i := 28) rfl rfl ?_
          refine hy_getr (i := 29) rfl rfl ?_
          refine hy_iload (i := 30) rfl rfl ?_
          refine hy_iload (i := 31) rfl rfl ?_
          refine hy_iast (i := 32) rfl rfl (by omega) (k := (6 * t 41 3).toNat) (by omega) ?_
          refine hy_aload (i := 33) rfl rfl ?_
          refine hy_getr (i := 34) rfl rfl ?_
          refine hy_iload (i := 35) rfl rfl ?_
          refine hy_const (i := 36) rfl (by decide) ?_
          refine hy_iadd (i := 37) rfl (by omega) ?_
          refine hy_iload (i := 38) rfl rfl ?_
          refine hy_iast (i := 39) rfl rfl (by omega) (k := (6 * t 41 3).toNat + 1) (by omega) ?_
          refine hy_aload (i := 40) rfl rfl ?_
          refine hy_getr (i := 41) rfl rfl ?_
          refine hy_iload (i := 42) rfl rfl ?_
          refine hy_const (i := 43) rfl (by decide) ?_
          refine hy_iadd (i := 44) rfl (by omega) ?_
          refine hy_iload (i := 45) rfl rfl ?_
          refine hy_iast (i := 46) rfl rfl (by omega) (k := (6 * t 41 3).toNat + 2) (by omega) ?_
          refine hy_aload (i := 47) rfl rfl ?_
          refine hy_getr (i := 48) rfl rfl ?_
          refine hy_iload (i := 49) rfl rfl ?_
          refine hy_const (i := 50) rfl (by decide) ?_
          refine hy_iadd (i := 51) rfl (by omega) ?_
          refine hy_iload (i := 52) rfl rfl ?_
          refine hy_iast (i := 53) rfl rfl (by omega) (k := (6 * t 41 3).toNat + 3) (by omega) ?_
          refine hy_aload (i := 54) rfl rfl ?_
          refine hy_getr (i := 55) rfl rfl ?_
          refine hy_iload (i := 56) rfl rfl ?_
          refine hy_const (i := 57) rfl (by decide) ?_
          refine hy_iadd (i := 58) rfl (by omega) ?_
          refine hy_iload (i := 59) rfl rfl ?_
          refine hy_if_eq (i := 60) (tt := 63) rfl (fun zc4 => ?_) (fun zc4 => ?_)
          · omega
          · refine hy_const (i := 61) rfl (by decide) ?_
            refine hy_goto (i := 62) (tt := 64) rfl ?_
            refine hy_iast (i := 64) rfl rfl (by omega) (k := (6 * t 41 3).toNat + 4) (by omega) ?_
            refine hy_aload (i := 65) rfl rfl ?_
            refine hy_getr (i := 66) rfl rfl ?_
            refine hy_iload (i := 67) rfl rfl ?_
            refine hy_const (i := 68) rfl (by decide) ?_
            refine hy_iadd (i := 69) rfl (by omega) ?_
            refine hy_aload (i := 70) rfl rfl ?_
            refine hy_get (i := 71) (fk := 4) rfl rfl rfl ?_
            refine hy_iast (i := 72) rfl rfl (by omega) (k := (6 * t 41 3).toNat + 5) (by omega) ?_
            refine hy_aload (i := 73) rfl rfl ?_
            refine hy_dup (i := 74) rfl ?_
            refine hy_get (i := 75) (fk := 3) rfl rfl rfl ?_
            refine hy_const (i := 76) rfl (by decide) ?_
            refine hy_iadd (i := 77) rfl (by simp only [hy_up]; simp [hF3]; omega) ?_
            refine hy_put (i := 78) (fk := 3) rfl rfl rfl rfl ?_
            refine hy_const (i := 79) rfl (by decide) ?_
            refine hy_zreturn (i := 80) rfl rfl (by first | decide | exact hy_b01 _) ?_
            refine ⟨congrArg some (by rw [show decide (t 41 3 < 16) = true from decide_eq_true (by omega), zc2]; rfl), ?_⟩
            rw [show decide (t 41 3 < 16) = true from decide_eq_true (by omega), zc2]
            simp only [sp_made, sp_lay, if_true, Bool.and_self]
            simp [hy_up, hF3, hF4]
      · refine hy_const (i := 11) rfl (by decide) ?_
        refine hy_zreturn (i := 12) rfl rfl (by first | decide | exact hy_b01 _) ?_
        exact ⟨congrArg some (by rw [zc2, Bool.and_false]; rfl), by rw [zc2, Bool.and_false]; rfl⟩
theorem sp_first_F41 {i : Int} : hy_F (fun r j => r == 41 && (j == 6 || j == 7)) t (sp_first 41 t i) := by
  unfold sp_first
  split
  · exact (hy_F.rf.up (by rfl)).up (by rfl)
  · exact hy_F.rf
theorem c_S_breakTreaty_41 {i : Int} (hc : 0 ≤ t 41 3 ∧ t 41 3 ≤ 16) (hi : 0 ≤ i ∧ i < t 41 3) : hy_Ct sc hm_S_breakTreaty 3 [.inr (some 41), .inl i] t (hy_e none (sp_broken 41 t i)) := by
  refine hy_mk_ct ok_S_breakTreaty ck_S_breakTreaty (Nat.le_of_ble_eq_true rfl) ?_
  have hF := sp_first_F41 (t := t) (i := i)
  have hF3 : sp_first 41 t i 41 3 = t 41 3 := hF 41 3 rfl
  have hFc : 0 ≤ sp_first 41 t i 41 3 ∧ sp_first 41 t i 41 3 ≤ 16 := by rw [hF3]; exact hc
  have loop : ∀ (n : Nat), ∀ (a : Nat) (t1 : hy_T), n + a = (6 * (t 41 3 - 1)).toNat → t1 41 3 = t 41 3 → hy_W sc hm_S_breakTreaty 3 36 [.inr (some 41), .inl i, .inl (a : Int)] [] t1 (hy_e none (hy_up (sp_shift 41 t1 a n) 41 3 (t 41 3 - 1))) := by
    intro n
    induction n with
    | zero =>
      intro a t1 hn h3
      refine hy_iload (i := 36) rfl rfl ?_
      refine hy_const (i := 37) rfl (by decide) ?_
      refine hy_aload (i := 38) rfl rfl ?_
      refine hy_get (i := 39) (fk := 3) rfl rfl rfl ?_
      rw [h3]
      refine hy_const (i := 40) rfl (by decide) ?_
      refine hy_isub (i := 41) rfl (by omega) ?_
      refine hy_imul (i := 42) rfl (by omega) ?_
      refine hy_ic_ge (i := 43) (tt := 56) rfl (fun zc1 => ?_) (fun zc1 => ?_)
      · refine hy_aload (i := 56) rfl rfl ?_
        refine hy_dup (i := 57) rfl ?_
        refine hy_get (i := 58) (fk := 3) rfl rfl rfl ?_
        rw [h3]
        refine hy_const (i := 59) rfl (by decide) ?_
        refine hy_isub (i := 60) rfl (by omega) ?_
        refine hy_put (i := 61) (fk := 3) rfl rfl rfl rfl ?_
        refine hy_return (i := 62) rfl rfl ?_
        exact ⟨rfl, rfl⟩
      · omega
    | succ n ih =>
      intro a t1 hn h3
      refine hy_iload (i := 36) rfl rfl ?_
      refine hy_const (i := 37) rfl (by decide) ?_
      refine hy_aload (i := 38) rfl rfl ?_
      refine hy_get (i := 39) (fk := 3) rfl rfl rfl ?_
      rw [h3]
      refine hy_const (i := 40) rfl (by decide) ?_
      refine hy_isub (i := 41) rfl (by omega) ?_
      refine hy_imul (i := 42) rfl (by omega) ?_
      refine hy_ic_ge (i := 43) (tt := 56) rfl (fun zc1 => ?_) (fun zc1 => ?_)
      · omega
      · refine hy_aload (i := 44) rfl rfl ?_
        refine hy_getr (i := 45) rfl rfl ?_
        refine hy_iload (i := 46) rfl rfl ?_
        refine hy_aload (i := 47) rfl rfl ?_
        refine hy_getr (i := 48) rfl rfl ?_
        refine hy_iload (i := 49) rfl rfl ?_
        refine hy_const (i := 50) rfl (by decide) ?_
        refine hy_iadd (i := 51) rfl (by omega) ?_
        refine hy_iald (i := 52) rfl rfl (by omega) (k := a + 6) (by omega) ?_
        refine hy_iast (i := 53) rfl rfl (by omega) (k := a) (by omega) ?_
        refine hy_iinc (i := 54) rfl rfl (by omega) ?_
        refine hy_goto (i := 55) (tt := 36) rfl ?_
        exact ih (a + 1) _ (by omega) h3
  have go : ∀ t1 : hy_T, t1 = sp_first 41 t i → t1 41 3 = t 41 3 → (0 ≤ t1 41 3 ∧ t1 41 3 ≤ 16) → hy_W sc hm_S_breakTreaty 3 14 [.inr (some 41), .inl i, .inr none] [] t1 (hy_e none (sp_broken 41 t i)) := by
    intro t1 ht h3 hc1
    have hM : sp_moveN 41 t1 (sp_part 41 t1 i 0) (sp_part 41 t1 i 1) (sp_part 41 t1 i 3) (sp_part 41 t1 i 2) 4 41 3 = t 41 3 := (sp_moveN_F 41 t1 _ _ _ _ 4 41 3 rfl).trans h3
    refine hy_aload (i := 14) rfl rfl ?_
    refine hy_aload (i := 15) rfl rfl ?_
    refine hy_iload (i := 16) rfl rfl ?_
    refine hy_const (i := 17) rfl (by decide) ?_
    refine hy_cV2e (i := 18) rfl mj_S_part (by decide) rfl (Nat.le_of_ble_eq_true rfl) rfl rfl rfl (c_S_part_41 (by assumption)) ?_
    refine hy_aload (i := 19) rfl rfl ?_
    refine hy_iload (i := 20) rfl rfl ?_
    refine hy_const (i := 21) rfl (by decide) ?_
    refine hy_cV2e (i := 22) rfl mj_S_part (by decide) rfl (Nat.le_of_ble_eq_true rfl) rfl rfl rfl (c_S_part_41 (by assumption)) ?_
    refine hy_aload (i := 23) rfl rfl ?_
    refine hy_iload (i := 24) rfl rfl ?_
    refine hy_const (i := 25) rfl (by decide) ?_
    refine hy_cV2e (i := 26) rfl mj_S_part (by decide) rfl (Nat.le_of_ble_eq_true rfl) rfl rfl rfl (c_S_part_41 (by assumption)) ?_
    refine hy_aload (i := 27) rfl rfl ?_
    refine hy_iload (i := 28) rfl rfl ?_
    refine hy_const (i := 29) rfl (by decide) ?_
    refine hy_cV2e (i := 30) rfl mj_S_part (by decide) rfl (Nat.le_of_ble_eq_true rfl) rfl rfl rfl (c_S_part_41 (by assumption)) ?_
    refine hy_cV4v (i := 31) rfl mj_S_move (by decide) rfl (Nat.le_of_ble_eq_true rfl) rfl rfl rfl (c_S_move_41) ?_
    refine hy_const (i := 32) rfl (by decide) ?_
    refine hy_iload (i := 33) rfl rfl ?_
    refine hy_imul (i := 34) rfl (by omega) ?_
    refine hy_istore (i := 35) rfl ?_
    have h := loop (6 * (t 41 3 - 1) - 6 * i).toNat (6 * i).toNat _ (by omega) hM
    rw [show (((6 * i).toNat : Nat) : Int) = 6 * i by omega] at h
    refine hy_W.mono h (fun r t' hq => ?_)
    obtain ⟨h1, h2⟩ := hq
    exact ⟨h1, by rw [h2]; simp only [sp_broken, ← ht]⟩
  refine hy_aload (i := 0) rfl rfl ?_
  refine hy_get (i := 1) (fk := 6) rfl rfl rfl ?_
  refine hy_const (i := 2) rfl (by decide) ?_
  refine hy_ic_ne (i := 3) (tt := 14) rfl (fun zc1 => ?_) (fun zc1 => ?_)
  · first | exact go _ (by unfold sp_first; rw [if_pos zc1]) rfl hc | exact go _ (by unfold sp_first; rw [if_pos zc1]; rfl) rfl hc | exact go _ (by unfold sp_first; rw [if_neg zc1]) rfl hc
  · refine hy_aload (i := 4) rfl rfl ?_
    refine hy_aload (i := 5) rfl rfl ?_
    refine hy_get (i := 6) (fk := 4) rfl rfl rfl ?_
    refine hy_put (i := 7) (fk := 6) rfl rfl rfl rfl ?_
    refine hy_aload (i := 8) rfl rfl ?_
    refine hy_aload (i := 9) rfl rfl ?_
    refine hy_iload (i := 10) rfl rfl ?_
    refine hy_const (i := 11) rfl (by decide) ?_
    refine hy_cV2e (i := 12) rfl mj_S_part (by decide) rfl (Nat.le_of_ble_eq_true rfl) rfl rfl rfl (c_S_part_41 (by assumption)) ?_
    refine hy_put (i := 13) (fk := 7) rfl rfl rfl rfl ?_
    first | exact go _ (by unfold sp_first; rw [if_pos zc1]) rfl hc | exact go _ (by unfold sp_first; rw [if_pos zc1]; rfl) rfl hc | exact go _ (by unfold sp_first; rw [if_neg zc1]) rfl hc
end SV41
section SW
variable {sc : List Int32} {t : hy_T}
theorem c_S_copyFrom_33_41 : hy_Ct sc hm_S_copyFrom 0 [.inr (some 41), .inr (some 33)] t (hy_e none (sp_scopy t 33 41)) := by
  refine hy_mk_ct ok_S_copyFrom ck_S_copyFrom (Nat.le_of_ble_eq_true rfl) ?_
  refine hy_aload (i := 0) rfl rfl ?_
  refine hy_getr (i := 1) rfl rfl ?_
  refine hy_const (i := 2) rfl (by decide) ?_
  refine hy_aload (i := 3) rfl rfl ?_
  refine hy_getr (i := 4) rfl rfl ?_
  refine hy_const (i := 5) rfl (by decide) ?_
  refine hy_aload (i := 6) rfl rfl ?_
  refine hy_getr (i := 7) rfl rfl ?_
  refine hy_alen (i := 8) rfl rfl (by decide) (by decide) ?_
  refine hy_copy (i := 9) rfl (Nat.le_of_ble_eq_true rfl) rfl rfl (by decide) ?_
  refine hy_aload (i := 10) rfl rfl ?_
  refine hy_getr (i := 11) rfl rfl ?_
  refine hy_const (i := 12) rfl (by decide) ?_
  refine hy_aload (i := 13) rfl rfl ?_
  refine hy_getr (i := 14) rfl rfl ?_
  refine hy_const (i := 15) rfl (by decide) ?_
  refine hy_aload (i := 16) rfl rfl ?_
  refine hy_getr (i := 17) rfl rfl ?_
  refine hy_alen (i := 18) rfl rfl (by decide) (by decide) ?_
  refine hy_copy (i := 19) rfl (Nat.le_of_ble_eq_true rfl) rfl rfl (by decide) ?_
  refine hy_aload (i := 20) rfl rfl ?_
  refine hy_getr (i := 21) rfl rfl ?_
  refine hy_const (i := 22) rfl (by decide) ?_
  refine hy_aload (i := 23) rfl rfl ?_
  refine hy_getr (i := 24) rfl rfl ?_
  refine hy_const (i := 25) rfl (by decide) ?_
  refine hy_aload (i := 26) rfl rfl ?_
  refine hy_getr (i := 27) rfl rfl ?_
  refine hy_alen (i := 28) rfl rfl (by decide) (by decide) ?_
  refine hy_copy (i := 29) rfl (Nat.le_of_ble_eq_true rfl) rfl rfl (by decide) ?_
  refine hy_aload (i := 30) rfl rfl ?_
  refine hy_aload (i := 31) rfl rfl ?_
  refine hy_get (i := 32) (fk := 3) rfl rfl rfl ?_
  refine hy_put (i := 33) (fk := 3) rfl rfl rfl rfl ?_
  refine hy_aload (i := 34) rfl rfl ?_
  refine hy_aload (i := 35) rfl rfl ?_
  refine hy_get (i := 36) (fk := 4) rfl rfl rfl ?_
  refine hy_put (i := 37) (fk := 4) rfl rfl rfl rfl ?_
  refine hy_aload (i := 38) rfl rfl ?_
  refine hy_aload (i := 39) rfl rfl ?_
  refine hy_get (i := 40) (fk := 5) rfl rfl rfl ?_
  refine hy_put (i := 41) (fk := 5) rfl rfl rfl rfl ?_
  refine hy_return (i := 42) rfl rfl ?_
  exact ⟨rfl, rfl⟩
theorem c_S_copyFrom_33_37 : hy_Ct sc hm_S_copyFrom 0 [.inr (some 37), .inr (some 33)] t (hy_e none (sp_scopy t 33 37)) := by
  refine hy_mk_ct ok_S_copyFrom ck_S_copyFrom (Nat.le_of_ble_eq_true rfl) ?_
  refine hy_aload (i := 0) rfl rfl ?_
  refine hy_getr (i := 1) rfl rfl ?_
  refine hy_const (i := 2) rfl (by decide) ?_
  refine hy_aload (i := 3) rfl rfl ?_
  refine hy_getr (i := 4) rfl rfl ?_
  refine hy_const (i := 5) rfl (by decide) ?_
  refine hy_aload (i := 6) rfl rfl ?_
  refine hy_getr (i := 7) rfl rfl ?_
  refine hy_alen (i := 8) rfl rfl (by decide) (by decide) ?_
  refine hy_copy (i := 9) rfl (Nat.le_of_ble_eq_true rfl) rfl rfl (by decide) ?_
  refine hy_aload (i := 10) rfl rfl ?_
  refine hy_getr (i := 11) rfl rfl ?_
  refine hy_const (i := 12) rfl (by decide) ?_
  refine hy_aload (i := 13) rfl rfl ?_
  refine hy_getr (i := 14) rfl rfl ?_
  refine hy_const (i := 15) rfl (by decide) ?_
  refine hy_aload (i := 16) rfl rfl ?_
  refine hy_getr (i := 17) rfl rfl ?_
  refine hy_alen (i := 18) rfl rfl (by decide) (by decide) ?_
  refine hy_copy (i := 19) rfl (Nat.le_of_ble_eq_true rfl) rfl rfl (by decide) ?_
  refine hy_aload (i := 20) rfl rfl ?_
  refine hy_getr (i := 21) rfl rfl ?_
  refine hy_const (i := 22) rfl (by decide) ?_
  refine hy_aload (i := 23) rfl rfl ?_
  refine hy_getr (i := 24) rfl rfl ?_
  refine hy_const (i := 25) rfl (by decide) ?_
  refine hy_aload (i := 26) rfl rfl ?_
  refine hy_getr (i := 27) rfl rfl ?_
  refine hy_alen (i := 28) rfl rfl (by decide) (by decide) ?_
  refine hy_copy (i := 29) rfl (Nat.le_of_ble_eq_true rfl) rfl rfl (by decide) ?_
  refine hy_aload (i := 30) rfl rfl ?_
  refine hy_aload (i := 31) rfl rfl ?_
  refine hy_get (i := 32) (fk := 3) rfl rfl rfl ?_
  refine hy_put (i := 33) (fk := 3) rfl rfl rfl rfl ?_
  refine hy_aload (i := 34) rfl rfl ?_
  refine hy_aload (i := 35) rfl rfl ?_
  refine hy_get (i := 36) (fk := 4) rfl rfl rfl ?_
  refine hy_put (i := 37) (fk := 4) rfl rfl rfl rfl ?_
  refine hy_aload (i := 38) rfl rfl ?_
  refine hy_aload (i := 39) rfl rfl ?_
  refine hy_get (i := 40) (fk := 5) rfl rfl rfl ?_
  refine hy_put (i := 41) (fk := 5) rfl rfl rfl rfl ?_
  refine hy_return (i := 42) rfl rfl ?_
  exact ⟨rfl, rfl⟩
theorem c_S_copyFrom_37_33 : hy_Ct sc hm_S_copyFrom 0 [.inr (some 33), .inr (some 37)] t (hy_e none (sp_scopy t 37 33)) := by
  refine hy_mk_ct ok_S_copyFrom ck_S_copyFrom (Nat.le_of_ble_eq_true rfl) ?_
  refine hy_aload (i := 0) rfl rfl ?_
  refine hy_getr (i := 1) rfl rfl ?_
  refine hy_const (i := 2) rfl (by decide) ?_
  refine hy_aload (i := 3) rfl rfl ?_
  refine hy_getr (i := 4) rfl rfl ?_
  refine hy_const (i := 5) rfl (by decide) ?_
  refine hy_aload (i := 6) rfl rfl ?_
  refine hy_getr (i := 7) rfl rfl ?_
  refine hy_alen (i := 8) rfl rfl (by decide) (by decide) ?_
  refine hy_copy (i := 9) rfl (Nat.le_of_ble_eq_true rfl) rfl rfl (by decide) ?_
  refine hy_aload (i := 10) rfl rfl ?_
  refine hy_getr (i := 11) rfl rfl ?_
  refine hy_const (i := 12) rfl (by decide) ?_
  refine hy_aload (i := 13) rfl rfl ?_
  refine hy_getr (i := 14) rfl rfl ?_
  refine hy_const (i := 15) rfl (by decide) ?_
  refine hy_aload (i := 16) rfl rfl ?_
  refine hy_getr (i := 17) rfl rfl ?_
  refine hy_alen (i := 18) rfl rfl (by decide) (by decide) ?_
  refine hy_copy (i := 19) rfl (Nat.le_of_ble_eq_true rfl) rfl rfl (by decide) ?_
  refine hy_aload (i := 20) rfl rfl ?_
  refine hy_getr (i := 21) rfl rfl ?_
  refine hy_const (i := 22) rfl (by decide) ?_
  refine hy_aload (i := 23) rfl rfl ?_
  refine hy_getr (i := 24) rfl rfl ?_
  refine hy_const (i := 25) rfl (by decide) ?_
  refine hy_aload (i := 26) rfl rfl ?_
  refine hy_getr (i := 27) rfl rfl ?_
  refine hy_alen (i := 28) rfl rfl (by decide) (by decide) ?_
  refine hy_copy (i := 29) rfl (Nat.le_of_ble_eq_true rfl) rfl rfl (by decide) ?_
  refine hy_aload (i := 30) rfl rfl ?_
  refine hy_aload (i := 31) rfl rfl ?_
  refine hy_get (i := 32) (fk := 3) rfl rfl rfl ?_
  refine hy_put (i := 33) (fk := 3) rfl rfl rfl rfl ?_
  refine hy_aload (i := 34) rfl rfl ?_
  refine hy_aload (i := 35) rfl rfl ?_
  refine hy_get (i := 36) (fk := 4) rfl rfl rfl ?_
  refine hy_put (i := 37) (fk := 4) rfl rfl rfl rfl ?_
  refine hy_aload (i := 38) rfl rfl ?_
  refine hy_aload (i := 39) rfl rfl ?_
  refine hy_get (i := 40) (fk := 5) rfl rfl rfl ?_
  refine hy_put (i := 41) (fk := 5) rfl rfl rfl rfl ?_
  refine hy_return (i := 42) rfl rfl ?_
  exact ⟨rfl, rfl⟩
end SW
