/-! a war's state: who has what, owners, treaties -/
def sp_hav (hv : Nat → Int) (c q : Int) : Int := if (0 ≤ c ∧ c < 12) ∧ 0 ≤ q ∧ q < 4 then hv (4 * c + q).toNat else 0
def sp_hadN (hv : Nat → Int) (e q : Int) : Nat → Int
  | 0 => 0
  | n + 1 => hz_ior (sp_hadN hv e q n) (hz_ishl (hy_b (hz_b (sp_hav hv n q) e)) n)
def sp_bc (x : Int) : Int :=
  let a := (Int32.ofInt (x - hz_iand (hz_iushr x 1) 1431655765)).toInt
  let b := (Int32.ofInt (hz_iand a 858993459 + hz_iand (hz_iushr a 2) 858993459)).toInt
  let c := hz_iand (Int32.ofInt (b + hz_iushr b 4)).toInt 252645135
  let d := (Int32.ofInt (c + hz_iushr c 8)).toInt
  hz_iand (Int32.ofInt (d + hz_iushr d 16)).toInt 63
def sp_lowN (w : Int) : Nat → Int → Int
  | 0, q => q
  | n + 1, q => if q < 4 ∧ hz_b w q = false then sp_lowN w n (q + 1) else q
def sp_canGo (hv : Nat → Int) (c w g o : Int) : Bool := decide (∀ q : Nat, q < 4 → (hz_b w q && (!hz_b (sp_hav hv c q) g || hz_b (sp_hav hv c q) o)) = false)
def sp_setH (b : Nat) (t : hy_T) (c q v : Int) : hy_T := if (0 ≤ c ∧ c < 12) ∧ 0 ≤ q ∧ q < 4 then hy_up t (b + 1) (4 * c + q).toNat v else t
def sp_moveN (b : Nat) (t : hy_T) (c w lo wi : Int) : Nat → hy_T
  | 0 => t
  | n + 1 =>
    let t1 := sp_moveN b t c w lo wi n
    if hz_b w n = true then sp_setH b t1 c n (hz_ior (if lo = -1 then sp_hav (t1 (b + 1)) c n else hz_iand (sp_hav (t1 (b + 1)) c n) (hz_ixor (hz_ishl 1 lo) (-1))) (hz_ishl 1 wi)) else t1
def sp_part (b : Nat) (t : hy_T) (i w : Int) : Int := if (0 ≤ i ∧ i < t b 3) ∧ 0 ≤ w ∧ w < 6 then t (b + 3) (6 * i + w).toNat else 0
def sp_lay (b : Nat) (t : hy_T) (n : Nat) (c w g o s dd : Int) : hy_T := hy_up (hy_up (hy_up (hy_up (hy_up (hy_up t (b + 3) n c) (b + 3) (n + 1) w) (b + 3) (n + 2) g) (b + 3) (n + 3) o) (b + 3) (n + 4) s) (b + 3) (n + 5) dd
/-- a line is made -/
def sp_made (b : Nat) (t : hy_T) (c w g o s : Int) : hy_T :=
  let t1 := sp_moveN b t c w (if s = 0 then g else -1) o 4
  hy_up (sp_lay b t1 (6 * t b 3).toNat c w g o (if s = 0 then 0 else 1) (t b 4)) b 3 (t b 3 + 1)
theorem sp_moveN_F (b : Nat) (t : hy_T) (c w lo wi : Int) : ∀ n, hy_F (fun r _ => r == b + 1) t (sp_moveN b t c w lo wi n)
  | 0 => hy_F.rf
  | n + 1 => by
    have ih := sp_moveN_F b t c w lo wi n
    simp only [sp_moveN]
    split
    · unfold sp_setH
      split
      · exact ih.up (by simp)
      · exact ih
    · exact ih
theorem sp_hav_up {t : hy_T} {b r j : Nat} {v c q : Int} (h : r ≠ b) : sp_hav (hy_up t r j v b) c q = sp_hav (t b) c q := by
  unfold sp_hav
  simp [hy_up, Ne.symm h]
section STJ
variable {sc : List Int32} {t : hy_T}
theorem c_J_bitCount {x : Int} : hy_Ct sc hm_J_bitCount 0 [.inl x] t (hy_e (some (sp_bc x)) t) := by
  refine hy_mk_ct ok_J_bitCount ck_J_bitCount (Nat.le_of_ble_eq_true rfl) ?_
  refine hy_iload (i := 0) rfl rfl ?_
  refine hy_iload (i := 1) rfl rfl ?_
  refine hy_const (i := 2) rfl (by decide) ?_
  refine hy_iushr (i := 3) rfl ?_
  refine hy_const (i := 4) rfl (by decide) ?_
  refine hy_iand (i := 5) rfl ?_
  refine hy_isubw (i := 6) rfl ?_
  refine hy_istore (i := 7) rfl ?_
  refine hy_iload (i := 8) rfl rfl ?_
  refine hy_const (i := 9) rfl (by decide) ?_
  refine hy_iand (i := 10) rfl ?_
  refine hy_iload (i := 11) rfl rfl ?_
  refine hy_const (i := 12) rfl (by decide) ?_
  refine hy_iushr (i := 13) rfl ?_
  refine hy_const (i := 14) rfl (by decide) ?_
  refine hy_iand (i := 15) rfl ?_
  refine hy_iaddw (i := 16) rfl ?_
  refine hy_istore (i := 17) rfl ?_
  refine hy_iload (i := 18) rfl rfl ?_
  refine hy_iload (i := 19) rfl rfl ?_
  refine hy_const (i := 20) rfl (by decide) ?_
  refine hy_iushr (i := 21) rfl ?_
  refine hy_iaddw (i := 22) rfl ?_
  refine hy_const (i := 23) rfl (by decide) ?_
  refine hy_iand (i := 24) rfl ?_
  refine hy_istore (i := 25) rfl ?_
  refine hy_iload (i := 26) rfl rfl ?_
  refine hy_iload (i := 27) rfl rfl ?_
  refine hy_const (i := 28) rfl (by decide) ?_
  refine hy_iushr (i := 29) rfl ?_
  refine hy_iaddw (i := 30) rfl ?_
  refine hy_istore (i := 31) rfl ?_
  refine hy_iload (i := 32) rfl rfl ?_
  refine hy_iload (i := 33) rfl rfl ?_
  refine hy_const (i := 34) rfl (by decide) ?_
  refine hy_iushr (i := 35) rfl ?_
  refine hy_iaddw (i := 36) rfl ?_
  refine hy_istore (i := 37) rfl ?_
  refine hy_iload (i := 38) rfl rfl ?_
  refine hy_const (i := 39) rfl (by decide) ?_
  refine hy_iand (i := 40) rfl ?_
  refine hy_ireturn (i := 41) rfl rfl ?_
  exact ⟨rfl, rfl⟩
theorem c_S_lowest {w : Int} : hy_Ct sc hm_S_lowest 1 [.inl w] t (hy_e (some (sp_lowN w 4 0)) t) := by
  refine hy_mk_ct ok_S_lowest ck_S_lowest (Nat.le_of_ble_eq_true rfl) ?_
  have loop : ∀ (n : Nat), ∀ (q : Int), 0 ≤ q → n + q = 4 → sp_lowN w n q = sp_lowN w 4 0 → hy_W sc hm_S_lowest 1 2 [.inl w, .inl q] [] t (hy_e (some (sp_lowN w 4 0)) t) := by
    intro n
    induction n with
    | zero =>
      intro q h0 h1 h2
      refine hy_iload (i := 2) rfl rfl ?_
      refine hy_const (i := 3) rfl (by decide) ?_
      refine hy_ic_ge (i := 4) (tt := 11) rfl (fun zc1 => ?_) (fun zc1 => ?_)
      · refine hy_iload (i := 11) rfl rfl ?_
        refine hy_ireturn (i := 12) rfl rfl ?_
        first | omega | exact ⟨by rw [← h2]; rfl, rfl⟩
      · refine hy_iload (i := 5) rfl rfl ?_
        refine hy_iload (i := 6) rfl rfl ?_
        refine hy_cS2e (i := 7) rfl (by decide) mj_W_bit (by decide) rfl (Nat.le_of_ble_eq_true rfl) (c_W_bit) ?_
        refine hy_ib_ne (i := 8) (tt := 11) rfl (fun zc2 => ?_) (fun zc2 => ?_)
        · refine hy_iload (i := 11) rfl rfl ?_
          refine hy_ireturn (i := 12) rfl rfl ?_
          first | omega | exact ⟨by rw [← h2]; rfl, rfl⟩
        · refine hy_iinc (i := 9) rfl rfl (by omega) ?_
          refine hy_goto (i := 10) (tt := 2) rfl ?_
          omega
    | succ n ih =>
      intro q h0 h1 h2
      refine hy_iload (i := 2) rfl rfl ?_
      refine hy_const (i := 3) rfl (by decide) ?_
      refine hy_ic_ge (i := 4) (tt := 11) rfl (fun zc1 => ?_) (fun zc1 => ?_)
      · refine hy_iload (i := 11) rfl rfl ?_
        refine hy_ireturn (i := 12) rfl rfl ?_
        first | omega | exact ⟨by rw [← h2]; simp only [sp_lowN]; rw [if_neg (by simp [zc2])], rfl⟩
      · refine hy_iload (i := 5) rfl rfl ?_
        refine hy_iload (i := 6) rfl rfl ?_
        refine hy_cS2e (i := 7) rfl (by decide) mj_W_bit (by decide) rfl (Nat.le_of_ble_eq_true rfl) (c_W_bit) ?_
        refine hy_ib_ne (i := 8) (tt := 11) rfl (fun zc2 => ?_) (fun zc2 => ?_)
        · refine hy_iload (i := 11) rfl rfl ?_
          refine hy_ireturn (i := 12) rfl rfl ?_
          first | omega | exact ⟨by rw [← h2]; simp only [sp_lowN]; rw [if_neg (by simp [zc2])], rfl⟩
        · refine hy_iinc (i := 9) rfl rfl (by omega) ?_
          refine hy_goto (i := 10) (tt := 2) rfl ?_
          exact ih (q + 1) (by omega) (by omega) (by rw [← h2]; simp only [sp_lowN]; rw [if_pos ⟨by omega, zc2⟩])
  refine hy_const (i := 0) rfl (by decide) ?_
  refine hy_istore (i := 1) rfl ?_
  exact loop 4 0 (by omega) (by omega) rfl
end STJ
section ST33
variable {sc : List Int32} {t : hy_T}
theorem c_S_ownerOf_33 {f : Int} : hy_Ct sc hm_S_ownerOf 1 [.inr (some 33), .inl f] t (hy_e (some (if 0 ≤ f ∧ f < 64 then t 35 f.toNat else 6)) t) := by
  refine hy_mk_ct ok_S_ownerOf ck_S_ownerOf (Nat.le_of_ble_eq_true rfl) ?_
  refine hy_iload (i := 0) rfl rfl ?_
  refine hy_const (i := 1) rfl (by decide) ?_
  refine hy_cS2e (i := 2) rfl (by decide) mj_W_isAmong (by decide) rfl (Nat.le_of_ble_eq_true rfl) (c_W_isAmong) ?_
  refine hy_ib_eq (i := 3) (tt := 9) rfl (fun zc1 => ?_) (fun zc1 => ?_)
  · refine hy_const (i := 9) rfl (by decide) ?_
    refine hy_ireturn (i := 10) rfl rfl ?_
    exact ⟨congrArg some (by simp at zc1; split <;> first | rfl | omega), rfl⟩
  · refine hy_aload (i := 4) rfl rfl ?_
    refine hy_getr (i := 5) rfl rfl ?_
    refine hy_iload (i := 6) rfl rfl ?_
    refine hy_iald (i := 7) rfl rfl (by simp at zc1; omega) rfl ?_
    refine hy_goto (i := 8) (tt := 10) rfl ?_
    refine hy_ireturn (i := 10) rfl rfl ?_
    exact ⟨congrArg some (by simp at zc1; split <;> first | rfl | omega), rfl⟩
theorem c_S_setOwner_33 {f v : Int} : hy_Ct sc hm_S_setOwner 1 [.inr (some 33), .inl f, .inl v] t (hy_e none (if 0 ≤ f ∧ f < 64 then hy_up t 35 f.toNat v else t)) := by
  refine hy_mk_ct ok_S_setOwner ck_S_setOwner (Nat.le_of_ble_eq_true rfl) ?_
  refine hy_iload (i := 0) rfl rfl ?_
  refine hy_const (i := 1) rfl (by decide) ?_
  refine hy_cS2e (i := 2) rfl (by decide) mj_W_isAmong (by decide) rfl (Nat.le_of_ble_eq_true rfl) (c_W_isAmong) ?_
  refine hy_ib_eq (i := 3) (tt := 9) rfl (fun zc1 => ?_) (fun zc1 => ?_)
  · refine hy_return (i := 9) rfl rfl ?_
    exact ⟨rfl, by simp at zc1; split <;> first | rfl | omega⟩
  · refine hy_aload (i := 4) rfl rfl ?_
    refine hy_getr (i := 5) rfl rfl ?_
    refine hy_iload (i := 6) rfl rfl ?_
    refine hy_iload (i := 7) rfl rfl ?_
    refine hy_iast (i := 8) rfl rfl (by simp at zc1; omega) rfl ?_
    refine hy_return (i := 9) rfl rfl ?_
    exact ⟨rfl, by simp at zc1; split <;> first | rfl | omega⟩
theorem c_S_havers_33 {c q : Int} : hy_Ct sc hm_S_havers 1 [.inr (some 33), .inl c, .inl q] t (hy_e (some (sp_hav (t 34) c q)) t) := by
  refine hy_mk_ct ok_S_havers ck_S_havers (Nat.le_of_ble_eq_true rfl) ?_
  refine hy_iload (i := 0) rfl rfl ?_
  refine hy_const (i := 1) rfl (by decide) ?_
  refine hy_cS2e (i := 2) rfl (by decide) mj_W_isAmong (by decide) rfl (Nat.le_of_ble_eq_true rfl) (c_W_isAmong) ?_
  refine hy_ib_eq (i := 3) (tt := 16) rfl (fun zc1 => ?_) (fun zc1 => ?_)
  · refine hy_const (i := 16) rfl (by decide) ?_
    refine hy_ireturn (i := 17) rfl rfl ?_
    exact ⟨congrArg some (by unfold sp_hav; first | (simp at zc1 zc2; split <;> first | rfl | omega) | (simp at zc1; split <;> first | rfl | omega)), rfl⟩
  · refine hy_iload (i := 4) rfl rfl ?_
    refine hy_cS1e (i := 5) rfl (by decide) mj_W_isQuarter (by decide) rfl (Nat.le_of_ble_eq_true rfl) (c_W_isQuarter) ?_
    refine hy_ib_eq (i := 6) (tt := 16) rfl (fun zc2 => ?_) (fun zc2 => ?_)
    · refine hy_const (i := 16) rfl (by decide) ?_
      refine hy_ireturn (i := 17) rfl rfl ?_
      exact ⟨congrArg some (by unfold sp_hav; first | (simp at zc1 zc2; split <;> first | rfl | omega) | (simp at zc1; split <;> first | rfl | omega)), rfl⟩
    · refine hy_aload (i := 7) rfl rfl ?_
      refine hy_getr (i := 8) rfl rfl ?_
      refine hy_const (i := 9) rfl (by decide) ?_
      refine hy_iload (i := 10) rfl rfl ?_
      refine hy_imul (i := 11) rfl (by simp at zc1 zc2; omega) ?_
      refine hy_iload (i := 12) rfl rfl ?_
      refine hy_iadd (i := 13) rfl (by simp at zc1 zc2; omega) ?_
      refine hy_iald (i := 14) rfl rfl (by simp at zc1 zc2; omega) rfl ?_
      refine hy_goto (i := 15) (tt := 17) rfl ?_
      refine hy_ireturn (i := 17) rfl rfl ?_
      exact ⟨congrArg some (by unfold sp_hav; first | (simp at zc1 zc2; split <;> first | rfl | omega) | (simp at zc1; split <;> first | rfl | omega)), rfl⟩
theorem c_S_setHavers_33 {c q v : Int} : hy_Ct sc hm_S_setHavers 1 [.inr (some 33), .inl c, .inl q, .inl v] t (hy_e none (sp_setH 33 t c q v)) := by
  refine hy_mk_ct ok_S_setHavers ck_S_setHavers (Nat.le_of_ble_eq_true rfl) ?_
  refine hy_iload (i := 0) rfl rfl ?_
  refine hy_const (i := 1) rfl (by decide) ?_
  refine hy_cS2e (i := 2) rfl (by decide) mj_W_isAmong (by decide) rfl (Nat.le_of_ble_eq_true rfl) (c_W_isAmong) ?_
  refine hy_ib_eq (i := 3) (tt := 16) rfl (fun zc1 => ?_) (fun zc1 => ?_)
  · refine hy_return (i := 16) rfl rfl ?_
    exact ⟨rfl, by unfold sp_setH; first | (simp at zc1 zc2; split <;> first | rfl | omega) | (simp at zc1; split <;> first | rfl | omega)⟩
  · refine hy_iload (i := 4) rfl rfl ?_
    refine hy_cS1e (i := 5) rfl (by decide) mj_W_isQuarter (by decide) rfl (Nat.le_of_ble_eq_true rfl) (c_W_isQuarter) ?_
    refine hy_ib_eq (i := 6) (tt := 16) rfl (fun zc2 => ?_) (fun zc2 => ?_)
    · refine hy_return (i := 16) rfl rfl ?_
      exact ⟨rfl, by unfold sp_setH; first | (simp at zc1 zc2; split <;> first | rfl | omega) | (simp at zc1; split <;> first | rfl | omega)⟩
    · refine hy_aload (i := 7) rfl rfl ?_
      refine hy_getr (i := 8) rfl rfl ?_
      refine hy_const (i := 9) rfl (by decide) ?_
      refine hy_iload (i := 10) rfl rfl ?_
      refine hy_imul (i := 11) rfl (by simp at zc1 zc2; omega) ?_
      refine hy_iload (i := 12) rfl rfl ?_
      refine hy_iadd (i := 13) rfl (by simp at zc1 zc2; omega) ?_
      refine hy_iload (i := 14) rfl rfl ?_
      refine hy_iast (i := 15) rfl rfl (by simp at zc1 zc2; omega) rfl ?_
      refine hy_return (i := 16) rfl rfl ?_
      exact ⟨rfl, by unfold sp_setH; first | (simp at zc1 zc2; split <;> first | rfl | omega) | (simp at zc1; split <;> first | rfl | omega)⟩
theorem c_S_had_33 {e q : Int} : hy_Ct sc hm_S_had 2 [.inr (some 33), .inl e, .inl q] t (hy_e (some (sp_hadN (t 34) e q 12)) t) := by
  refine hy_mk_ct ok_S_had ck_S_had (Nat.le_of_ble_eq_true rfl) ?_
  have loop : ∀ (n : Nat), ∀ (k : Nat), n + k = 12 → hy_W sc hm_S_had 2 4 [.inr (some 33), .inl e, .inl q, .inl (sp_hadN (t 34) e q k), .inl (k : Int)] [] t (hy_e (some (sp_hadN (t 34) e q 12)) t) := by
    intro n
    induction n with
    | zero =>
      intro k hk
      obtain rfl : k = 12 := by omega
      refine hy_iload (i := 4) rfl rfl ?_
      refine hy_const (i := 5) rfl (by decide) ?_
      refine hy_ic_ge (i := 6) (tt := 20) rfl (fun zc1 => ?_) (fun zc1 => ?_)
      · refine hy_iload (i := 20) rfl rfl ?_
        refine hy_ireturn (i := 21) rfl rfl ?_
        exact ⟨rfl, rfl⟩
      · omega
    | succ n ih =>
      intro k hk
      refine hy_iload (i := 4) rfl rfl ?_
      refine hy_const (i := 5) rfl (by decide) ?_
      refine hy_ic_ge (i := 6) (tt := 20) rfl (fun zc1 => ?_) (fun zc1 => ?_)
      · omega
      · refine hy_iload (i := 7) rfl rfl ?_
        refine hy_aload (i := 8) rfl rfl ?_
        refine hy_iload (i := 9) rfl rfl ?_
        refine hy_iload (i := 10) rfl rfl ?_
        refine hy_cV2e (i := 11) rfl mj_S_havers (by decide) rfl (Nat.le_of_ble_eq_true rfl) rfl rfl rfl (c_S_havers_33) ?_
        refine hy_iload (i := 12) rfl rfl ?_
        refine hy_cS2e (i := 13) rfl (by decide) mj_W_bit (by decide) rfl (Nat.le_of_ble_eq_true rfl) (c_W_bit) ?_
        refine hy_iload (i := 14) rfl rfl ?_
        refine hy_ishl (i := 15) rfl ?_
        refine hy_ior (i := 16) rfl ?_
        refine hy_istore (i := 17) rfl ?_
        refine hy_iinc (i := 18) rfl rfl (by omega) ?_
        refine hy_goto (i := 19) (tt := 4) rfl ?_
        exact ih (k + 1) (by omega)
  refine hy_const (i := 0) rfl (by decide) ?_
  refine hy_istore (i := 1) rfl ?_
  refine hy_const (i := 2) rfl (by decide) ?_
  refine hy_istore (i := 3) rfl ?_
  exact loop 12 0 rfl
def sp_qh33 (t : hy_T) (c : Int) : Nat → Int
  | 0 => 0
  | n + 1 => sp_qh33 t c n + sp_bc (sp_hav (t 34) c n)
theorem c_S_canGo_33 {c w g o : Int} : hy_Ct sc hm_S_canGo 2 [.inr (some 33), .inl c, .inl w, .inl g, .inl o] t (hy_e (some (hy_b (sp_canGo (t 34) c w g o))) t) := by
  refine hy_mk_ct ok_S_canGo ck_S_canGo (Nat.le_of_ble_eq_true rfl) ?_
  have loop : ∀ (n : Nat), ∀ (k : Nat) (z : hy_V), n + k = 4 → (∀ q : Nat, q < k → (hz_b w q && (!hz_b (sp_hav (t 34) c q) g || hz_b (sp_hav (t 34) c q) o)) = false) → hy_W sc hm_S_canGo 2 2 [.inr (some 33), .inl c, .inl w, .inl g, .inl o, .inl (k : Int), z] [] t (hy_e (some (hy_b (sp_canGo (t 34) c w g o))) t) := by
    intro n
    induction n with
    | zero =>
      intro k z hk hi
      obtain rfl : k = 4 := by omega
      refine hy_iload (i := 2) rfl rfl ?_
      refine hy_const (i := 3) rfl (by decide) ?_
      refine hy_ic_ge (i := 4) (tt := 28) rfl (fun zc1 => ?_) (fun zc1 => ?_)
      · refine hy_const (i := 28) rfl (by decide) ?_
        refine hy_zreturn (i := 29) rfl rfl (by first | decide | exact hy_b01 _) ?_
        exact ⟨congrArg some (by rw [show sp_canGo (t 34) c w g o = true from decide_eq_true hi]; rfl), rfl⟩
      · omega
    | succ n ih =>
      intro k z hk hi
      refine hy_iload (i := 2) rfl rfl ?_
      refine hy_const (i := 3) rfl (by decide) ?_
      refine hy_ic_ge (i := 4) (tt := 28) rfl (fun zc1 => ?_) (fun zc1 => ?_)
      · omega
      · refine hy_aload (i := 5) rfl rfl ?_
        refine hy_iload (i := 6) rfl rfl ?_
        refine hy_iload (i := 7) rfl rfl ?_
        refine hy_cV2e (i := 8) rfl mj_S_havers (by decide) rfl (Nat.le_of_ble_eq_true rfl) rfl rfl rfl (c_S_havers_33) ?_
        refine hy_istore (i := 9) rfl ?_
        refine hy_iload (i := 10) rfl rfl ?_
        refine hy_iload (i := 11) rfl rfl ?_
        refine hy_cS2e (i := 12) rfl (by decide) mj_W_bit (by decide) rfl (Nat.le_of_ble_eq_true rfl) (c_W_bit) ?_
        refine hy_const (i := 13) rfl (by decide) ?_
        refine hy_icb_ne (i := 14) (tt := 26) rfl (fun zc2 => ?_) (fun zc2 => ?_)
        · refine hy_iinc (i := 26) rfl rfl (by omega) ?_
          refine hy_goto (i := 27) (tt := 2) rfl ?_
          exact ih (k + 1) _ (by omega) (fun q hq => by rcases Nat.lt_succ_iff_lt_or_eq.mp hq with h | rfl; exact hi q h; simp_all)
        · refine hy_iload (i := 15) rfl rfl ?_
          refine hy_iload (i := 16) rfl rfl ?_
          refine hy_cS2e (i := 17) rfl (by decide) mj_W_bit (by decide) rfl (Nat.le_of_ble_eq_true rfl) (c_W_bit) ?_
          refine hy_ib_eq (i := 18) (tt := 24) rfl (fun zc3 => ?_) (fun zc3 => ?_)
          · refine hy_const (i := 24) rfl (by decide) ?_
            refine hy_zreturn (i := 25) rfl rfl (by first | decide | exact hy_b01 _) ?_
            exact ⟨congrArg some (by rw [show sp_canGo (t 34) c w g o = false from decide_eq_false (fun h => by have h1 := h k (by omega); simp_all)]; rfl), rfl⟩
          · refine hy_iload (i := 19) rfl rfl ?_
            refine hy_iload (i := 20) rfl rfl ?_
            refine hy_cS2e (i := 21) rfl (by decide) mj_W_bit (by decide) rfl (Nat.le_of_ble_eq_true rfl) (c_W_bit) ?_
            refine hy_const (i := 22) rfl (by decide) ?_
            refine hy_icb_ne (i := 23) (tt := 26) rfl (fun zc4 => ?_) (fun zc4 => ?_)
            · refine hy_iinc (i := 26) rfl rfl (by omega) ?_
              refine hy_goto (i := 27) (tt := 2) rfl ?_
              exact ih (k + 1) _ (by omega) (fun q hq => by rcases Nat.lt_succ_iff_lt_or_eq.mp hq with h | rfl; exact hi q h; simp_all)
            · refine hy_const (i := 24) rfl (by decide) ?_
              refine hy_zreturn (i := 25) rfl rfl (by first | decide | exact hy_b01 _) ?_
              exact ⟨congrArg some (by rw [show sp_canGo (t 34) c w g o = false from decide_eq_false (fun h => by have h1 := h k (by omega); simp_all)]; rfl), rfl⟩
  refine hy_const (i := 0) rfl (by decide) ?_
  refine hy_istore (i := 1) rfl ?_
  exact loop 4 0 _ rfl (fun q hq => by omega)
theorem c_S_move_33 {c w lo wi : Int} : hy_Ct sc hm_S_move 2 [.inr (some 33), .inl c, .inl w, .inl lo, .inl wi] t (hy_e none (sp_moveN 33 t c w lo wi 4)) := by
  refine hy_mk_ct ok_S_move ck_S_move (Nat.le_of_ble_eq_true rfl) ?_
  have loop : ∀ (n : Nat), ∀ (k : Nat) (t1 : hy_T) (z z2 : hy_V), n + k = 4 → t1 = sp_moveN 33 t c w lo wi k → hy_W sc hm_S_move 2 2 [.inr (some 33), .inl c, .inl w, .inl lo, .inl wi, .inl (k : Int), z, z2] [] t1 (hy_e none (sp_moveN 33 t c w lo wi 4)) := by
    intro n
    induction n with
    | zero =>
      intro k t1 z z2 hk ht
      obtain rfl : k = 4 := by omega
      refine hy_iload (i := 2) rfl rfl ?_
      refine hy_const (i := 3) rfl (by decide) ?_
      refine hy_ic_ge (i := 4) (tt := 39) rfl (fun zc1 => ?_) (fun zc1 => ?_)
      · refine hy_return (i := 39) rfl rfl ?_
        exact ⟨rfl, ht⟩
      · omega
    | succ n ih =>
      intro k t1 z z2 hk ht
      refine hy_iload (i := 2) rfl rfl ?_
      refine hy_const (i := 3) rfl (by decide) ?_
      refine hy_ic_ge (i := 4) (tt := 39) rfl (fun zc1 => ?_) (fun zc1 => ?_)
      · omega
      · refine hy_iload (i := 5) rfl rfl ?_
        refine hy_iload (i := 6) rfl rfl ?_
        refine hy_cS2e (i := 7) rfl (by decide) mj_W_bit (by decide) rfl (Nat.le_of_ble_eq_true rfl) (c_W_bit) ?_
        refine hy_const (i := 8) rfl (by decide) ?_
        refine hy_icb_ne (i := 9) (tt := 37) rfl (fun zc2 => ?_) (fun zc2 => ?_)
        · refine hy_iinc (i := 37) rfl rfl (by omega) ?_
          refine hy_goto (i := 38) (tt := 2) rfl ?_
          exact ih (k + 1) _ _ _ (by omega) (by subst ht; simp only [sp_moveN]; first | rw [if_pos zc2, if_pos zc3] | rw [if_pos zc2, if_neg zc3] | rw [if_neg (by rw [zc2]; decide)])
        · refine hy_aload (i := 10) rfl rfl ?_
          refine hy_iload (i := 11) rfl rfl ?_
          refine hy_iload (i := 12) rfl rfl ?_
          refine hy_cV2e (i := 13) rfl mj_S_havers (by decide) rfl (Nat.le_of_ble_eq_true rfl) rfl rfl rfl (c_S_havers_33) ?_
          refine hy_istore (i := 14) rfl ?_
          refine hy_iload (i := 15) rfl rfl ?_
          refine hy_const (i := 16) rfl (by decide) ?_
          refine hy_ic_ne (i := 17) (tt := 20) rfl (fun zc3 => ?_) (fun zc3 => ?_)
          · refine hy_iload (i := 20) rfl rfl ?_
            refine hy_const (i := 21) rfl (by decide) ?_
            refine hy_iload (i := 22) rfl rfl ?_
            refine hy_ishl (i := 23) rfl ?_
            refine hy_const (i := 24) rfl (by decide) ?_
            refine hy_ixor (i := 25) rfl ?_
            refine hy_iand (i := 26) rfl ?_
            refine hy_istore (i := 27) rfl ?_
            refine hy_aload (i := 28) rfl rfl ?_
            refine hy_iload (i := 29) rfl rfl ?_
            refine hy_iload (i := 30) rfl rfl ?_
            refine hy_iload (i := 31) rfl rfl ?_
            refine hy_const (i := 32) rfl (by decide) ?_
            refine hy_iload (i := 33) rfl rfl ?_
            refine hy_ishl (i := 34) rfl ?_
            refine hy_ior (i := 35) rfl ?_
            refine hy_cV3v (i := 36) rfl mj_S_setHavers (by decide) rfl (Nat.le_of_ble_eq_true rfl) rfl rfl rfl (c_S_setHavers_33) ?_
            refine hy_iinc (i := 37) rfl rfl (by omega) ?_
            refine hy_goto (i := 38) (tt := 2) rfl ?_
            exact ih (k + 1) _ _ _ (by omega) (by subst ht; simp only [sp_moveN]; first | rw [if_pos zc2, if_pos zc3] | rw [if_pos zc2, if_neg zc3] | rw [if_neg (by rw [zc2]; decide)])
          · refine hy_iload (i := 18) rfl rfl ?_
            refine hy_goto (i := 19) (tt := 27) rfl ?_
            refine hy_istore (i := 27) rfl ?_
            refine hy_aload (i := 28) rfl rfl ?_
            refine hy_iload (i := 29) rfl rfl ?_
            refine hy_iload (i := 30) rfl rfl ?_
            refine hy_iload (i := 31) rfl rfl ?_
            refine hy_const (i := 32) rfl (by decide) ?_
            refine hy_iload (i := 33) rfl rfl ?_
            refine hy_ishl (i := 34) rfl ?_
            refine hy_ior (i := 35) rfl ?_
            refine hy_cV3v (i := 36) rfl mj_S_setHavers (by decide) rfl (Nat.le_of_ble_eq_true rfl) rfl rfl rfl (c_S_setHavers_33) ?_
            refine hy_iinc (i := 37) rfl rfl (by omega) ?_
            refine hy_goto (i := 38) (tt := 2) rfl ?_
            exact ih (k + 1) _ _ _ (by omega) (by subst ht; simp only [sp_moveN]; first | rw [if_pos zc2, if_pos zc3] | rw [if_pos zc2, if_neg zc3] | rw [if_neg (by rw [zc2]; decide)])
  refine hy_const (i := 0) rfl (by decide) ?_
  refine hy_istore (i := 1) rfl ?_
  exact loop 4 0 _ _ _ rfl rfl
end ST33
section ST41
variable {sc : List Int32} {t : hy_T}
theorem c_S_ownerOf_41 {f : Int} : hy_Ct sc hm_S_ownerOf 1 [.inr (some 41), .inl f] t (hy_e (some (if 0 ≤ f ∧ f < 64 then t 43 f.toNat else 6)) t) := by
  refine hy_mk_ct ok_S_ownerOf ck_S_ownerOf (Nat.le_of_ble_eq_true rfl) ?_
  refine hy_iload (i := 0) rfl rfl ?_
  refine hy_const (i := 1) rfl (by decide) ?_
  refine hy_cS2e (i := 2) rfl (by decide) mj_W_isAmong (by decide) rfl (Nat.le_of_ble_eq_true rfl) (c_W_isAmong) ?_
  refine hy_ib_eq (i := 3) (tt := 9) rfl (fun zc1 => ?_) (fun zc1 => ?_)
  · refine hy_const (i := 9) rfl (by decide) ?_
    refine hy_ireturn (i := 10) rfl rfl ?_
    exact ⟨congrArg some (by simp at zc1; split <;> first | rfl | omega), rfl⟩
  · refine hy_aload (i := 4) rfl rfl ?_
    refine hy_getr (i := 5) rfl rfl ?_
    refine hy_iload (i := 6) rfl rfl ?_
    refine hy_iald (i := 7) rfl rfl (by simp at zc1; omega) rfl ?_
    refine hy_goto (i := 8) (tt := 10) rfl ?_
    refine hy_ireturn (i := 10) rfl rfl ?_
    exact ⟨congrArg some (by simp at zc1; split <;> first | rfl | omega), rfl⟩
theorem c_S_setOwner_41 {f v : Int} : hy_Ct sc hm_S_setOwner 1 [.inr (some 41), .inl f, .inl v] t (hy_e none (if 0 ≤ f ∧ f < 64 then hy_up t 43 f.toNat v else t)) := by
  refine hy_mk_ct ok_S_setOwner ck_S_setOwner (Nat.le_of_ble_eq_true rfl) ?_
  refine hy_iload (i := 0) rfl rfl ?_
  refine hy_const (i := 1) rfl (by decide) ?_
  refine hy_cS2e (i := 2) rfl (by decide) mj_W_isAmong (by decide) rfl (Nat.le_of_ble_eq_true rfl) (c_W_isAmong) ?_
  refine hy_ib_eq (i := 3) (tt := 9) rfl (fun zc1 => ?_) (fun zc1 => ?_)
  · refine hy_return (i := 9) rfl rfl ?_
    exact ⟨rfl, by simp at zc1; split <;> first | rfl | omega⟩
  · refine hy_aload (i := 4) rfl rfl ?_
    refine hy_getr (i := 5) rfl rfl ?_
    refine hy_iload (i := 6) rfl rfl ?_
    refine hy_iload (i := 7) rfl rfl ?_
    refine hy_iast (i := 8) rfl rfl (by simp at zc1; omega) rfl ?_
    refine hy_return (i := 9) rfl rfl ?_
    exact ⟨rfl, by simp at zc1; split <;> first | rfl | omega⟩
theorem c_S_havers_41 {c q : Int} : hy_Ct sc hm_S_havers 1 [.inr (some 41), .inl c, .inl q] t (hy_e (some (sp_hav (t 42) c q)) t) := by
  refine hy_mk_ct ok_S_havers ck_S_havers (Nat.le_of_ble_eq_true rfl) ?_
  refine hy_iload (i := 0) rfl rfl ?_
  refine hy_const (i := 1) rfl (by decide) ?_
  refine hy_cS2e (i := 2) rfl (by decide) mj_W_isAmong (by decide) rfl (Nat.le_of_ble_eq_true rfl) (c_W_isAmong) ?_
  refine hy_ib_eq (i := 3) (tt := 16) rfl (fun zc1 => ?_) (fun zc1 => ?_)
  · refine hy_const (i := 16) rfl (by decide) ?_
    refine hy_ireturn (i := 17) rfl rfl ?_
    exact ⟨congrArg some (by unfold sp_hav; first | (simp at zc1 zc2; split <;> first | rfl | omega) | (simp at zc1; split <;> first | rfl | omega)), rfl⟩
  · refine hy_iload (i := 4) rfl rfl ?_
    refine hy_cS1e (i := 5) rfl (by decide) mj_W_isQuarter (by decide) rfl (Nat.le_of_ble_eq_true rfl) (c_W_isQuarter) ?_
    refine hy_ib_eq (i := 6) (tt := 16) rfl (fun zc2 => ?_) (fun zc2 => ?_)
    · refine hy_const (i := 16) rfl (by decide) ?_
      refine hy_ireturn (i := 17) rfl rfl ?_
      exact ⟨congrArg some (by unfold sp_hav; first | (simp at zc1 zc2; split <;> first | rfl | omega) | (simp at zc1; split <;> first | rfl | omega)), rfl⟩
    · refine hy_aload (i := 7) rfl rfl ?_
      refine hy_getr (i := 8) rfl rfl ?_
      refine hy_const (i := 9) rfl (by decide) ?_
      refine hy_iload (i := 10) rfl rfl ?_
      refine hy_imul (i := 11) rfl (by simp at zc1 zc2; omega) ?_
      refine hy_iload (i := 12) rfl rfl ?_
      refine hy_iadd (i := 13) rfl (by simp at zc1 zc2; omega) ?_
      refine hy_iald (i := 14) rfl rfl (by simp at zc1 zc2; omega) rfl ?_
      refine hy_goto (i := 15) (tt := 17) rfl ?_
      refine hy_ireturn (i := 17) rfl rfl ?_
      exact ⟨congrArg some (by unfold sp_hav; first | (simp at zc1 zc2; split <;> first | rfl | omega) | (simp at zc1; split <;> first | rfl | omega)), rfl⟩
theorem c_S_setHavers_41 {c q v : Int} : hy_Ct sc hm_S_setHavers 1 [.inr (some 41), .inl c, .inl q, .inl v] t (hy_e none (sp_setH 41 t c q v)) := by
  refine hy_mk_ct ok_S_setHavers ck_S_setHavers (Nat.le_of_ble_eq_true rfl) ?_
  refine hy_iload (i := 0) rfl rfl ?_
  refine hy_const (i := 1) rfl (by decide) ?_
  refine hy_cS2e (i := 2) rfl (by decide) mj_W_isAmong (by decide) rfl (Nat.le_of_ble_eq_true rfl) (c_W_isAmong) ?_
  refine hy_ib_eq (i := 3) (tt := 16) rfl (fun zc1 => ?_) (fun zc1 => ?_)
  · refine hy_return (i := 16) rfl rfl ?_
    exact ⟨rfl, by unfold sp_setH; first | (simp at zc1 zc2; split <;> first | rfl | omega) | (simp at zc1; split <;> first | rfl | omega)⟩
  · refine hy_iload (i := 4) rfl rfl ?_
    refine hy_cS1e (i := 5) rfl (by decide) mj_W_isQuarter (by decide) rfl (Nat.le_of_ble_eq_true rfl) (c_W_isQuarter) ?_
    refine hy_ib_eq (i := 6) (tt := 16) rfl (fun zc2 => ?_) (fun zc2 => ?_)
    · refine hy_return (i := 16) rfl rfl ?_
      exact ⟨rfl, by unfold sp_setH; first | (simp at zc1 zc2; split <;> first | rfl | omega) | (simp at zc1; split <;> first | rfl | omega)⟩
    · refine hy_aload (i := 7) rfl rfl ?_
      refine hy_getr (i := 8) rfl rfl ?_
      refine hy_const (i := 9) rfl (by decide) ?_
      refine hy_iload (i := 10) rfl rfl ?_
      refine hy_imul (i := 11) rfl (by simp at zc1 zc2; omega) ?_
      refine hy_iload (i := 12) rfl rfl ?_
      refine hy_iadd (i := 13) rfl (by simp at zc1 zc2; omega) ?_
      refine hy_iload (i := 14) rfl rfl ?_
      refine hy_iast (i := 15) rfl rfl (by simp at zc1 zc2; omega) rfl ?_
      refine hy_return (i := 16) rfl rfl ?_
      exact ⟨rfl, by unfold sp_setH; first | (simp at zc1 zc2; split <;> first | rfl | omega) | (simp at zc1; split <;> first | rfl | omega)⟩
theorem c_S_had_41 {e q : Int} : hy_Ct sc hm_S_had 2 [.inr (some 41), .inl e, .inl q] t (hy_e (some (sp_hadN (t 42) e q 12)) t) := by
  refine hy_mk_ct ok_S_had ck_S_had (Nat.le_of_ble_eq_true rfl) ?_
  have loop : ∀ (n : Nat), ∀ (k : Nat), n + k = 12 → hy_W sc hm_S_had 2 4 [.inr (some 41), .inl e, .inl q, .inl (sp_hadN (t 42) e q k), .inl (k : Int)] [] t (hy_e (some (sp_hadN (t 42) e q 12)) t) := by
    intro n
    induction n with
    | zero =>
      intro k hk
      obtain rfl : k = 12 := by omega
      refine hy_iload (i := 4) rfl rfl ?_
      refine hy_const (i := 5) rfl (by decide) ?_
      refine hy_ic_ge (i := 6) (tt := 20) rfl (fun zc1 => ?_) (fun zc1 => ?_)
      · refine hy_iload (i := 20) rfl rfl ?_
        refine hy_ireturn (i := 21) rfl rfl ?_
        exact ⟨rfl, rfl⟩
      · omega
    | succ n ih =>
      intro k hk
      refine hy_iload (i := 4) rfl rfl ?_
      refine hy_const (i := 5) rfl (by decide) ?_
      refine hy_ic_ge (i := 6) (tt := 20) rfl (fun zc1 => ?_) (fun zc1 => ?_)
      · omega
      · refine hy_iload (i := 7) rfl rfl ?_
        refine hy_aload (i := 8) rfl rfl ?_
        refine hy_iload (i := 9) rfl rfl ?_
        refine hy_iload (i := 10) rfl rfl ?_
        refine hy_cV2e (i := 11) rfl mj_S_havers (by decide) rfl (Nat.le_of_ble_eq_true rfl) rfl rfl rfl (c_S_havers_41) ?_
        refine hy_iload (i := 12) rfl rfl ?_
        refine hy_cS2e (i := 13) rfl (by decide) mj_W_bit (by decide) rfl (Nat.le_of_ble_eq_true rfl) (c_W_bit) ?_
        refine hy_iload (i := 14) rfl rfl ?_
        refine hy_ishl (i := 15) rfl ?_
        refine hy_ior (i := 16) rfl ?_
        refine hy_istore (i := 17) rfl ?_
        refine hy_iinc (i := 18) rfl rfl (by omega) ?_
        refine hy_goto (i := 19) (tt := 4) rfl ?_
        exact ih (k + 1) (by omega)
  refine hy_const (i := 0) rfl (by decide) ?_
  refine hy_istore (i := 1) rfl ?_
  refine hy_const (i := 2) rfl (by decide) ?_
  refine hy_istore (i := 3) rfl ?_
  exact loop 12 0 rfl
def sp_qh41 (t : hy_T) (c : Int) : Nat → Int
  | 0 => 0
  | n + 1 => sp_qh41 t c n + sp_bc (sp_hav (t 42) c n)
theorem c_S_canGo_41 {c w g o : Int} : hy_Ct sc hm_S_canGo 2 [.inr (some 41), .inl c, .inl w, .inl g, .inl o] t (hy_e (some (hy_b (sp_canGo (t 42) c w g o))) t) := by
  refine hy_mk_ct ok_S_canGo ck_S_canGo (Nat.le_of_ble_eq_true rfl) ?_
  have loop : ∀ (n : Nat), ∀ (k : Nat) (z : hy_V), n + k = 4 → (∀ q : Nat, q < k → (hz_b w q && (!hz_b (sp_hav (t 42) c q) g || hz_b (sp_hav (t 42) c q) o)) = false) → hy_W sc hm_S_canGo 2 2 [.inr (some 41), .inl c, .inl w, .inl g, .inl o, .inl (k : Int), z] [] t (hy_e (some (hy_b (sp_canGo (t 42) c w g o))) t) := by
    intro n
    induction n with
    | zero =>
      intro k z hk hi
      obtain rfl : k = 4 := by omega
      refine hy_iload (i := 2) rfl rfl ?_
      refine hy_const (i := 3) rfl (by decide) ?_
      refine hy_ic_ge (i := 4) (tt := 28) rfl (fun zc1 => ?_) (fun zc1 => ?_)
      · refine hy_const (i := 28) rfl (by decide) ?_
        refine hy_zreturn (i := 29) rfl rfl (by first | decide | exact hy_b01 _) ?_
        exact ⟨congrArg some (by rw [show sp_canGo (t 42) c w g o = true from decide_eq_true hi]; rfl), rfl⟩
      · omega
    | succ n ih =>
      intro k z hk hi
      refine hy_iload (i := 2) rfl rfl ?_
      refine hy_const (i := 3) rfl (by decide) ?_
      refine hy_ic_ge (i := 4) (tt := 28) rfl (fun zc1 => ?_) (fun zc1 => ?_)
      · omega
      · refine hy_aload (i := 5) rfl rfl ?_
        refine hy_iload (i := 6) rfl rfl ?_
        refine hy_iload (i := 7) rfl rfl ?_
        refine hy_cV2e (i := 8) rfl mj_S_havers (by decide) rfl (Nat.le_of_ble_eq_true rfl) rfl rfl rfl (c_S_havers_41) ?_
        refine hy_istore (i := 9) rfl ?_
        refine hy_iload (i := 10) rfl rfl ?_
        refine hy_iload (i := 11) rfl rfl ?_
        refine hy_cS2e (i := 12) rfl (by decide) mj_W_bit (by decide) rfl (Nat.le_of_ble_eq_true rfl) (c_W_bit) ?_
        refine hy_const (i := 13) rfl (by decide) ?_
        refine hy_icb_ne (i := 14) (tt := 26) rfl (fun zc2 => ?_) (fun zc2 => ?_)
        · refine hy_iinc (i := 26) rfl rfl (by omega) ?_
          refine hy_goto (i := 27) (tt := 2) rfl ?_
          exact ih (k + 1) _ (by omega) (fun q hq => by rcases Nat.lt_succ_iff_lt_or_eq.mp hq with h | rfl; exact hi q h; simp_all)
        · refine hy_iload (i := 15) rfl rfl ?_
          refine hy_iload (i := 16) rfl rfl ?_
          refine hy_cS2e (i := 17) rfl (by decide) mj_W_bit (by decide) rfl (Nat.le_of_ble_eq_true rfl) (c_W_bit) ?_
          refine hy_ib_eq (i := 18) (tt := 24) rfl (fun zc3 => ?_) (fun zc3 => ?_)
          · refine hy_const (i := 24) rfl (by decide) ?_
            refine hy_zreturn (i := 25) rfl rfl (by first | decide | exact hy_b01 _) ?_
            exact ⟨congrArg some (by rw [show sp_canGo (t 42) c w g o = false from decide_eq_false (fun h => by have h1 := h k (by omega); simp_all)]; rfl), rfl⟩
          · refine hy_iload (i := 19) rfl rfl ?_
            refine hy_iload (i := 20) rfl rfl ?_
            refine hy_cS2e (i := 21) rfl (by decide) mj_W_bit (by decide) rfl (Nat.le_of_ble_eq_true rfl) (c_W_bit) ?_
            refine hy_const (i := 22) rfl (by decide) ?_
            refine hy_icb_ne (i := 23) (tt := 26) rfl (fun zc4 => ?_) (fun zc4 => ?_)
            · refine hy_iinc (i := 26) rfl rfl (by omega) ?_
              refine hy_goto (i := 27) (tt := 2) rfl ?_
              exact ih (k + 1) _ (by omega) (fun q hq => by rcases Nat.lt_succ_iff_lt_or_eq.mp hq with h | rfl; exact hi q h; simp_all)
            · refine hy_const (i := 24) rfl (by decide) ?_
              refine hy_zreturn (i := 25) rfl rfl (by first | decide | exact hy_b01 _) ?_
              exact ⟨congrArg some (by rw [show sp_canGo (t 42) c w g o = false from decide_eq_false (fun h => by have h1 := h k (by omega); simp_all)]; rfl), rfl⟩
  refine hy_const (i := 0) rfl (by decide) ?_
  refine hy_istore (i := 1) rfl ?_
  exact loop 4 0 _ rfl (fun q hq => by omega)
theorem c_S_move_41 {c w lo wi : Int} : hy_Ct sc hm_S_move 2 [.inr (some 41), .inl c, .inl w, .inl lo, .inl wi] t (hy_e none (sp_moveN 41 t c w lo wi 4)) := by
  refine hy_mk_ct ok_S_move ck_S_move (Nat.le_of_ble_eq_true rfl) ?_
  have loop : ∀ (n : Nat), ∀ (k : Nat) (t1 : hy_T) (z z2 : hy_V), n + k = 4 → t1 = sp_moveN 41 t c w lo wi k → hy_W sc hm_S_move 2 2 [.inr (some 41), .inl c, .inl w, .inl lo, .inl wi, .inl (k : Int), z, z2] [] t1 (hy_e none (sp_moveN 41 t c w lo wi 4)) := by
    intro n
    induction n with
    | zero =>
      intro k t1 z z2 hk ht
      obtain rfl : k = 4 := by omega
      refine hy_iload (i := 2) rfl rfl ?_
      refine hy_const (i := 3) rfl (by decide) ?_
      refine hy_ic_ge (i := 4) (tt := 39) rfl (fun zc1 => ?_) (fun zc1 => ?_)
      · refine hy_return (i := 39) rfl rfl ?_
        exact ⟨rfl, ht⟩
      · omega
    | succ n ih =>
      intro k t1 z z2 hk ht
      refine hy_iload (i := 2) rfl rfl ?_
      refine hy_const (i := 3) rfl (by decide) ?_
      refine hy_ic_ge (i := 4) (tt := 39) rfl (fun zc1 => ?_) (fun zc1 => ?_)
      · omega
      · refine hy_iload (i := 5) rfl rfl ?_
        refine hy_iload (i := 6) rfl rfl ?_
        refine hy_cS2e (i := 7) rfl (by decide) mj_W_bit (by decide) rfl (Nat.le_of_ble_eq_true rfl) (c_W_bit) ?_
        refine hy_const (i := 8) rfl (by decide) ?_
        refine hy_icb_ne (i := 9) (tt := 37) rfl (fun zc2 => ?_) (fun zc2 => ?_)
        · refine hy_iinc (i := 37) rfl rfl (by omega) ?_
          refine hy_goto (i := 38) (tt := 2) rfl ?_
          exact ih (k + 1) _ _ _ (by omega) (by subst ht; simp only [sp_moveN]; first | rw [if_pos zc2, if_pos zc3] | rw [if_pos zc2, if_neg zc3] | rw [if_neg (by rw [zc2]; decide)])
        · refine hy_aload (i := 10) rfl rfl ?_
          refine hy_iload (i := 11) rfl rfl ?_
          refine hy_iload (i := 12) rfl rfl ?_
          refine hy_cV2e (i := 13) rfl mj_S_havers (by decide) rfl (Nat.le_of_ble_eq_true rfl) rfl rfl rfl (c_S_havers_41) ?_
          refine hy_istore (i := 14) rfl ?_
          refine hy_iload (i := 15) rfl rfl ?_
          refine hy_const (i := 16) rfl (by decide) ?_
          refine hy_ic_ne (i := 17) (tt := 20) rfl (fun zc3 => ?_) (fun zc3 => ?_)
          · refine hy_iload (i := 20) rfl rfl ?_
            refine hy_const (i := 21) rfl (by decide) ?_
            refine hy_iload (i := 22) rfl rfl ?_
            refine hy_ishl (i := 23) rfl ?_
            refine hy_const (i := 24) rfl (by decide) ?_
            refine hy_ixor (i := 25) rfl ?_
            refine hy_iand (i := 26) rfl ?_
            refine hy_istore (i := 27) rfl ?_
            refine hy_aload (i := 28) rfl rfl ?_
            refine hy_iload (i := 29) rfl rfl ?_
            refine hy_iload (i := 30) rfl rfl ?_
            refine hy_iload (i := 31) rfl rfl ?_
            refine hy_const (i := 32) rfl (by decide) ?_
            refine hy_iload (i := 33) rfl rfl ?_
            refine hy_ishl (i := 34) rfl ?_
            refine hy_ior (i := 35) rfl ?_
            refine hy_cV3v (i := 36) rfl mj_S_setHavers (by decide) rfl (Nat.le_of_ble_eq_true rfl) rfl rfl rfl (c_S_setHavers_41) ?_
            refine hy_iinc (i := 37) rfl rfl (by omega) ?_
            refine hy_goto (i := 38) (tt := 2) rfl ?_
            exact ih (k + 1) _ _ _ (by omega) (by subst ht; simp only [sp_moveN]; first | rw [if_pos zc2, if_pos zc3] | rw [if_pos zc2, if_neg zc3] | rw [if_neg (by rw [zc2]; decide)])
          · refine hy_iload (i := 18) rfl rfl ?_
            refine hy_goto (i := 19) (tt := 27) rfl ?_
            refine hy_istore (i := 27) rfl ?_
            refine hy_aload (i := 28) rfl rfl ?_
            refine hy_iload (i := 29) rfl rfl ?_
            refine hy_iload (i := 30) rfl rfl ?_
            refine hy_iload (i := 31) rfl rfl ?_
            refine hy_const (i := 32) rfl (by decide) ?_
            refine hy_iload (i := 33) rfl rfl ?_
            refine hy_ishl (i := 34) rfl ?_
            refine hy_ior (i := 35) rfl ?_
            refine hy_cV3v (i := 36) rfl mj_S_setHavers (by decide) rfl (Nat.le_of_ble_eq_true rfl) rfl rfl rfl (c_S_setHavers_41) ?_
            refine hy_iinc (i := 37) rfl rfl (by omega) ?_
            refine hy_goto (i := 38) (tt := 2) rfl ?_
            exact ih (k + 1) _ _ _ (by omega) (by subst ht; simp only [sp_moveN]; first | rw [if_pos zc2, if_pos zc3] | rw [if_pos zc2, if_neg zc3] | rw [if_neg (by rw [zc2]; decide)])
  refine hy_const (i := 0) rfl (by decide) ?_
  refine hy_istore (i := 1) rfl ?_
  exact loop 4 0 _ _ _ rfl rfl
end ST41
