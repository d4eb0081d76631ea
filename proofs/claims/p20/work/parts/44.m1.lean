/-! the model's methods: what is told, kept, counted -/
theorem hz_i2b_in (x : Int) : -128 ≤ hz_i2b x ∧ hz_i2b x ≤ 127 := by
  unfold hz_i2b
  have h1 := Int8.toInt_lt (Int32.ofInt x).toInt8
  have h2 := Int8.le_toInt (Int32.ofInt x).toInt8
  first | omega | (simp at h1 h2 ⊢; omega)
abbrev mf_plain (t : hy_T) (c : Int) : Bool := sp_told (t 59 0) c && decide (t 60 c.toNat = -1)
abbrev mf_mixed (t : hy_T) (c : Int) : Bool := sp_told (t 59 0) c && decide (t 60 c.toNat ≠ -1)
def mf_have (t : hy_T) (c q e : Int) : Bool := mf_plain t c && decide ((0 ≤ q ∧ q < 4) ∧ 0 ≤ e ∧ e < 64)
def mf_ty1 (t : hy_T) (v k : Int) : hy_T := hy_up (hy_up t 65 (t 59 9).toNat (hz_i2b (hz_ishr v (8 * k)))) 59 9 (t 59 9 + 1)
def mf_tyN (v : Int) : Nat → hy_T → hy_T
  | 0, t => t
  | m + 1, t => mf_tyN v m (mf_ty1 t v m)
def mf_feed (t : hy_T) (a b c d e : Int) : hy_T := mf_tyN e 4 (mf_tyN d 4 (mf_tyN c 4 (mf_tyN b 4 (mf_tyN a 4 t))))
theorem mf_tyN_l (v : Int) : ∀ (m : Nat) (t : hy_T), mf_tyN v m t 59 9 = t 59 9 + m
  | 0, t => by simp [mf_tyN]
  | m + 1, t => by
    simp only [mf_tyN]
    rw [mf_tyN_l v m, show mf_ty1 t v m 59 9 = t 59 9 + 1 from rfl]
    omega
def mf_pack1 (r : Nat) (t : hy_T) (k : Nat) : hy_T :=
  let t1 := hy_up t r (6 * k) (t 85 k)
  let t2 := hy_up t1 r (6 * k + 1) (t1 86 k)
  let t3 := hy_up t2 r (6 * k + 2) (t2 87 k)
  let t4 := hy_up t3 r (6 * k + 3) (t3 88 k)
  let t5 := hy_up t4 r (6 * k + 4) (t4 89 k)
  hy_up t5 r (6 * k + 5) (t5 90 k)
def mf_packN (r : Nat) (t : hy_T) : Nat → hy_T
  | 0 => t
  | k + 1 => mf_pack1 r (mf_packN r t k) k
def mf_unp1 (r : Nat) (t : hy_T) (k : Nat) : hy_T :=
  let t1 := hy_up t 85 k (t r (6 * k))
  let t2 := hy_up t1 86 k (t1 r (6 * k + 1))
  let t3 := hy_up t2 87 k (t2 r (6 * k + 2))
  let t4 := hy_up t3 88 k (t3 r (6 * k + 3))
  let t5 := hy_up t4 89 k (t4 r (6 * k + 4))
  hy_up t5 90 k (t5 r (6 * k + 5))
def mf_unpN (r : Nat) (t : hy_T) : Nat → hy_T
  | 0 => t
  | k + 1 => mf_unp1 r (mf_unpN r t k) k
def mf_set3 (t : hy_T) (a a' b b' c c' : Nat) : hy_T :=
  let t1 := hy_up t 59 a (t 59 a')
  let t2 := hy_up t1 59 b (t1 59 b')
  hy_up t2 59 c (t2 59 c')
def mf_begins (t : hy_T) : hy_T := mf_set3 (mf_packN 92 (hy_cp t 62 91 48) 16) 51 34 52 2 53 1
def mf_again (t : hy_T) : hy_T := mf_set3 (mf_unpN 92 (hy_cp t 91 62 48) 16) 34 51 2 52 1 53
def mf_keep (t : hy_T) : hy_T := mf_set3 (hy_cp (mf_packN 94 (hy_cp (hy_up t 59 57 1) 62 93 48) 16) 64 95 64) 54 34 55 2 56 1
def mf_undo (t : hy_T) : hy_T := mf_set3 (hy_cp (mf_unpN 94 (hy_cp t 93 62 48) 16) 95 64 64) 34 54 2 55 1 56
def mf_bitsN (x : Int) : Nat → Int
  | 0 => 0
  | k + 1 => mf_bitsN x k + hy_b (hz_b x k)
theorem hy_b_in (p : Bool) : 0 ≤ hy_b p ∧ hy_b p ≤ 1 := by cases p <;> decide
theorem mf_bitsN_in (x : Int) : ∀ k : Nat, 0 ≤ mf_bitsN x k ∧ mf_bitsN x k ≤ k
  | 0 => by simp [mf_bitsN]
  | k + 1 => by
    have h := mf_bitsN_in x k
    have h2 := hy_b_in (hz_b x k)
    simp only [mf_bitsN]
    omega
def mf_hadN (t : hy_T) (c : Int) : Nat → Int
  | 0 => 0
  | q + 1 => mf_hadN t c q + mf_bitsN (t 62 (4 * c + q).toNat) 12
theorem mf_hadN_in (t : hy_T) (c : Int) : ∀ k : Nat, 0 ≤ mf_hadN t c k ∧ mf_hadN t c k ≤ 12 * k
  | 0 => by simp [mf_hadN]
  | k + 1 => by
    have h := mf_hadN_in t c k
    have h2 := mf_bitsN_in (t 62 (4 * c + k).toNat) 12
    simp only [mf_hadN]
    omega
def mf_mixN (t : hy_T) : Nat → Int
  | 0 => 0
  | k + 1 => hz_ior (mf_mixN t k) (if mf_mixed t k = true then hz_ishl 1 k else 0)
def mf_numN (t : hy_T) (i : Nat) : Nat → Int
  | 0 => 0
  | j + 1 => hz_ior (hz_ishl (mf_numN t i j) 8) (hz_iand (t 65 (4 * i + j)) 255)
def mf_checkN (t : hy_T) : Nat → Nat → Int
  | 0, _ => -1
  | m + 1, k => if mf_numN t k 4 = t 64 k then mf_checkN t m (k + 1) else k
def mf_count (t : hy_T) (w : Int) : Int :=
  if w = 0 then t 59 0 else if w = 1 then mf_mixN t 12 else if w = 2 then t 59 18 else if w = 3 then t 59 9 else if w = 4 then t 59 1 else if w = 5 then t 59 2 else if w = 6 then t 59 34
  else if 10 ≤ w ∧ w ≤ 21 then (if mf_mixed t (w - 10) = true then 100 * t 60 (w - 10).toNat + t 61 (w - 10).toNat else -1)
  else if 100 ≤ w ∧ w ≤ 147 then (if mf_plain t ((w - 100) / 4) = true then t 62 (w - 100).toNat else -1)
  else if 200 ≤ w ∧ w ≤ 263 then t 63 (w - 200).toNat
  else if 300 ≤ w ∧ w ≤ 363 then t 64 (w - 300).toNat else -1
def mf_ch1 (t : hy_T) (c e s : Int) (q : Nat) : hy_T :=
  hy_up t 62 (4 * c + q).toNat (if s = 0 then hz_iand (t 62 (4 * c + q).toNat) (hz_ixor (hz_ishl 1 e) (-1)) else hz_ior (t 62 (4 * c + q).toNat) (hz_ishl 1 e))
def mf_chN (t : hy_T) (c w e s : Int) : Nat → hy_T
  | 0 => t
  | q + 1 => if hz_b w q = true then mf_ch1 (mf_chN t c w e s q) c e s q else mf_chN t c w e s q
section MA
variable {sc : List Int32} {t : hy_T}
theorem c_M_have {c q e : Int} : hy_Ct sc hm_M_have 3 [.inr (some 59), .inl c, .inl q, .inl e] t (hy_e (some (hy_b (mf_have t c q e))) (if mf_have t c q e = true then hy_up t 62 (4 * c + q).toNat e else t)) := by
  refine hy_mk_ct ok_M_have ck_M_have (Nat.le_of_ble_eq_true rfl) ?_
  by_cases hq : mf_have t c q e = true
  · have h2 := hq
    simp only [mf_have, mf_plain, Bool.and_eq_true, decide_eq_true_eq] at h2
    have h3 := sp_told_in h2.1.1
    rw [hq, if_pos rfl]
    refine hy_aload (i := 0) rfl rfl ?_
    refine hy_iload (i := 1) rfl rfl ?_
    refine hy_cV1e (i := 2) rfl mj_M_isPlain (by decide) rfl (Nat.le_of_ble_eq_true rfl) rfl rfl rfl (c_M_isPlain) ?_
    refine hy_ib_eq (i := 3) (tt := 12) rfl (fun zc1 => ?_) (fun zc1 => ?_)
    · simp_all
    · refine hy_iload (i := 4) rfl rfl ?_
      refine hy_cS1e (i := 5) rfl (by decide) mj_M_isQuarter (by decide) rfl (Nat.le_of_ble_eq_true rfl) (c_M_isQuarter) ?_
      refine hy_ib_eq (i := 6) (tt := 12) rfl (fun zc2 => ?_) (fun zc2 => ?_)
      · simp at zc2; omega
      · refine hy_iload (i := 7) rfl rfl ?_
        refine hy_const (i := 8) rfl (by decide) ?_
        refine hy_const (i := 9) rfl (by decide) ?_
        refine hy_cS3e (i := 10) rfl (by decide) mj_M_in (by decide) rfl (Nat.le_of_ble_eq_true rfl) (c_M_in) ?_
        refine hy_ib_ne (i := 11) (tt := 14) rfl (fun zc3 => ?_) (fun zc3 => ?_)
        · refine hy_aload (i := 14) rfl rfl ?_
          refine hy_getr (i := 15) rfl rfl ?_
          refine hy_const (i := 16) rfl (by decide) ?_
          refine hy_iload (i := 17) rfl rfl ?_
          refine hy_imul (i := 18) rfl (by omega) ?_
          refine hy_iload (i := 19) rfl rfl ?_
          refine hy_iadd (i := 20) rfl (by omega) ?_
          refine hy_iload (i := 21) rfl rfl ?_
          refine hy_iast (i := 22) rfl rfl (by omega) rfl ?_
          refine hy_const (i := 23) rfl (by decide) ?_
          refine hy_zreturn (i := 24) rfl rfl (by first | decide | exact hy_b01 _) ?_
          exact ⟨rfl, rfl⟩
        · simp at zc3; omega
  · rw [Bool.not_eq_true] at hq
    have h2 := hq
    rw [hq, if_neg (by decide)]
    refine hy_aload (i := 0) rfl rfl ?_
    refine hy_iload (i := 1) rfl rfl ?_
    refine hy_cV1e (i := 2) rfl mj_M_isPlain (by decide) rfl (Nat.le_of_ble_eq_true rfl) rfl rfl rfl (c_M_isPlain) ?_
    refine hy_ib_eq (i := 3) (tt := 12) rfl (fun zc1 => ?_) (fun zc1 => ?_)
    · refine hy_const (i := 12) rfl (by decide) ?_
      refine hy_zreturn (i := 13) rfl rfl (by first | decide | exact hy_b01 _) ?_
      exact ⟨rfl, rfl⟩
    · refine hy_iload (i := 4) rfl rfl ?_
      refine hy_cS1e (i := 5) rfl (by decide) mj_M_isQuarter (by decide) rfl (Nat.le_of_ble_eq_true rfl) (c_M_isQuarter) ?_
      refine hy_ib_eq (i := 6) (tt := 12) rfl (fun zc2 => ?_) (fun zc2 => ?_)
      · refine hy_const (i := 12) rfl (by decide) ?_
        refine hy_zreturn (i := 13) rfl rfl (by first | decide | exact hy_b01 _) ?_
        exact ⟨rfl, rfl⟩
      · refine hy_iload (i := 7) rfl rfl ?_
        refine hy_const (i := 8) rfl (by decide) ?_
        refine hy_const (i := 9) rfl (by decide) ?_
        refine hy_cS3e (i := 10) rfl (by decide) mj_M_in (by decide) rfl (Nat.le_of_ble_eq_true rfl) (c_M_in) ?_
        refine hy_ib_ne (i := 11) (tt := 14) rfl (fun zc3 => ?_) (fun zc3 => ?_)
        · exfalso; simp only [mf_have, mf_plain] at h2; rw [zc1, Bool.true_and] at h2; simp at h2 zc2 zc3; omega
        · refine hy_const (i := 12) rfl (by decide) ?_
          refine hy_zreturn (i := 13) rfl rfl (by first | decide | exact hy_b01 _) ?_
          exact ⟨rfl, rfl⟩
theorem c_M_owner {x y e : Int} : hy_Ct sc hm_M_owner 1 [.inr (some 59), .inl x, .inl y, .inl e] t (hy_e (some (hy_b (wf_owner x y e))) (if wf_owner x y e = true then hy_up t 64 (8 * y + x).toNat e else t)) := by
  refine hy_mk_ct ok_M_owner ck_M_owner (Nat.le_of_ble_eq_true rfl) ?_
  by_cases hq : wf_owner x y e = true
  · have h2 := hq
    simp only [wf_owner, decide_eq_true_eq] at h2
    rw [hq, if_pos rfl]
    refine hy_iload (i := 0) rfl rfl ?_
    refine hy_const (i := 1) rfl (by decide) ?_
    refine hy_const (i := 2) rfl (by decide) ?_
    refine hy_cS3e (i := 3) rfl (by decide) mj_M_in (by decide) rfl (Nat.le_of_ble_eq_true rfl) (c_M_in) ?_
    refine hy_ib_eq (i := 4) (tt := 15) rfl (fun zc1 => ?_) (fun zc1 => ?_)
    · simp at zc1; omega
    · refine hy_iload (i := 5) rfl rfl ?_
      refine hy_const (i := 6) rfl (by decide) ?_
      refine hy_const (i := 7) rfl (by decide) ?_
      refine hy_cS3e (i := 8) rfl (by decide) mj_M_in (by decide) rfl (Nat.le_of_ble_eq_true rfl) (c_M_in) ?_
      refine hy_ib_eq (i := 9) (tt := 15) rfl (fun zc2 => ?_) (fun zc2 => ?_)
      · simp at zc2; omega
      · refine hy_iload (i := 10) rfl rfl ?_
        refine hy_const (i := 11) rfl (by decide) ?_
        refine hy_const (i := 12) rfl (by decide) ?_
        refine hy_cS3e (i := 13) rfl (by decide) mj_M_in (by decide) rfl (Nat.le_of_ble_eq_true rfl) (c_M_in) ?_
        refine hy_ib_ne (i := 14) (tt := 17) rfl (fun zc3 => ?_) (fun zc3 => ?_)
        · refine hy_aload (i := 17) rfl rfl ?_
          refine hy_getr (i := 18) rfl rfl ?_
          refine hy_const (i := 19) rfl (by decide) ?_
          refine hy_iload (i := 20) rfl rfl ?_
          refine hy_imul (i := 21) rfl (by omega) ?_
          refine hy_iload (i := 22) rfl rfl ?_
          refine hy_iadd (i := 23) rfl (by omega) ?_
          refine hy_iload (i := 24) rfl rfl ?_
          refine hy_iast (i := 25) rfl rfl (by omega) rfl ?_
          refine hy_const (i := 26) rfl (by decide) ?_
          refine hy_zreturn (i := 27) rfl rfl (by first | decide | exact hy_b01 _) ?_
          exact ⟨rfl, rfl⟩
        · simp at zc3; omega
  · rw [Bool.not_eq_true] at hq
    have h2 := hq
    simp only [wf_owner, decide_eq_false_iff_not] at h2
    rw [hq, if_neg (by decide)]
    refine hy_iload (i := 0) rfl rfl ?_
    refine hy_const (i := 1) rfl (by decide) ?_
    refine hy_const (i := 2) rfl (by decide) ?_
    refine hy_cS3e (i := 3) rfl (by decide) mj_M_in (by decide) rfl (Nat.le_of_ble_eq_true rfl) (c_M_in) ?_
    refine hy_ib_eq (i := 4) (tt := 15) rfl (fun zc1 => ?_) (fun zc1 => ?_)
    · refine hy_const (i := 15) rfl (by decide) ?_
      refine hy_zreturn (i := 16) rfl rfl (by first | decide | exact hy_b01 _) ?_
      exact ⟨rfl, rfl⟩
    · refine hy_iload (i := 5) rfl rfl ?_
      refine hy_const (i := 6) rfl (by decide) ?_
      refine hy_const (i := 7) rfl (by decide) ?_
      refine hy_cS3e (i := 8) rfl (by decide) mj_M_in (by decide) rfl (Nat.le_of_ble_eq_true rfl) (c_M_in) ?_
      refine hy_ib_eq (i := 9) (tt := 15) rfl (fun zc2 => ?_) (fun zc2 => ?_)
      · refine hy_const (i := 15) rfl (by decide) ?_
        refine hy_zreturn (i := 16) rfl rfl (by first | decide | exact hy_b01 _) ?_
        exact ⟨rfl, rfl⟩
      · refine hy_iload (i := 10) rfl rfl ?_
        refine hy_const (i := 11) rfl (by decide) ?_
        refine hy_const (i := 12) rfl (by decide) ?_
        refine hy_cS3e (i := 13) rfl (by decide) mj_M_in (by decide) rfl (Nat.le_of_ble_eq_true rfl) (c_M_in) ?_
        refine hy_ib_ne (i := 14) (tt := 17) rfl (fun zc3 => ?_) (fun zc3 => ?_)
        · simp at zc1 zc2 zc3; omega
        · refine hy_const (i := 15) rfl (by decide) ?_
          refine hy_zreturn (i := 16) rfl rfl (by first | decide | exact hy_b01 _) ?_
          exact ⟨rfl, rfl⟩
theorem c_M_types {v : Int} (hl : 0 ≤ t 59 9 ∧ t 59 9 + 4 ≤ 260) : hy_Ct sc hm_M_types 0 [.inr (some 59), .inl v] t (hy_e none (mf_tyN v 4 t)) := by
  refine hy_mk_ct ok_M_types ck_M_types (Nat.le_of_ble_eq_true rfl) ?_
  have loop : ∀ (m : Nat), m ≤ 4 → ∀ (t1 : hy_T), (0 ≤ t1 59 9 ∧ t1 59 9 + m ≤ 260) → mf_tyN v m t1 = mf_tyN v 4 t → hy_W sc hm_M_types 0 2 [.inr (some 59), .inl v, .inl ((m : Int) - 1)] [] t1 (hy_e none (mf_tyN v 4 t)) := by
    intro m
    induction m with
    | zero =>
      intro hm t1 h1 he
      refine hy_iload (i := 2) rfl rfl ?_
      refine hy_if_lt (i := 3) (tt := 23) rfl (fun zc1 => ?_) (fun zc1 => ?_)
      · refine hy_return (i := 23) rfl rfl ?_
        exact ⟨rfl, he⟩
      · omega
    | succ m ih =>
      intro hm t1 h1 he
      rw [show (((m + 1 : Nat) : Int) - 1) = (m : Int) by omega]
      refine hy_iload (i := 2) rfl rfl ?_
      refine hy_if_lt (i := 3) (tt := 23) rfl (fun zc1 => ?_) (fun zc1 => ?_)
      · omega
      · refine hy_aload (i := 4) rfl rfl ?_
        refine hy_getr (i := 5) rfl rfl ?_
        refine hy_aload (i := 6) rfl rfl ?_
        refine hy_get (i := 7) (fk := 9) rfl rfl rfl ?_
        refine hy_iload (i := 8) rfl rfl ?_
        refine hy_const (i := 9) rfl (by decide) ?_
        refine hy_iload (i := 10) rfl rfl ?_
        refine hy_imul (i := 11) rfl (by omega) ?_
        refine hy_ishr (i := 12) rfl ?_
        refine hy_i2b (i := 13) rfl ?_
        refine hy_bast (i := 14) rfl rfl (by omega) rfl (hz_i2b_in _) ?_
        refine hy_aload (i := 15) rfl rfl ?_
        refine hy_aload (i := 16) rfl rfl ?_
        refine hy_get (i := 17) (fk := 9) rfl rfl rfl ?_
        rw [show ∀ (u : hy_T) (i : Nat) (x : Int), hy_up u 65 i x 59 9 = u 59 9 from fun _ _ _ => rfl]
        refine hy_const (i := 18) rfl (by decide) ?_
        refine hy_iadd (i := 19) rfl (by omega) ?_
        refine hy_put (i := 20) (fk := 9) rfl rfl rfl rfl ?_
        refine hy_iinc (i := 21) rfl rfl (by omega) ?_
        refine hy_goto (i := 22) (tt := 2) rfl ?_
        rw [show (m : Int) + -1 = (m : Int) - 1 by omega]
        exact ih (by omega) _ (by show 0 ≤ t1 59 9 + 1 ∧ t1 59 9 + 1 + m ≤ 260; omega) he
  refine hy_const (i := 0) rfl (by decide) ?_
  refine hy_istore (i := 1) rfl ?_
  exact loop 4 (by decide) t (by omega) rfl
theorem c_M_feed {a b c d e : Int} (hl : 0 ≤ t 59 9 ∧ t 59 9 ≤ 260) : hy_Ct sc hm_M_feed 1 [.inr (some 59), .inl a, .inl b, .inl c, .inl d, .inl e] t (hy_e (some (if t 59 9 ≤ 240 then t 59 9 + 20 else -1)) (if t 59 9 ≤ 240 then mf_feed t a b c d e else t)) := by
  refine hy_mk_ct ok_M_feed ck_M_feed (Nat.le_of_ble_eq_true rfl) ?_
  by_cases hq : t 59 9 ≤ 240
  · rw [if_pos hq, if_pos hq]
    have h1 := mf_tyN_l a 4 t
    have h2 := mf_tyN_l b 4 (mf_tyN a 4 t)
    have h3 := mf_tyN_l c 4 (mf_tyN b 4 (mf_tyN a 4 t))
    have h4 := mf_tyN_l d 4 (mf_tyN c 4 (mf_tyN b 4 (mf_tyN a 4 t)))
    have h5 := mf_tyN_l e 4 (mf_tyN d 4 (mf_tyN c 4 (mf_tyN b 4 (mf_tyN a 4 t))))
    refine hy_aload (i := 0) rfl rfl ?_
    refine hy_get (i := 1) (fk := 9) rfl rfl rfl ?_
    refine hy_const (i := 2) rfl (by decide) ?_
    refine hy_iadd (i := 3) rfl (by omega) ?_
    refine hy_const (i := 4) rfl (by decide) ?_
    refine hy_ic_le (i := 5) (tt := 8) rfl (fun zc1 => ?_) (fun zc1 => ?_)
    · refine hy_aload (i := 8) rfl rfl ?_
      refine hy_iload (i := 9) rfl rfl ?_
      refine hy_cV1v (i := 10) rfl mj_M_types (by decide) rfl (Nat.le_of_ble_eq_true rfl) rfl rfl rfl (c_M_types (by omega)) ?_
      refine hy_aload (i := 11) rfl rfl ?_
      refine hy_iload (i := 12) rfl rfl ?_
      refine hy_cV1v (i := 13) rfl mj_M_types (by decide) rfl (Nat.le_of_ble_eq_true rfl) rfl rfl rfl (c_M_types (by omega)) ?_
      refine hy_aload (i := 14) rfl rfl ?_
      refine hy_iload (i := 15) rfl rfl ?_
      refine hy_cV1v (i := 16) rfl mj_M_types (by decide) rfl (Nat.le_of_ble_eq_true rfl) rfl rfl rfl (c_M_types (by omega)) ?_
      refine hy_aload (i := 17) rfl rfl ?_
      refine hy_iload (i := 18) rfl rfl ?_
      refine hy_cV1v (i := 19) rfl mj_M_types (by decide) rfl (Nat.le_of_ble_eq_true rfl) rfl rfl rfl (c_M_types (by omega)) ?_
      refine hy_aload (i := 20) rfl rfl ?_
      refine hy_iload (i := 21) rfl rfl ?_
      refine hy_cV1v (i := 22) rfl mj_M_types (by decide) rfl (Nat.le_of_ble_eq_true rfl) rfl rfl rfl (c_M_types (by omega)) ?_
      refine hy_aload (i := 23) rfl rfl ?_
      refine hy_get (i := 24) (fk := 9) rfl rfl rfl ?_
      refine hy_ireturn (i := 25) rfl rfl ?_
      exact ⟨congrArg some (by omega), rfl⟩
    · omega
  · rw [if_neg hq, if_neg hq]
    refine hy_aload (i := 0) rfl rfl ?_
    refine hy_get (i := 1) (fk := 9) rfl rfl rfl ?_
    refine hy_const (i := 2) rfl (by decide) ?_
    refine hy_iadd (i := 3) rfl (by omega) ?_
    refine hy_const (i := 4) rfl (by decide) ?_
    refine hy_ic_le (i := 5) (tt := 8) rfl (fun zc1 => ?_) (fun zc1 => ?_)
    · omega
    · refine hy_const (i := 6) rfl (by decide) ?_
      refine hy_ireturn (i := 7) rfl rfl ?_
      exact ⟨rfl, rfl⟩
theorem c_M_seed {x : Int} : hy_Ct sc hm_M_seed 1 [.inr (some 59), .inl x] t (hy_e (some (hy_b (wf_seed x))) (if wf_seed x = true then hy_up t 59 1 x else t)) := by
  refine hy_mk_ct ok_M_seed ck_M_seed (Nat.le_of_ble_eq_true rfl) ?_
  by_cases hq : wf_seed x = true
  · have h2 := hq
    simp only [wf_seed, decide_eq_true_eq] at h2
    rw [hq, if_pos rfl]
    refine hy_iload (i := 0) rfl rfl ?_
    refine hy_const (i := 1) rfl (by decide) ?_
    refine hy_const (i := 2) rfl (by decide) ?_
    refine hy_cS3e (i := 3) rfl (by decide) mj_M_in (by decide) rfl (Nat.le_of_ble_eq_true rfl) (c_M_in) ?_
    refine hy_ib_ne (i := 4) (tt := 7) rfl (fun zc1 => ?_) (fun zc1 => ?_)
    · refine hy_aload (i := 7) rfl rfl ?_
      refine hy_iload (i := 8) rfl rfl ?_
      refine hy_put (i := 9) (fk := 1) rfl rfl rfl rfl ?_
      refine hy_const (i := 10) rfl (by decide) ?_
      refine hy_zreturn (i := 11) rfl rfl (by first | decide | exact hy_b01 _) ?_
      exact ⟨rfl, rfl⟩
    · simp at zc1; omega
  · rw [Bool.not_eq_true] at hq
    have h2 := hq
    simp only [wf_seed, decide_eq_false_iff_not] at h2
    rw [hq, if_neg (by decide)]
    refine hy_iload (i := 0) rfl rfl ?_
    refine hy_const (i := 1) rfl (by decide) ?_
    refine hy_const (i := 2) rfl (by decide) ?_
    refine hy_cS3e (i := 3) rfl (by decide) mj_M_in (by decide) rfl (Nat.le_of_ble_eq_true rfl) (c_M_in) ?_
    refine hy_ib_ne (i := 4) (tt := 7) rfl (fun zc1 => ?_) (fun zc1 => ?_)
    · simp at zc1; omega
    · refine hy_const (i := 5) rfl (by decide) ?_
      refine hy_zreturn (i := 6) rfl rfl (by first | decide | exact hy_b01 _) ?_
      exact ⟨rfl, rfl⟩
theorem hy_cp_s {r0 r1 k : Nat} (hne : r0 ≠ r1) : hy_up (hy_cp t r0 r1 k) r1 k (hy_cp t r0 r1 k r0 k) = hy_cp t r0 r1 (k + 1) := by
  funext r j
  simp only [hy_up, hy_cp]
  by_cases hr : r = r1
  · by_cases hj : j = k
    · subst hj; rw [if_pos ⟨hr, rfl⟩, if_neg (fun h => hne h.1), if_pos ⟨hr, by omega⟩]
    · rw [if_neg (fun h => hj h.2)]
      by_cases hk : j < k
      · rw [if_pos ⟨hr, hk⟩, if_pos ⟨hr, by omega⟩]
      · rw [if_neg (fun h => hk h.2), if_neg (fun h => by omega)]
  · rw [if_neg (fun h => hr h.1), if_neg (fun h => hr h.1), if_neg (fun h => hr h.1)]
theorem hy_cp_0 {r0 r1 : Nat} : hy_cp t r0 r1 0 = t := by
  funext r j
  simp [hy_cp]
theorem c_M_copies {r0 r1 n0 n1 : Nat} {n : Int} (ha0 : hy_arr r0 = some (0, n0)) (ha1 : hy_arr r1 = some (0, n1)) (hn : 0 ≤ n ∧ n ≤ n0 ∧ n ≤ n1 ∧ n ≤ 1000) (hne : r0 ≠ r1) : hy_Ct sc hm_M_copies 0 [.inr (some r0), .inr (some r1), .inl n] t (hy_e none (hy_cp t r0 r1 n.toNat)) := by
  refine hy_mk_ct ok_M_copies ck_M_copies (Nat.le_of_ble_eq_true rfl) ?_
  have loop : ∀ (m : Nat), ∀ (k : Nat) (t1 : hy_T), m + k = n.toNat → t1 = hy_cp t r0 r1 k → hy_W sc hm_M_copies 0 2 [.inr (some r0), .inr (some r1), .inl n, .inl (k : Int)] [] t1 (hy_e none (hy_cp t r0 r1 n.toNat)) := by
    intro m
    induction m with
    | zero =>
      intro k t1 hm ht
      obtain rfl : k = n.toNat := by omega
      refine hy_iload (i := 2) rfl rfl ?_
      refine hy_iload (i := 3) rfl rfl ?_
      refine hy_ic_ge (i := 4) (tt := 13) rfl (fun zc1 => ?_) (fun zc1 => ?_)
      · refine hy_return (i := 13) rfl rfl ?_
        exact ⟨rfl, ht⟩
      · omega
    | succ m ih =>
      intro k t1 hm ht
      refine hy_iload (i := 2) rfl rfl ?_
      refine hy_iload (i := 3) rfl rfl ?_
      refine hy_ic_ge (i := 4) (tt := 13) rfl (fun zc1 => ?_) (fun zc1 => ?_)
      · omega
      · refine hy_aload (i := 5) rfl rfl ?_
        refine hy_iload (i := 6) rfl rfl ?_
        refine hy_aload (i := 7) rfl rfl ?_
        refine hy_iload (i := 8) rfl rfl ?_
        refine hy_iald (i := 9) rfl ha0 (by omega) (k := k) (by omega) ?_
        refine hy_iast (i := 10) rfl ha1 (by omega) (k := k) (by omega) ?_
        refine hy_iinc (i := 11) rfl rfl (by omega) ?_
        refine hy_goto (i := 12) (tt := 2) rfl ?_
        exact ih (k + 1) _ (by omega) (by rw [ht]; exact hy_cp_s hne)
  refine hy_const (i := 0) rfl (by decide) ?_
  refine hy_istore (i := 1) rfl ?_
  exact loop n.toNat 0 t rfl hy_cp_0.symm
theorem c_M_packs {r : Nat} (ha : hy_arr r = some (0, 96)) : hy_Ct sc hm_M_packs 0 [.inr (some 59), .inr (some r)] t (hy_e none (mf_packN r t 16)) := by
  refine hy_mk_ct ok_M_packs ck_M_packs (Nat.le_of_ble_eq_true rfl) ?_
  have loop : ∀ (m : Nat), ∀ (k : Nat) (t1 : hy_T), m + k = 16 → t1 = mf_packN r t k → hy_W sc hm_M_packs 0 2 [.inr (some 59), .inr (some r), .inl (k : Int)] [] t1 (hy_e none (mf_packN r t 16)) := by
    intro m
    induction m with
    | zero =>
      intro k t1 hm ht
      obtain rfl : k = 16 := by omega
      refine hy_iload (i := 2) rfl rfl ?_
      refine hy_const (i := 3) rfl (by decide) ?_
      refine hy_ic_ge (i := 4) (tt := 71) rfl (fun zc1 => ?_) (fun zc1 => ?_)
      · refine hy_return (i := 71) rfl rfl ?_
        exact ⟨rfl, ht⟩
      · omega
    | succ m ih =>
      intro k t1 hm ht
      refine hy_iload (i := 2) rfl rfl ?_
      refine hy_const (i := 3) rfl (by decide) ?_
      refine hy_ic_ge (i := 4) (tt := 71) rfl (fun zc1 => ?_) (fun zc1 => ?_)
      · omega
      · refine hy_aload (i := 5) rfl rfl ?_
        refine hy_const (i := 6) rfl (by decide) ?_
        refine hy_iload (i := 7) rfl rfl ?_
        refine hy_imul (i := 8) rfl (by omega) ?_
        refine hy_aload (i := 9) rfl rfl ?_
        refine hy_getr (i := 10) rfl rfl ?_
        refine hy_iload (i := 11) rfl rfl ?_
        refine hy_iald (i := 12) rfl rfl (by omega) (k := k) (by omega) ?_
        refine hy_iast (i := 13) rfl ha (by omega) (k := 6 * k) (by omega) ?_
        refine hy_aload (i := 14) rfl rfl ?_
        refine hy_const (i := 15) rfl (by decide) ?_
        refine hy_iload (i := 16) rfl rfl ?_
        refine hy_imul (i := 17) rfl (by omega) ?_
        refine hy_const (i := 18) rfl (by decide) ?_
        refine hy_iadd (i := 19) rfl (by omega) ?_
        refine hy_aload (i := 20) rfl rfl ?_
        refine hy_getr (i := 21) rfl rfl ?_
        refine hy_iload (i := 22) rfl rfl ?_
        refine hy_iald (i := 23) rfl rfl (by omega) (k := k) (by omega) ?_
        refine hy_iast (i := 24) rfl ha (by omega) (k := 6 * k + 1) (by omega) ?_
        refine hy_aload (i := 25) rfl rfl ?_
        refine hy_const (i := 26) rfl (by decide) ?_
        refine hy_iload (i := 27) rfl rfl ?_
        refine hy_imul (i := 28) rfl (by omega) ?_
        refine hy_const (i := 29) rfl (by decide) ?_
        refine hy_iadd (i := 30) rfl (by omega) ?_
        refine hy_aload (i := 31) rfl rfl ?_
        refine hy_getr (i := 32) rfl rfl ?_
        refine hy_iload (i := 33) rfl rfl ?_
        refine hy_iald (i := 34) rfl rfl (by omega) (k := k) (by omega) ?_
        refine hy_iast (i := 35) rfl ha (by omega) (k := 6 * k + 2) (by omega) ?_
        refine hy_aload (i := 36) rfl rfl ?_
        refine hy_const (i := 37) rfl (by decide) ?_
        refine hy_iload (i := 38) rfl rfl ?_
        refine hy_imul (i := 39) rfl (by omega) ?_
        refine hy_const (i := 40) rfl (by decide) ?_
        refine hy_iadd (i := 41) rfl (by omega) ?_
        refine hy_aload (i := 42) rfl rfl ?_
        refine hy_getr (i := 43) rfl rfl ?_
        refine hy_iload (i := 44) rfl rfl ?_
        refine hy_iald (i := 45) rfl rfl (by omega) (k := k) (by omega) ?_
        refine hy_iast (i := 46) rfl ha (by omega) (k := 6 * k + 3) (by omega) ?_
        refine hy_aload (i := 47) rfl rfl ?_
        refine hy_const (i := 48) rfl (by decide) ?_
        refine hy_iload (i := 49) rfl rfl ?_
        refine hy_imul (i := 50) rfl (by omega) ?_
        refine hy_const (i := 51) rfl (by decide) ?_
        refine hy_iadd (i := 52) rfl (by omega) ?_
        refine hy_aload (i := 53) rfl rfl ?_
        refine hy_getr (i := 54) rfl rfl ?_
        refine hy_iload (i := 55) rfl rfl ?_
        refine hy_iald (i := 56) rfl rfl (by omega) (k := k) (by omega) ?_
        refine hy_iast (i := 57) rfl ha (by omega) (k := 6 * k + 4) (by omega) ?_
        refine hy_aload (i := 58) rfl rfl ?_
        refine hy_const (i := 59) rfl (by decide) ?_
        refine hy_iload (i := 60) rfl rfl ?_
        refine hy_imul (i := 61) rfl (by omega) ?_
        refine hy_const (i := 62) rfl (by decide) ?_
        refine hy_iadd (i := 63) rfl (by omega) ?_
        refine hy_aload (i := 64) rfl rfl ?_
        refine hy_getr (i := 65) rfl rfl ?_
        refine hy_iload (i := 66) rfl rfl ?_
        refine hy_iald (i := 67) rfl rfl (by omega) (k := k) (by omega) ?_
        refine hy_iast (i := 68) rfl ha (by omega) (k := 6 * k + 5) (by omega) ?_
        refine hy_iinc (i := 69) rfl rfl (by omega) ?_
        refine hy_goto (i := 70) (tt := 2) rfl ?_
        exact ih (k + 1) _ (by omega) (by rw [ht]; rfl)
  refine hy_const (i := 0) rfl (by decide) ?_
  refine hy_istore (i := 1) rfl ?_
  exact loop 16 0 t rfl rfl
end MA
