/-! the model: seas of any land -/
abbrev se_in (t : hy_T) : Prop := ∀ f : Nat, f < 64 → -1 ≤ t 102 f ∧ t 102 f ≤ 63
abbrev seX : Nat → Nat → Bool := fun r _ => r == 102
theorem mf_joins_s {t : hy_T} {a : Nat} {b : Int} (ha : a < 64) (hb : -1 ≤ b ∧ b < 64) (hin : se_in t) : hy_F seX t (mf_joins t a b).2 ∧ se_in (mf_joins t a b).2 ∧ ((mf_joins t a b).1 = false → (mf_joins t a b).2 = t) ∧ pc_sum ((mf_joins t a b).2 102) 64 ≤ pc_sum (t 102) 64 ∧ ((mf_joins t a b).1 = true → pc_sum ((mf_joins t a b).2 102) 64 < pc_sum (t 102) 64) := by
  unfold mf_joins
  split
  · exact ⟨hy_F.rf, hin, fun _ => rfl, Int.le_refl _, fun h => by cases h⟩
  · next hc =>
    simp only [not_or] at hc
    obtain ⟨c1, c2, c3, c4⟩ := hc
    rw [show (a : Int).toNat = a from rfl] at c2 c4 ⊢
    have h1 := hin a ha
    have h2 := hin b.toNat (by omega)
    have hne : a ≠ b.toNat := fun h => c4 (by rw [← h])
    have hmin : ∀ m : Int, m = (if t 102 a < t 102 b.toNat then t 102 a else t 102 b.toNat) → (m ≤ t 102 a ∧ m ≤ t 102 b.toNat ∧ m + m < t 102 a + t 102 b.toNat ∧ -1 ≤ m) := by
      intro m hm
      rw [hm]
      split <;> omega
    generalize hm : (if t 102 a < t 102 b.toNat then t 102 a else t 102 b.toNat) = m
    obtain ⟨m1, m2, m3, m4⟩ := hmin m hm.symm
    have hs : pc_sum ((hy_up (hy_up t 102 a m) 102 b.toNat m) 102) 64 < pc_sum (t 102) 64 := by
      rw [hy_up_row, hy_up_row, pc_sum_su, pc_sum_su, if_pos ha, if_pos (by omega)]
      simp only [su]
      rw [if_neg (fun h => hne h.symm)]
      omega
    refine ⟨(hy_F.rf.up rfl).up rfl, fun f hf => ?_, (fun h => by cases h), Int.le_of_lt hs, fun _ => hs⟩
    have := hin f hf
    simp only [hy_up]
    split
    · omega
    · split
      · omega
      · exact this
theorem mf_seaP_s {t : hy_T} (hin : se_in t) : ∀ n : Nat, n ≤ 64 → hy_F seX t (mf_seaP t n).2 ∧ se_in (mf_seaP t n).2 ∧ ((mf_seaP t n).1 = false → (mf_seaP t n).2 = t) ∧ pc_sum ((mf_seaP t n).2 102) 64 ≤ pc_sum (t 102) 64 ∧ ((mf_seaP t n).1 = true → pc_sum ((mf_seaP t n).2 102) 64 < pc_sum (t 102) 64)
  | 0, _ => ⟨hy_F.rf, hin, fun _ => rfl, Int.le_refl _, fun h => by cases h⟩
  | n + 1, hn => by
    obtain ⟨i1, i2, i3, i4, i5⟩ := mf_seaP_s hin n (by omega)
    have hb0 := pa_beside_in (f := (n : Int)) (by omega) 0
    have hb2 := pa_beside_in (f := (n : Int)) (by omega) 2
    obtain ⟨j1, j2, j3, j4, j5⟩ := mf_joins_s (a := n) (b := pa_beside n 0) (by omega) hb0 i2
    obtain ⟨k1, k2, k3, k4, k5⟩ := mf_joins_s (a := n) (b := pa_beside n 2) (by omega) hb2 j2
    have f2 : (mf_seaP t (n + 1)).2 = (mf_joins (mf_joins (mf_seaP t n).2 n (pa_beside n 0)).2 n (pa_beside n 2)).2 := rfl
    have f1 : (mf_seaP t (n + 1)).1 = ((mf_joins (mf_joins (mf_seaP t n).2 n (pa_beside n 0)).2 n (pa_beside n 2)).1 || ((mf_joins (mf_seaP t n).2 n (pa_beside n 0)).1 || (mf_seaP t n).1)) := rfl
    rw [f1, f2]
    refine ⟨(i1.tr' j1).tr' k1, k2, fun h => ?_, by omega, fun h => ?_⟩
    · simp only [Bool.or_eq_false_iff] at h
      rw [k3 h.1, j3 h.2.1, i3 h.2.2]
    · simp only [Bool.or_eq_true] at h
      rcases h with h | h | h
      · have := k5 h; omega
      · have := j5 h; omega
      · have := i5 h; omega
def mf_fix : Nat → hy_T → hy_T
  | 0, t => t
  | n + 1, t => if (mf_seaP t 64).1 = true then mf_fix n (mf_seaP t 64).2 else (mf_seaP t 64).2
theorem mf_fix_s : ∀ (n : Nat) {t : hy_T}, se_in t → hy_F seX t (mf_fix n t) ∧ se_in (mf_fix n t)
  | 0, t, h => ⟨hy_F.rf, h⟩
  | n + 1, t, h => by
    obtain ⟨i1, i2, -, -, -⟩ := mf_seaP_s h 64 (Nat.le_refl _)
    simp only [mf_fix]
    split
    · obtain ⟨a1, a2⟩ := mf_fix_s n i2
      exact ⟨i1.tr' a1, a2⟩
    · exact ⟨i1, i2⟩
theorem mf_sea0N_in (t : hy_T) : ∀ n : Nat, n ≤ 64 → ∀ f : Nat, f < n → -1 ≤ mf_sea0N t n 102 f ∧ mf_sea0N t n 102 f ≤ 63
  | 0, _, f, h => absurd h (by omega)
  | n + 1, hn, f, h => by
    simp only [mf_sea0N, hy_up]
    split
    · split <;> omega
    · next hc => exact mf_sea0N_in t n (by omega) f (by have : ¬ f = n := fun q => hc ⟨trivial, q⟩; omega)
def ma_allN (S : Nat → Int) : Nat → Int
  | 0 => 0
  | n + 1 => ma_allN S n + (if S n = -1 then 0 else 1)
def ma_cntN (S : Nat → Int) (f : Int) : Nat → Int
  | 0 => 0
  | n + 1 => ma_cntN S f n + (if S n = f then 1 else 0)
def ma_seaN (S : Nat → Int) : Nat → Int
  | 0 => 0
  | n + 1 => ma_seaN S n + (if S n = n then 1 else 0)
def ma_mostN (S : Nat → Int) : Nat → Int
  | 0 => 0
  | n + 1 => if S n = n then (if ma_cntN S n 64 < ma_mostN S n then ma_mostN S n else ma_cntN S n 64) else ma_mostN S n
theorem ma_in (S : Nat → Int) : ∀ n : Nat, (0 ≤ ma_allN S n ∧ ma_allN S n ≤ n) ∧ (0 ≤ ma_seaN S n ∧ ma_seaN S n ≤ n)
  | 0 => by simp [ma_allN, ma_seaN]
  | n + 1 => by
    have h := ma_in S n
    simp only [ma_allN, ma_seaN]
    refine ⟨?_, ?_⟩ <;> split <;> omega
theorem ma_cntN_in (S : Nat → Int) (f : Int) : ∀ n : Nat, 0 ≤ ma_cntN S f n ∧ ma_cntN S f n ≤ n
  | 0 => by simp [ma_cntN]
  | n + 1 => by
    have h := ma_cntN_in S f n
    simp only [ma_cntN]
    split <;> omega
def ma_ans (S : Nat → Int) (w : Int) : Int := if w = 0 then ma_allN S 64 else if w = 1 then ma_mostN S 64 else ma_seaN S 64
abbrev ma_c (e q w : Int) : Prop := (0 ≤ e ∧ e < 6) ∧ (0 ≤ q ∧ q < 4) ∧ 0 ≤ w ∧ w ≤ 2
abbrev maX : Nat → Nat → Bool := fun r j => meX r j || r == 102
section MSE
variable {sc : List Int32} {t : hy_T}
theorem c_M_laysSeas (hg : mg_ok t) : hy_Ct sc hm_M_laysSeas 2 [.inr (some 59)] t (hy_e none (mf_fix 5000 (mf_sea0N t 64))) := by
  have loop : ∀ (N : Nat), ∀ (t1 : hy_T) (v2 : hy_V) (R : hy_T), se_in t1 → pc_sum (t1 102) 64 + 64 < N → mf_fix N t1 = R → hy_W sc hm_M_laysSeas 2 25 [.inr (some 59), .inl 1, v2] [] t1 (hy_e none R) := by
    intro N
    induction N with
    | zero =>
      intro t1 v2 R hin hs hv
      have := (pc_sum_le (C := t1 102) 64 hin).1
      omega
    | succ N ih =>
      intro t1 v2 R hin hs hv
      obtain ⟨i1, i2, i3, i4, i5⟩ := mf_seaP_s hin 64 (Nat.le_refl _)
      simp only [mf_fix] at hv
      refine c_M_seaPass ?_
      by_cases hx : (mf_seaP t1 64).1 = true
      · rw [if_pos hx] at hv
        have := i5 hx
        have q := ih (mf_seaP t1 64).2 (.inl 64) R i2 (by omega) hv
        rw [hx]
        exact q
      · rw [if_neg hx] at hv
        rw [Bool.not_eq_true] at hx
        rw [hx]
        refine hy_iload (i := 25) rfl rfl ?_
        refine hy_if_eq (i := 26) (tt := 65) rfl (fun zc1 => ?_) (fun zc1 => ?_)
        · refine hy_return (i := 65) rfl rfl ?_
          exact ⟨rfl, hv⟩
        · exact absurd rfl zc1
  have h0 : se_in (mf_sea0N t 64) := fun f hf => mf_sea0N_in t 64 (Nat.le_refl _) f hf
  have hs := (pc_sum_le (C := mf_sea0N t 64 102) 64 h0).2
  exact c_M_laysSeasOf hg (loop 5000 _ _ _ h0 (by omega) rfl)
theorem c_M_ash {e q w : Int} (hk : ml_ok t) (hp : me_pal t) (hg : mg_ok t) : hy_Ct sc hm_M_ash 7 [.inr (some 59), .inl e, .inl q, .inl w] t (fun r t' => r = some (if ma_c e q w then ma_ans (t' 102) w else -1) ∧ hy_F maX t t' ∧ (ma_c e q w → ∃ t1 : hy_T, hy_F meX t t1 ∧ (∀ j : Nat, j ≤ 12 → t1 79 j = mq_as t e q j) ∧ t' = mf_fix 5000 (mf_sea0N t1 64))) := by
  refine hy_mk_ct ok_M_ash ck_M_ash (Nat.le_of_ble_eq_true rfl) ?_
  by_cases hq : ma_c e q w
  · simp only [if_pos hq]
    have loop : ∀ (t1 t2 : hy_T), hy_F meX t t1 → (∀ j : Nat, j ≤ 12 → t1 79 j = mq_as t e q j) → t2 = mf_fix 5000 (mf_sea0N t1 64) → ∀ (m : Nat), ∀ (k : Nat) (v8 v9 : hy_V), m + k = 64 → hy_W sc hm_M_ash 7 27 [.inr (some 59), .inl e, .inl q, .inl w, .inl (ma_allN (t2 102) k), .inl (ma_seaN (t2 102) k), .inl (ma_mostN (t2 102) k), .inl (k : Int), v8, v9] [] t2 (fun r t' => r = some (ma_ans (t' 102) w) ∧ hy_F maX t t' ∧ (ma_c e q w → ∃ t1 : hy_T, hy_F meX t t1 ∧ (∀ j : Nat, j ≤ 12 → t1 79 j = mq_as t e q j) ∧ t' = mf_fix 5000 (mf_sea0N t1 64))) := by
      intro t1 t2 hF hA ht m
      have hF2 : hy_F maX t t2 := by
        rw [ht]
        refine (hF.w (fun r j q => by revert q; simp [maX, meX]; omega)).tr' (((mf_sea0N_F t1 64).w (fun r j q => by revert q; simp [maX, meX])).tr' ?_)
        exact (mf_fix_s 5000 (fun f hf => mf_sea0N_in t1 64 (Nat.le_refl _) f hf)).1.w (fun r j q => by revert q; simp [maX, meX])
      induction m with
      | zero =>
        intro k v8 v9 hm
        obtain rfl : k = 64 := by omega
        refine hy_iload (i := 27) rfl rfl ?_
        refine hy_const (i := 28) rfl (by decide) ?_
        refine hy_ic_ge (i := 29) (tt := 80) rfl (fun zc1 => ?_) (fun zc1 => ?_)
        · refine hy_iload (i := 80) rfl rfl ?_
          refine hy_if_ne (i := 81) (tt := 84) rfl (fun zc2 => ?_) (fun zc2 => ?_)
          · refine hy_iload (i := 84) rfl rfl ?_
            refine hy_const (i := 85) rfl (by decide) ?_
            refine hy_ic_ne (i := 86) (tt := 89) rfl (fun zc3 => ?_) (fun zc3 => ?_)
            · refine hy_iload (i := 89) rfl rfl ?_
              refine hy_ireturn (i := 90) rfl rfl ?_
              refine ⟨congrArg some ?_, hF2, fun _ => ⟨t1, hF, hA, ht⟩⟩
              unfold ma_ans
              (repeat (first | rw [if_pos (by omega)] | rw [if_neg (by omega)]))
            · refine hy_iload (i := 87) rfl rfl ?_
              refine hy_goto (i := 88) (tt := 90) rfl ?_
              refine hy_ireturn (i := 90) rfl rfl ?_
              refine ⟨congrArg some ?_, hF2, fun _ => ⟨t1, hF, hA, ht⟩⟩
              unfold ma_ans
              (repeat (first | rw [if_pos (by omega)] | rw [if_neg (by omega)]))
          · refine hy_iload (i := 82) rfl rfl ?_
            refine hy_goto (i := 83) (tt := 90) rfl ?_
            refine hy_ireturn (i := 90) rfl rfl ?_
            refine ⟨congrArg some ?_, hF2, fun _ => ⟨t1, hF, hA, ht⟩⟩
            unfold ma_ans
            (repeat (first | rw [if_pos (by omega)] | rw [if_neg (by omega)]))
        · omega
      | succ m ih =>
        intro k v8 v9 hm
        have hin := ma_in (t2 102) k
        have a1 : ma_allN (t2 102) (k + 1) = ma_allN (t2 102) k + (if t2 102 k = -1 then 0 else 1) := rfl
        have a2 : ma_seaN (t2 102) (k + 1) = ma_seaN (t2 102) k + (if t2 102 k = k then 1 else 0) := rfl
        have a3 : ma_mostN (t2 102) (k + 1) = if t2 102 k = k then (if ma_cntN (t2 102) k 64 < ma_mostN (t2 102) k then ma_mostN (t2 102) k else ma_cntN (t2 102) k 64) else ma_mostN (t2 102) k := rfl
        have inner : ∀ (x : Int), x = ma_allN (t2 102) (k + 1) → t2 102 k = k → ∀ (m2 : Nat), ∀ (j : Nat), m2 + j = 64 → hy_W sc hm_M_ash 7 53 [.inr (some 59), .inl e, .inl q, .inl w, .inl x, .inl (ma_seaN (t2 102) k), .inl (ma_mostN (t2 102) k), .inl (k : Int), .inl (ma_cntN (t2 102) k j), .inl (j : Int)] [] t2 (fun r t' => r = some (ma_ans (t' 102) w) ∧ hy_F maX t t' ∧ (ma_c e q w → ∃ t1 : hy_T, hy_F meX t t1 ∧ (∀ j : Nat, j ≤ 12 → t1 79 j = mq_as t e q j) ∧ t' = mf_fix 5000 (mf_sea0N t1 64))) := by
          intro x hx hkk m2
          rw [if_pos hkk] at a2 a3
          induction m2 with
          | zero =>
            intro j hm2
            obtain rfl : j = 64 := by omega
            have ih' := ih (k + 1)
            rw [a2, a3, ← hx] at ih'
            refine hy_iload (i := 53) rfl rfl ?_
            refine hy_const (i := 54) rfl (by decide) ?_
            refine hy_ic_ge (i := 55) (tt := 70) rfl (fun zc1 => ?_) (fun zc1 => ?_)
            · refine hy_iload (i := 70) rfl rfl ?_
              refine hy_const (i := 71) rfl (by decide) ?_
              refine hy_iadd (i := 72) rfl (by omega) ?_
              refine hy_istore (i := 73) rfl ?_
              refine hy_iload (i := 74) rfl rfl ?_
              refine hy_iload (i := 75) rfl rfl ?_
              refine hy_cS2e (i := 76) rfl (by decide) mj_M_max (by decide) rfl (Nat.le_of_ble_eq_true rfl) (c_M_max) ?_
              refine hy_istore (i := 77) rfl ?_
              refine hy_iinc (i := 78) rfl rfl (by omega) ?_
              refine hy_goto (i := 79) (tt := 27) rfl ?_
              exact ih' _ _ (by omega)
            · omega
          | succ m2 ih2 =>
            intro j hm2
            have hc := ma_cntN_in (t2 102) k j
            have b1 : ma_cntN (t2 102) k (j + 1) = ma_cntN (t2 102) k j + (if t2 102 j = k then 1 else 0) := rfl
            have ih2' := ih2 (j + 1) (by omega)
            rw [b1] at ih2'
            refine hy_iload (i := 53) rfl rfl ?_
            refine hy_const (i := 54) rfl (by decide) ?_
            refine hy_ic_ge (i := 55) (tt := 70) rfl (fun zc1 => ?_) (fun zc1 => ?_)
            · omega
            · refine hy_iload (i := 56) rfl rfl ?_
              refine hy_aload (i := 57) rfl rfl ?_
              refine hy_getr (i := 58) rfl rfl ?_
              refine hy_iload (i := 59) rfl rfl ?_
              refine hy_iald (i := 60) rfl rfl (by omega) (k := j) (by omega) ?_
              refine hy_iload (i := 61) rfl rfl ?_
              refine hy_ic_ne (i := 62) (tt := 65) rfl (fun zc2 => ?_) (fun zc2 => ?_)
              · refine hy_const (i := 65) rfl (by decide) ?_
                refine hy_iadd (i := 66) rfl (by omega) ?_
                refine hy_istore (i := 67) rfl ?_
                refine hy_iinc (i := 68) rfl rfl (by omega) ?_
                refine hy_goto (i := 69) (tt := 53) rfl ?_
                first | (rw [if_pos (by assumption)] at ih2'; exact ih2') | (rw [if_neg (by assumption)] at ih2'; exact ih2')
              · refine hy_const (i := 63) rfl (by decide) ?_
                refine hy_goto (i := 64) (tt := 66) rfl ?_
                refine hy_iadd (i := 66) rfl (by omega) ?_
                refine hy_istore (i := 67) rfl ?_
                refine hy_iinc (i := 68) rfl rfl (by omega) ?_
                refine hy_goto (i := 69) (tt := 53) rfl ?_
                first | (rw [if_pos (by assumption)] at ih2'; exact ih2') | (rw [if_neg (by assumption)] at ih2'; exact ih2')
        refine hy_iload (i := 27) rfl rfl ?_
        refine hy_const (i := 28) rfl (by decide) ?_
        refine hy_ic_ge (i := 29) (tt := 80) rfl (fun zc1 => ?_) (fun zc1 => ?_)
        · omega
        · refine hy_iload (i := 30) rfl rfl ?_
          refine hy_aload (i := 31) rfl rfl ?_
          refine hy_getr (i := 32) rfl rfl ?_
          refine hy_iload (i := 33) rfl rfl ?_
          refine hy_iald (i := 34) rfl rfl (by omega) (k := k) (by omega) ?_
          refine hy_const (i := 35) rfl (by decide) ?_
          refine hy_ic_ne (i := 36) (tt := 39) rfl (fun zc2 => ?_) (fun zc2 => ?_)
          · refine hy_const (i := 39) rfl (by decide) ?_
            refine hy_iadd (i := 40) rfl (by omega) ?_
            refine hy_istore (i := 41) rfl ?_
            refine hy_aload (i := 42) rfl rfl ?_
            refine hy_getr (i := 43) rfl rfl ?_
            refine hy_iload (i := 44) rfl rfl ?_
            refine hy_iald (i := 45) rfl rfl (by omega) (k := k) (by omega) ?_
            refine hy_iload (i := 46) rfl rfl ?_
            refine hy_ic_eq (i := 47) (tt := 49) rfl (fun zc3 => ?_) (fun zc3 => ?_)
            · refine hy_const (i := 49) rfl (by decide) ?_
              refine hy_istore (i := 50) rfl ?_
              refine hy_const (i := 51) rfl (by decide) ?_
              refine hy_istore (i := 52) rfl ?_
              first | exact inner _ (by rw [a1, if_pos (by assumption)]) (by assumption) 64 0 rfl | exact inner _ (by rw [a1, if_neg (by assumption)]) (by assumption) 64 0 rfl
            · refine hy_goto (i := 48) (tt := 78) rfl ?_
              refine hy_iinc (i := 78) rfl rfl (by omega) ?_
              refine hy_goto (i := 79) (tt := 27) rfl ?_
              rw [if_neg (show ¬ t2 102 k = k by assumption), Int.add_zero] at a2
              rw [if_neg (show ¬ t2 102 k = k by assumption)] at a3
              have ih' := ih (k + 1)
              rw [a1, a2, a3] at ih'
              first | (rw [if_pos (by assumption)] at ih'; exact ih' _ _ (by omega)) | (rw [if_neg (by assumption)] at ih'; exact ih' _ _ (by omega))
          · refine hy_const (i := 37) rfl (by decide) ?_
            refine hy_goto (i := 38) (tt := 40) rfl ?_
            refine hy_iadd (i := 40) rfl (by omega) ?_
            refine hy_istore (i := 41) rfl ?_
            refine hy_aload (i := 42) rfl rfl ?_
            refine hy_getr (i := 43) rfl rfl ?_
            refine hy_iload (i := 44) rfl rfl ?_
            refine hy_iald (i := 45) rfl rfl (by omega) (k := k) (by omega) ?_
            refine hy_iload (i := 46) rfl rfl ?_
            refine hy_ic_eq (i := 47) (tt := 49) rfl (fun zc3 => ?_) (fun zc3 => ?_)
            · refine hy_const (i := 49) rfl (by decide) ?_
              refine hy_istore (i := 50) rfl ?_
              refine hy_const (i := 51) rfl (by decide) ?_
              refine hy_istore (i := 52) rfl ?_
              first | exact inner _ (by rw [a1, if_pos (by assumption)]) (by assumption) 64 0 rfl | exact inner _ (by rw [a1, if_neg (by assumption)]) (by assumption) 64 0 rfl
            · refine hy_goto (i := 48) (tt := 78) rfl ?_
              refine hy_iinc (i := 78) rfl rfl (by omega) ?_
              refine hy_goto (i := 79) (tt := 27) rfl ?_
              rw [if_neg (show ¬ t2 102 k = k by assumption), Int.add_zero] at a2
              rw [if_neg (show ¬ t2 102 k = k by assumption)] at a3
              have ih' := ih (k + 1)
              rw [a1, a2, a3] at ih'
              first | (rw [if_pos (by assumption)] at ih'; exact ih' _ _ (by omega)) | (rw [if_neg (by assumption)] at ih'; exact ih' _ _ (by omega))
    refine hy_iload (i := 0) rfl rfl ?_
    refine hy_cS1e (i := 1) rfl (by decide) mj_M_isEmpire (by decide) rfl (Nat.le_of_ble_eq_true rfl) (c_M_isEmpire) ?_
    refine hy_ib_eq (i := 2) (tt := 11) rfl (fun zc1 => ?_) (fun zc1 => ?_)
    · simp only [decide_eq_false_iff_not] at zc1; omega
    · refine hy_iload (i := 3) rfl rfl ?_
      refine hy_cS1e (i := 4) rfl (by decide) mj_M_isQuarter (by decide) rfl (Nat.le_of_ble_eq_true rfl) (c_M_isQuarter) ?_
      refine hy_ib_eq (i := 5) (tt := 11) rfl (fun zc2 => ?_) (fun zc2 => ?_)
      · simp only [decide_eq_false_iff_not] at zc2; omega
      · refine hy_iload (i := 6) rfl rfl ?_
        refine hy_const (i := 7) rfl (by decide) ?_
        refine hy_const (i := 8) rfl (by decide) ?_
        refine hy_cS3e (i := 9) rfl (by decide) mj_M_in (by decide) rfl (Nat.le_of_ble_eq_true rfl) (c_M_in) ?_
        refine hy_ib_ne (i := 10) (tt := 13) rfl (fun zc3 => ?_) (fun zc3 => ?_)
        · refine hy_aload (i := 13) rfl rfl ?_
          refine hy_iload (i := 14) rfl rfl ?_
          refine hy_iload (i := 15) rfl rfl ?_
          refine hy_cV2 (i := 16) rfl mj_M_laysAs (by decide) rfl (Nat.le_of_ble_eq_true rfl) rfl rfl rfl (c_M_laysAs (by assumption) (by assumption) (by omega)) (fun r4_ t4_ h4 => ?_)
          obtain ⟨rfl, hF4, hA4⟩ := h4
          dsimp only [hy_st, List.nil_append]
          refine hy_aload (i := 17) rfl rfl ?_
          have hg4 : mg_ok t4_ := fun f hf => by rw [hF4 63 f rfl]; exact hg f hf
          refine hy_cV0v (i := 18) rfl mj_M_laysSeas (by decide) rfl (Nat.le_of_ble_eq_true rfl) rfl rfl rfl (c_M_laysSeas (by assumption)) ?_
          refine hy_const (i := 19) rfl (by decide) ?_
          refine hy_istore (i := 20) rfl ?_
          refine hy_const (i := 21) rfl (by decide) ?_
          refine hy_istore (i := 22) rfl ?_
          refine hy_const (i := 23) rfl (by decide) ?_
          refine hy_istore (i := 24) rfl ?_
          refine hy_const (i := 25) rfl (by decide) ?_
          refine hy_istore (i := 26) rfl ?_
          exact loop t4_ _ hF4 hA4 rfl 64 0 _ _ rfl
        · simp only [decide_eq_false_iff_not] at zc3; omega
  · simp only [if_neg hq]
    refine hy_iload (i := 0) rfl rfl ?_
    refine hy_cS1e (i := 1) rfl (by decide) mj_M_isEmpire (by decide) rfl (Nat.le_of_ble_eq_true rfl) (c_M_isEmpire) ?_
    refine hy_ib_eq (i := 2) (tt := 11) rfl (fun zc1 => ?_) (fun zc1 => ?_)
    · refine hy_const (i := 11) rfl (by decide) ?_
      refine hy_ireturn (i := 12) rfl rfl ?_
      exact ⟨rfl, hy_F.rf, fun h => absurd h hq⟩
    · refine hy_iload (i := 3) rfl rfl ?_
      refine hy_cS1e (i := 4) rfl (by decide) mj_M_isQuarter (by decide) rfl (Nat.le_of_ble_eq_true rfl) (c_M_isQuarter) ?_
      refine hy_ib_eq (i := 5) (tt := 11) rfl (fun zc2 => ?_) (fun zc2 => ?_)
      · refine hy_const (i := 11) rfl (by decide) ?_
        refine hy_ireturn (i := 12) rfl rfl ?_
        exact ⟨rfl, hy_F.rf, fun h => absurd h hq⟩
      · refine hy_iload (i := 6) rfl rfl ?_
        refine hy_const (i := 7) rfl (by decide) ?_
        refine hy_const (i := 8) rfl (by decide) ?_
        refine hy_cS3e (i := 9) rfl (by decide) mj_M_in (by decide) rfl (Nat.le_of_ble_eq_true rfl) (c_M_in) ?_
        refine hy_ib_ne (i := 10) (tt := 13) rfl (fun zc3 => ?_) (fun zc3 => ?_)
        · exfalso; simp only [decide_eq_true_eq] at *; exact hq ⟨by assumption, by assumption, by assumption⟩
        · refine hy_const (i := 11) rfl (by decide) ?_
          refine hy_ireturn (i := 12) rfl rfl ?_
          exact ⟨rfl, hy_F.rf, fun h => absurd h hq⟩
end MSE
