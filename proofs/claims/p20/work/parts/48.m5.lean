/-! the model's seas -/
def mf_joins (t : hy_T) (a b : Int) : Bool × hy_T :=
  if b = -1 ∨ t 102 a.toNat = -1 ∨ t 102 b.toNat = -1 ∨ t 102 a.toNat = t 102 b.toNat then (false, t)
  else (true, hy_up (hy_up t 102 a.toNat (if t 102 a.toNat < t 102 b.toNat then t 102 a.toNat else t 102 b.toNat)) 102 b.toNat (if t 102 a.toNat < t 102 b.toNat then t 102 a.toNat else t 102 b.toNat))
def mf_seaP (t : hy_T) : Nat → Bool × hy_T
  | 0 => (false, t)
  | f + 1 =>
    let p := mf_seaP t f
    let j1 := mf_joins p.2 f (pa_beside f 0)
    let j2 := mf_joins j1.2 f (pa_beside f 2)
    (j2.1 || (j1.1 || p.1), j2.2)
def mf_sea0N (t : hy_T) : Nat → hy_T
  | 0 => t
  | f + 1 => hy_up (mf_sea0N t f) 102 f (if t 79 (t 63 f).toNat = 12 then (f : Int) else -1)
theorem mf_sea0N_F (t : hy_T) : ∀ n, hy_F (fun r _ => r == 102) t (mf_sea0N t n)
  | 0 => hy_F.rf
  | n + 1 => (mf_sea0N_F t n).up rfl
theorem mf_joins_F (t : hy_T) (a b : Int) : hy_F (fun r _ => r == 102) t (mf_joins t a b).2 := by
  unfold mf_joins
  split
  · exact hy_F.rf
  · exact (hy_F.rf.up rfl).up rfl
theorem mf_seaP_F (t : hy_T) : ∀ n, hy_F (fun r _ => r == 102) t (mf_seaP t n).2
  | 0 => hy_F.rf
  | n + 1 => ((mf_seaP_F t n).tr' (mf_joins_F _ _ _)).tr' (mf_joins_F _ _ _)
section ME
variable {sc : List Int32} {t : hy_T}
theorem c_M_beside {f s : Int} (hf : 0 ≤ f ∧ f < 64) (hs : 0 ≤ s ∧ s < 4) : hy_Ct sc hm_M_beside 1 [.inr (some 59), .inl f, .inl s] t (hy_e (some (pa_beside f s)) t) := by
  refine hy_mk_ct ok_M_beside ck_M_beside (Nat.le_of_ble_eq_true rfl) ?_
  refine hy_iload (i := 0) rfl rfl ?_
  refine hy_const (i := 1) rfl (by decide) ?_
  refine hy_irem (i := 2) rfl (by omega) (by omega) ?_
  refine hy_iload (i := 3) rfl rfl ?_
  refine hy_if_ne (i := 4) (tt := 7) rfl (fun zc1 => ?_) (fun zc1 => ?_)
  · refine hy_iload (i := 7) rfl rfl ?_
    refine hy_const (i := 8) rfl (by decide) ?_
    refine hy_ic_ne (i := 9) (tt := 12) rfl (fun zc2 => ?_) (fun zc2 => ?_)
    · refine hy_const (i := 12) rfl (by decide) ?_
      refine hy_iadd (i := 13) rfl (by omega) ?_
      refine hy_istore (i := 14) rfl ?_
      refine hy_iload (i := 15) rfl rfl ?_
      refine hy_const (i := 16) rfl (by decide) ?_
      refine hy_idiv (i := 17) rfl (by omega) (by omega) ?_
      refine hy_iload (i := 18) rfl rfl ?_
      refine hy_const (i := 19) rfl (by decide) ?_
      refine hy_ic_ne (i := 20) (tt := 23) rfl (fun zc3 => ?_) (fun zc3 => ?_)
      · refine hy_iload (i := 23) rfl rfl ?_
        refine hy_const (i := 24) rfl (by decide) ?_
        refine hy_ic_ne (i := 25) (tt := 28) rfl (fun zc4 => ?_) (fun zc4 => ?_)
        · refine hy_const (i := 28) rfl (by decide) ?_
          refine hy_iadd (i := 29) rfl (by omega) ?_
          refine hy_istore (i := 30) rfl ?_
          refine hy_iload (i := 31) rfl rfl ?_
          refine hy_const (i := 32) rfl (by decide) ?_
          refine hy_const (i := 33) rfl (by decide) ?_
          refine hy_cS3e (i := 34) rfl (by decide) mj_M_in (by decide) rfl (Nat.le_of_ble_eq_true rfl) (c_M_in) ?_
          refine hy_ib_eq (i := 35) (tt := 47) rfl (fun zc5 => ?_) (fun zc5 => ?_)
          · refine hy_const (i := 47) rfl (by decide) ?_
            refine hy_ireturn (i := 48) rfl rfl ?_
            refine ⟨congrArg some ?_, rfl⟩
            simp only [decide_eq_true_eq, decide_eq_false_iff_not] at *
            unfold pa_beside
            (repeat' split) <;> omega
          · refine hy_iload (i := 36) rfl rfl ?_
            refine hy_const (i := 37) rfl (by decide) ?_
            refine hy_const (i := 38) rfl (by decide) ?_
            refine hy_cS3e (i := 39) rfl (by decide) mj_M_in (by decide) rfl (Nat.le_of_ble_eq_true rfl) (c_M_in) ?_
            refine hy_ib_eq (i := 40) (tt := 47) rfl (fun zc6 => ?_) (fun zc6 => ?_)
            · refine hy_const (i := 47) rfl (by decide) ?_
              refine hy_ireturn (i := 48) rfl rfl ?_
              refine ⟨congrArg some ?_, rfl⟩
              simp only [decide_eq_true_eq, decide_eq_false_iff_not] at *
              unfold pa_beside
              (repeat' split) <;> omega
            · refine hy_const (i := 41) rfl (by decide) ?_
              refine hy_iload (i := 42) rfl rfl ?_
              refine hy_imul (i := 43) rfl (by omega) ?_
              refine hy_iload (i := 44) rfl rfl ?_
              refine hy_iadd (i := 45) rfl (by omega) ?_
              refine hy_goto (i := 46) (tt := 48) rfl ?_
              refine hy_ireturn (i := 48) rfl rfl ?_
              refine ⟨congrArg some ?_, rfl⟩
              simp only [decide_eq_true_eq, decide_eq_false_iff_not] at *
              unfold pa_beside
              (repeat' split) <;> omega
        · refine hy_const (i := 26) rfl (by decide) ?_
          refine hy_goto (i := 27) (tt := 29) rfl ?_
          refine hy_iadd (i := 29) rfl (by omega) ?_
          refine hy_istore (i := 30) rfl ?_
          refine hy_iload (i := 31) rfl rfl ?_
          refine hy_const (i := 32) rfl (by decide) ?_
          refine hy_const (i := 33) rfl (by decide) ?_
          refine hy_cS3e (i := 34) rfl (by decide) mj_M_in (by decide) rfl (Nat.le_of_ble_eq_true rfl) (c_M_in) ?_
          refine hy_ib_eq (i := 35) (tt := 47) rfl (fun zc5 => ?_) (fun zc5 => ?_)
          · refine hy_const (i := 47) rfl (by decide) ?_
            refine hy_ireturn (i := 48) rfl rfl ?_
            refine ⟨congrArg some ?_, rfl⟩
            simp only [decide_eq_true_eq, decide_eq_false_iff_not] at *
            unfold pa_beside
            (repeat' split) <;> omega
          · refine hy_iload (i := 36) rfl rfl ?_
            refine hy_const (i := 37) rfl (by decide) ?_
            refine hy_const (i := 38) rfl (by decide) ?_
            refine hy_cS3e (i := 39) rfl (by decide) mj_M_in (by decide) rfl (Nat.le_of_ble_eq_true rfl) (c_M_in) ?_
            refine hy_ib_eq (i := 40) (tt := 47) rfl (fun zc6 => ?_) (fun zc6 => ?_)
            · refine hy_const (i := 47) rfl (by decide) ?_
              refine hy_ireturn (i := 48) rfl rfl ?_
              refine ⟨congrArg some ?_, rfl⟩
              simp only [decide_eq_true_eq, decide_eq_false_iff_not] at *
              unfold pa_beside
              (repeat' split) <;> omega
            · refine hy_const (i := 41) rfl (by decide) ?_
              refine hy_iload (i := 42) rfl rfl ?_
              refine hy_imul (i := 43) rfl (by omega) ?_
              refine hy_iload (i := 44) rfl rfl ?_
              refine hy_iadd (i := 45) rfl (by omega) ?_
              refine hy_goto (i := 46) (tt := 48) rfl ?_
              refine hy_ireturn (i := 48) rfl rfl ?_
              refine ⟨congrArg some ?_, rfl⟩
              simp only [decide_eq_true_eq, decide_eq_false_iff_not] at *
              unfold pa_beside
              (repeat' split) <;> omega
      · refine hy_const (i := 21) rfl (by decide) ?_
        refine hy_goto (i := 22) (tt := 29) rfl ?_
        refine hy_iadd (i := 29) rfl (by omega) ?_
        refine hy_istore (i := 30) rfl ?_
        refine hy_iload (i := 31) rfl rfl ?_
        refine hy_const (i := 32) rfl (by decide) ?_
        refine hy_const (i := 33) rfl (by decide) ?_
        refine hy_cS3e (i := 34) rfl (by decide) mj_M_in (by decide) rfl (Nat.le_of_ble_eq_true rfl) (c_M_in) ?_
        refine hy_ib_eq (i := 35) (tt := 47) rfl (fun zc4 => ?_) (fun zc4 => ?_)
        · refine hy_const (i := 47) rfl (by decide) ?_
          refine hy_ireturn (i := 48) rfl rfl ?_
          refine ⟨congrArg some ?_, rfl⟩
          simp only [decide_eq_true_eq, decide_eq_false_iff_not] at *
          unfold pa_beside
          (repeat' split) <;> omega
        · refine hy_iload (i := 36) rfl rfl ?_
          refine hy_const (i := 37) rfl (by decide) ?_
          refine hy_const (i := 38) rfl (by decide) ?_
          refine hy_cS3e (i := 39) rfl (by decide) mj_M_in (by decide) rfl (Nat.le_of_ble_eq_true rfl) (c_M_in) ?_
          refine hy_ib_eq (i := 40) (tt := 47) rfl (fun zc5 => ?_) (fun zc5 => ?_)
          · refine hy_const (i := 47) rfl (by decide) ?_
            refine hy_ireturn (i := 48) rfl rfl ?_
            refine ⟨congrArg some ?_, rfl⟩
            simp only [decide_eq_true_eq, decide_eq_false_iff_not] at *
            unfold pa_beside
            (repeat' split) <;> omega
          · refine hy_const (i := 41) rfl (by decide) ?_
            refine hy_iload (i := 42) rfl rfl ?_
            refine hy_imul (i := 43) rfl (by omega) ?_
            refine hy_iload (i := 44) rfl rfl ?_
            refine hy_iadd (i := 45) rfl (by omega) ?_
            refine hy_goto (i := 46) (tt := 48) rfl ?_
            refine hy_ireturn (i := 48) rfl rfl ?_
            refine ⟨congrArg some ?_, rfl⟩
            simp only [decide_eq_true_eq, decide_eq_false_iff_not] at *
            unfold pa_beside
            (repeat' split) <;> omega
    · refine hy_const (i := 10) rfl (by decide) ?_
      refine hy_goto (i := 11) (tt := 13) rfl ?_
      refine hy_iadd (i := 13) rfl (by omega) ?_
      refine hy_istore (i := 14) rfl ?_
      refine hy_iload (i := 15) rfl rfl ?_
      refine hy_const (i := 16) rfl (by decide) ?_
      refine hy_idiv (i := 17) rfl (by omega) (by omega) ?_
      refine hy_iload (i := 18) rfl rfl ?_
      refine hy_const (i := 19) rfl (by decide) ?_
      refine hy_ic_ne (i := 20) (tt := 23) rfl (fun zc3 => ?_) (fun zc3 => ?_)
      · refine hy_iload (i := 23) rfl rfl ?_
        refine hy_const (i := 24) rfl (by decide) ?_
        refine hy_ic_ne (i := 25) (tt := 28) rfl (fun zc4 => ?_) (fun zc4 => ?_)
        · refine hy_const (i := 28) rfl (by decide) ?_
          refine hy_iadd (i := 29) rfl (by omega) ?_
          refine hy_istore (i := 30) rfl ?_
          refine hy_iload (i := 31) rfl rfl ?_
          refine hy_const (i := 32) rfl (by decide) ?_
          refine hy_const (i := 33) rfl (by decide) ?_
          refine hy_cS3e (i := 34) rfl (by decide) mj_M_in (by decide) rfl (Nat.le_of_ble_eq_true rfl) (c_M_in) ?_
          refine hy_ib_eq (i := 35) (tt := 47) rfl (fun zc5 => ?_) (fun zc5 => ?_)
          · refine hy_const (i := 47) rfl (by decide) ?_
            refine hy_ireturn (i := 48) rfl rfl ?_
            refine ⟨congrArg some ?_, rfl⟩
            simp only [decide_eq_true_eq, decide_eq_false_iff_not] at *
            unfold pa_beside
            (repeat' split) <;> omega
          · refine hy_iload (i := 36) rfl rfl ?_
            refine hy_const (i := 37) rfl (by decide) ?_
            refine hy_const (i := 38) rfl (by decide) ?_
            refine hy_cS3e (i := 39) rfl (by decide) mj_M_in (by decide) rfl (Nat.le_of_ble_eq_true rfl) (c_M_in) ?_
            refine hy_ib_eq (i := 40) (tt := 47) rfl (fun zc6 => ?_) (fun zc6 => ?_)
            · refine hy_const (i := 47) rfl (by decide) ?_
              refine hy_ireturn (i := 48) rfl rfl ?_
              refine ⟨congrArg some ?_, rfl⟩
              simp only [decide_eq_true_eq, decide_eq_false_iff_not] at *
              unfold pa_beside
              (repeat' split) <;> omega
            · refine hy_const (i := 41) rfl (by decide) ?_
              refine hy_iload (i := 42) rfl rfl ?_
              refine hy_imul (i := 43) rfl (by omega) ?_
              refine hy_iload (i := 44) rfl rfl ?_
              refine hy_iadd (i := 45) rfl (by omega) ?_
              refine hy_goto (i := 46) (tt := 48) rfl ?_
              refine hy_ireturn (i := 48) rfl rfl ?_
              refine ⟨congrArg some ?_, rfl⟩
              simp only [decide_eq_true_eq, decide_eq_false_iff_not] at *
              unfold pa_beside
              (repeat' split) <;> omega
        · refine hy_const (i := 26) rfl (by decide) ?_
          refine hy_goto (i := 27) (tt := 29) rfl ?_
          refine hy_iadd (i := 29) rfl (by omega) ?_
          refine hy_istore (i := 30) rfl ?_
          refine hy_iload (i := 31) rfl rfl ?_
          refine hy_const (i := 32) rfl (by decide) ?_
          refine hy_const (i := 33) rfl (by decide) ?_
          refine hy_cS3e (i := 34) rfl (by decide) mj_M_in (by decide) rfl (Nat.le_of_ble_eq_true rfl) (c_M_in) ?_
          refine hy_ib_eq (i := 35) (tt := 47) rfl (fun zc5 => ?_) (fun zc5 => ?_)
          · refine hy_const (i := 47) rfl (by decide) ?_
            refine hy_ireturn (i := 48) rfl rfl ?_
            refine ⟨congrArg some ?_, rfl⟩
            simp only [decide_eq_true_eq, decide_eq_false_iff_not] at *
            unfold pa_beside
            (repeat' split) <;> omega
          · refine hy_iload (i := 36) rfl rfl ?_
            refine hy_const (i := 37) rfl (by decide) ?_
            refine hy_const (i := 38) rfl (by decide) ?_
            refine hy_cS3e (i := 39) rfl (by decide) mj_M_in (by decide) rfl (Nat.le_of_ble_eq_true rfl) (c_M_in) ?_
            refine hy_ib_eq (i := 40) (tt := 47) rfl (fun zc6 => ?_) (fun zc6 => ?_)
            · refine hy_const (i := 47) rfl (by decide) ?_
              refine hy_ireturn (i := 48) rfl rfl ?_
              refine ⟨congrArg some ?_, rfl⟩
              simp only [decide_eq_true_eq, decide_eq_false_iff_not] at *
              unfold pa_beside
              (repeat' split) <;> omega
            · refine hy_const (i := 41) rfl (by decide) ?_
              refine hy_iload (i := 42) rfl rfl ?_
              refine hy_imul (i := 43) rfl (by omega) ?_
              refine hy_iload (i := 44) rfl rfl ?_
              refine hy_iadd (i := 45) rfl (by omega) ?_
              refine hy_goto (i := 46) (tt := 48) rfl ?_
              refine hy_ireturn (i := 48) rfl rfl ?_
              refine ⟨congrArg some ?_, rfl⟩
              simp only [decide_eq_true_eq, decide_eq_false_iff_not] at *
              unfold pa_beside
              (repeat' split) <;> omega
      · refine hy_const (i := 21) rfl (by decide) ?_
        refine hy_goto (i := 22) (tt := 29) rfl ?_
        refine hy_iadd (i := 29) rfl (by omega) ?_
        refine hy_istore (i := 30) rfl ?_
        refine hy_iload (i := 31) rfl rfl ?_
        refine hy_const (i := 32) rfl (by decide) ?_
        refine hy_const (i := 33) rfl (by decide) ?_
        refine hy_cS3e (i := 34) rfl (by decide) mj_M_in (by decide) rfl (Nat.le_of_ble_eq_true rfl) (c_M_in) ?_
        refine hy_ib_eq (i := 35) (tt := 47) rfl (fun zc4 => ?_) (fun zc4 => ?_)
        · refine hy_const (i := 47) rfl (by decide) ?_
          refine hy_ireturn (i := 48) rfl rfl ?_
          refine ⟨congrArg some ?_, rfl⟩
          simp only [decide_eq_true_eq, decide_eq_false_iff_not] at *
          unfold pa_beside
          (repeat' split) <;> omega
        · refine hy_iload (i := 36) rfl rfl ?_
          refine hy_const (i := 37) rfl (by decide) ?_
          refine hy_const (i := 38) rfl (by decide) ?_
          refine hy_cS3e (i := 39) rfl (by decide) mj_M_in (by decide) rfl (Nat.le_of_ble_eq_true rfl) (c_M_in) ?_
          refine hy_ib_eq (i := 40) (tt := 47) rfl (fun zc5 => ?_) (fun zc5 => ?_)
          · refine hy_const (i := 47) rfl (by decide) ?_
            refine hy_ireturn (i := 48) rfl rfl ?_
            refine ⟨congrArg some ?_, rfl⟩
            simp only [decide_eq_true_eq, decide_eq_false_iff_not] at *
            unfold pa_beside
            (repeat' split) <;> omega
          · refine hy_const (i := 41) rfl (by decide) ?_
            refine hy_iload (i := 42) rfl rfl ?_
            refine hy_imul (i := 43) rfl (by omega) ?_
            refine hy_iload (i := 44) rfl rfl ?_
            refine hy_iadd (i := 45) rfl (by omega) ?_
            refine hy_goto (i := 46) (tt := 48) rfl ?_
            refine hy_ireturn (i := 48) rfl rfl ?_
            refine ⟨congrArg some ?_, rfl⟩
            simp only [decide_eq_true_eq, decide_eq_false_iff_not] at *
            unfold pa_beside
            (repeat' split) <;> omega
  · refine hy_const (i := 5) rfl (by decide) ?_
    refine hy_goto (i := 6) (tt := 13) rfl ?_
    refine hy_iadd (i := 13) rfl (by omega) ?_
    refine hy_istore (i := 14) rfl ?_
    refine hy_iload (i := 15) rfl rfl ?_
    refine hy_const (i := 16) rfl (by decide) ?_
    refine hy_idiv (i := 17) rfl (by omega) (by omega) ?_
    refine hy_iload (i := 18) rfl rfl ?_
    refine hy_const (i := 19) rfl (by decide) ?_
    refine hy_ic_ne (i := 20) (tt := 23) rfl (fun zc2 => ?_) (fun zc2 => ?_)
    · refine hy_iload (i := 23) rfl rfl ?_
      refine hy_const (i := 24) rfl (by decide) ?_
      refine hy_ic_ne (i := 25) (tt := 28) rfl (fun zc3 => ?_) (fun zc3 => ?_)
      · refine hy_const (i := 28) rfl (by decide) ?_
        refine hy_iadd (i := 29) rfl (by omega) ?_
        refine hy_istore (i := 30) rfl ?_
        refine hy_iload (i := 31) rfl rfl ?_
        refine hy_const (i := 32) rfl (by decide) ?_
        refine hy_const (i := 33) rfl (by decide) ?_
        refine hy_cS3e (i := 34) rfl (by decide) mj_M_in (by decide) rfl (Nat.le_of_ble_eq_true rfl) (c_M_in) ?_
        refine hy_ib_eq (i := 35) (tt := 47) rfl (fun zc4 => ?_) (fun zc4 => ?_)
        · refine hy_const (i := 47) rfl (by decide) ?_
          refine hy_ireturn (i := 48) rfl rfl ?_
          refine ⟨congrArg some ?_, rfl⟩
          simp only [decide_eq_true_eq, decide_eq_false_iff_not] at *
          unfold pa_beside
          (repeat' split) <;> omega
        · refine hy_iload (i := 36) rfl rfl ?_
          refine hy_const (i := 37) rfl (by decide) ?_
          refine hy_const (i := 38) rfl (by decide) ?_
          refine hy_cS3e (i := 39) rfl (by decide) mj_M_in (by decide) rfl (Nat.le_of_ble_eq_true rfl) (c_M_in) ?_
          refine hy_ib_eq (i := 40) (tt := 47) rfl (fun zc5 => ?_) (fun zc5 => ?_)
          · refine hy_const (i := 47) rfl (by decide) ?_
            refine hy_ireturn (i := 48) rfl rfl ?_
            refine ⟨congrArg some ?_, rfl⟩
            simp only [decide_eq_true_eq, decide_eq_false_iff_not] at *
            unfold pa_beside
            (repeat' split) <;> omega
          · refine hy_const (i := 41) rfl (by decide) ?_
            refine hy_iload (i := 42) rfl rfl ?_
            refine hy_imul (i := 43) rfl (by omega) ?_
            refine hy_iload (i := 44) rfl rfl ?_
            refine hy_iadd (i := 45) rfl (by omega) ?_
            refine hy_goto (i := 46) (tt := 48) rfl ?_
            refine hy_ireturn (i := 48) rfl rfl ?_
            refine ⟨congrArg some ?_, rfl⟩
            simp only [decide_eq_true_eq, decide_eq_false_iff_not] at *
            unfold pa_beside
            (repeat' split) <;> omega
      · refine hy_const (i := 26) rfl (by decide) ?_
        refine hy_goto (i := 27) (tt := 29) rfl ?_
        refine hy_iadd (i := 29) rfl (by omega) ?_
        refine hy_istore (i := 30) rfl ?_
        refine hy_iload (i := 31) rfl rfl ?_
        refine hy_const (i := 32) rfl (by decide) ?_
        refine hy_const (i := 33) rfl (by decide) ?_
        refine hy_cS3e (i := 34) rfl (by decide) mj_M_in (by decide) rfl (Nat.le_of_ble_eq_true rfl) (c_M_in) ?_
        refine hy_ib_eq (i := 35) (tt := 47) rfl (fun zc4 => ?_) (fun zc4 => ?_)
        · refine hy_const (i := 47) rfl (by decide) ?_
          refine hy_ireturn (i := 48) rfl rfl ?_
          refine ⟨congrArg some ?_, rfl⟩
          simp only [decide_eq_true_eq, decide_eq_false_iff_not] at *
          unfold pa_beside
          (repeat' split) <;> omega
        · refine hy_iload (i := 36) rfl rfl ?_
          refine hy_const (i := 37) rfl (by decide) ?_
          refine hy_const (i := 38) rfl (by decide) ?_
          refine hy_cS3e (i := 39) rfl (by decide) mj_M_in (by decide) rfl (Nat.le_of_ble_eq_true rfl) (c_M_in) ?_
          refine hy_ib_eq (i := 40) (tt := 47) rfl (fun zc5 => ?_) (fun zc5 => ?_)
          · refine hy_const (i := 47) rfl (by decide) ?_
            refine hy_ireturn (i := 48) rfl rfl ?_
            refine ⟨congrArg some ?_, rfl⟩
            simp only [decide_eq_true_eq, decide_eq_false_iff_not] at *
            unfold pa_beside
            (repeat' split) <;> omega
          · refine hy_const (i := 41) rfl (by decide) ?_
            refine hy_iload (i := 42) rfl rfl ?_
            refine hy_imul (i := 43) rfl (by omega) ?_
            refine hy_iload (i := 44) rfl rfl ?_
            refine hy_iadd (i := 45) rfl (by omega) ?_
            refine hy_goto (i := 46) (tt := 48) rfl ?_
            refine hy_ireturn (i := 48) rfl rfl ?_
            refine ⟨congrArg some ?_, rfl⟩
            simp only [decide_eq_true_eq, decide_eq_false_iff_not] at *
            unfold pa_beside
            (repeat' split) <;> omega
    · refine hy_const (i := 21) rfl (by decide) ?_
      refine hy_goto (i := 22) (tt := 29) rfl ?_
      refine hy_iadd (i := 29) rfl (by omega) ?_
      refine hy_istore (i := 30) rfl ?_
      refine hy_iload (i := 31) rfl rfl ?_
      refine hy_const (i := 32) rfl (by decide) ?_
      refine hy_const (i := 33) rfl (by decide) ?_
      refine hy_cS3e (i := 34) rfl (by decide) mj_M_in (by decide) rfl (Nat.le_of_ble_eq_true rfl) (c_M_in) ?_
      refine hy_ib_eq (i := 35) (tt := 47) rfl (fun zc3 => ?_) (fun zc3 => ?_)
      · refine hy_const (i := 47) rfl (by decide) ?_
        refine hy_ireturn (i := 48) rfl rfl ?_
        refine ⟨congrArg some ?_, rfl⟩
        simp only [decide_eq_true_eq, decide_eq_false_iff_not] at *
        unfold pa_beside
        (repeat' split) <;> omega
      · refine hy_iload (i := 36) rfl rfl ?_
        refine hy_const (i := 37) rfl (by decide) ?_
        refine hy_const (i := 38) rfl (by decide) ?_
        refine hy_cS3e (i := 39) rfl (by decide) mj_M_in (by decide) rfl (Nat.le_of_ble_eq_true rfl) (c_M_in) ?_
        refine hy_ib_eq (i := 40) (tt := 47) rfl (fun zc4 => ?_) (fun zc4 => ?_)
        · refine hy_const (i := 47) rfl (by decide) ?_
          refine hy_ireturn (i := 48) rfl rfl ?_
          refine ⟨congrArg some ?_, rfl⟩
          simp only [decide_eq_true_eq, decide_eq_false_iff_not] at *
          unfold pa_beside
          (repeat' split) <;> omega
        · refine hy_const (i := 41) rfl (by decide) ?_
          refine hy_iload (i := 42) rfl rfl ?_
          refine hy_imul (i := 43) rfl (by omega) ?_
          refine hy_iload (i := 44) rfl rfl ?_
          refine hy_iadd (i := 45) rfl (by omega) ?_
          refine hy_goto (i := 46) (tt := 48) rfl ?_
          refine hy_ireturn (i := 48) rfl rfl ?_
          refine ⟨congrArg some ?_, rfl⟩
          simp only [decide_eq_true_eq, decide_eq_false_iff_not] at *
          unfold pa_beside
          (repeat' split) <;> omega
theorem c_M_joins {a b : Int} (ha : 0 ≤ a ∧ a < 64) (hb : -1 ≤ b ∧ b < 64) : hy_Ct sc hm_M_joins 1 [.inr (some 59), .inl a, .inl b] t (hy_e (some (hy_b (mf_joins t a b).1)) (mf_joins t a b).2) := by
  refine hy_mk_ct ok_M_joins ck_M_joins (Nat.le_of_ble_eq_true rfl) ?_
  by_cases hq : b = -1 ∨ t 102 a.toNat = -1 ∨ t 102 b.toNat = -1 ∨ t 102 a.toNat = t 102 b.toNat
  · have e : mf_joins t a b = (false, t) := by unfold mf_joins; rw [if_pos hq]
    rw [e]
    refine hy_iload (i := 0) rfl rfl ?_
    refine hy_const (i := 1) rfl (by decide) ?_
    refine hy_ic_eq (i := 2) (tt := 24) rfl (fun zc1 => ?_) (fun zc1 => ?_)
    · refine hy_const (i := 24) rfl (by decide) ?_
      refine hy_zreturn (i := 25) rfl rfl (by first | decide | exact hy_b01 _) ?_
      exact ⟨rfl, rfl⟩
    · refine hy_aload (i := 3) rfl rfl ?_
      refine hy_getr (i := 4) rfl rfl ?_
      refine hy_iload (i := 5) rfl rfl ?_
      refine hy_iald (i := 6) rfl rfl (by omega) rfl ?_
      refine hy_const (i := 7) rfl (by decide) ?_
      refine hy_ic_eq (i := 8) (tt := 24) rfl (fun zc2 => ?_) (fun zc2 => ?_)
      · refine hy_const (i := 24) rfl (by decide) ?_
        refine hy_zreturn (i := 25) rfl rfl (by first | decide | exact hy_b01 _) ?_
        exact ⟨rfl, rfl⟩
      · refine hy_aload (i := 9) rfl rfl ?_
        refine hy_getr (i := 10) rfl rfl ?_
        refine hy_iload (i := 11) rfl rfl ?_
        refine hy_iald (i := 12) rfl rfl (by omega) rfl ?_
        refine hy_const (i := 13) rfl (by decide) ?_
        refine hy_ic_eq (i := 14) (tt := 24) rfl (fun zc3 => ?_) (fun zc3 => ?_)
        · refine hy_const (i := 24) rfl (by decide) ?_
          refine hy_zreturn (i := 25) rfl rfl (by first | decide | exact hy_b01 _) ?_
          exact ⟨rfl, rfl⟩
        · refine hy_aload (i := 15) rfl rfl ?_
          refine hy_getr (i := 16) rfl rfl ?_
          refine hy_iload (i := 17) rfl rfl ?_
          refine hy_iald (i := 18) rfl rfl (by omega) rfl ?_
          refine hy_aload (i := 19) rfl rfl ?_
          refine hy_getr (i := 20) rfl rfl ?_
          refine hy_iload (i := 21) rfl rfl ?_
          refine hy_iald (i := 22) rfl rfl (by omega) rfl ?_
          refine hy_ic_ne (i := 23) (tt := 26) rfl (fun zc4 => ?_) (fun zc4 => ?_)
          · omega
          · refine hy_const (i := 24) rfl (by decide) ?_
            refine hy_zreturn (i := 25) rfl rfl (by first | decide | exact hy_b01 _) ?_
            exact ⟨rfl, rfl⟩
  · have e : mf_joins t a b = (true, hy_up (hy_up t 102 a.toNat (if t 102 a.toNat < t 102 b.toNat then t 102 a.toNat else t 102 b.toNat)) 102 b.toNat (if t 102 a.toNat < t 102 b.toNat then t 102 a.toNat else t 102 b.toNat)) := by unfold mf_joins; rw [if_neg hq]
    rw [e]
    refine hy_iload (i := 0) rfl rfl ?_
    refine hy_const (i := 1) rfl (by decide) ?_
    refine hy_ic_eq (i := 2) (tt := 24) rfl (fun zc1 => ?_) (fun zc1 => ?_)
    · omega
    · refine hy_aload (i := 3) rfl rfl ?_
      refine hy_getr (i := 4) rfl rfl ?_
      refine hy_iload (i := 5) rfl rfl ?_
      refine hy_iald (i := 6) rfl rfl (by omega) rfl ?_
      refine hy_const (i := 7) rfl (by decide) ?_
      refine hy_ic_eq (i := 8) (tt := 24) rfl (fun zc2 => ?_) (fun zc2 => ?_)
      · omega
      · refine hy_aload (i := 9) rfl rfl ?_
        refine hy_getr (i := 10) rfl rfl ?_
        refine hy_iload (i := 11) rfl rfl ?_
        refine hy_iald (i := 12) rfl rfl (by omega) rfl ?_
        refine hy_const (i := 13) rfl (by decide) ?_
        refine hy_ic_eq (i := 14) (tt := 24) rfl (fun zc3 => ?_) (fun zc3 => ?_)
        · omega
        · refine hy_aload (i := 15) rfl rfl ?_
          refine hy_getr (i := 16) rfl rfl ?_
          refine hy_iload (i := 17) rfl rfl ?_
          refine hy_iald (i := 18) rfl rfl (by omega) rfl ?_
          refine hy_aload (i := 19) rfl rfl ?_
          refine hy_getr (i := 20) rfl rfl ?_
          refine hy_iload (i := 21) rfl rfl ?_
          refine hy_iald (i := 22) rfl rfl (by omega) rfl ?_
          refine hy_ic_ne (i := 23) (tt := 26) rfl (fun zc4 => ?_) (fun zc4 => ?_)
          · refine hy_aload (i := 26) rfl rfl ?_
            refine hy_getr (i := 27) rfl rfl ?_
            refine hy_iload (i := 28) rfl rfl ?_
            refine hy_iald (i := 29) rfl rfl (by omega) rfl ?_
            refine hy_aload (i := 30) rfl rfl ?_
            refine hy_getr (i := 31) rfl rfl ?_
            refine hy_iload (i := 32) rfl rfl ?_
            refine hy_iald (i := 33) rfl rfl (by omega) rfl ?_
            refine hy_cS2e (i := 34) rfl (by decide) mj_M_min (by decide) rfl (Nat.le_of_ble_eq_true rfl) (c_M_min) ?_
            refine hy_istore (i := 35) rfl ?_
            refine hy_aload (i := 36) rfl rfl ?_
            refine hy_getr (i := 37) rfl rfl ?_
            refine hy_iload (i := 38) rfl rfl ?_
            refine hy_iload (i := 39) rfl rfl ?_
            refine hy_iast (i := 40) rfl rfl (by omega) rfl ?_
            refine hy_aload (i := 41) rfl rfl ?_
            refine hy_getr (i := 42) rfl rfl ?_
            refine hy_iload (i := 43) rfl rfl ?_
            refine hy_iload (i := 44) rfl rfl ?_
            refine hy_iast (i := 45) rfl rfl (by omega) rfl ?_
            refine hy_const (i := 46) rfl (by decide) ?_
            refine hy_zreturn (i := 47) rfl rfl (by first | decide | exact hy_b01 _) ?_
            exact ⟨rfl, rfl⟩
          · omega
theorem hy_b_or (p q : Bool) : (if p = true then (1 : Int) else if q = true then 1 else 0) = hy_b (p || q) := by cases p <;> cases q <;> rfl
theorem c_M_seaPass {v2 : hy_V} {Q : Option Int → hy_T → Prop} (h : hy_W sc hm_M_laysSeas 2 25 [.inr (some 59), .inl (hy_b (mf_seaP t 64).1), .inl 64] [] (mf_seaP t 64).2 Q) : hy_W sc hm_M_laysSeas 2 25 [.inr (some 59), .inl 1, v2] [] t Q := by
  have loop : ∀ (m : Nat), ∀ (k : Nat), m + k = 64 → hy_W sc hm_M_laysSeas 2 31 [.inr (some 59), .inl (hy_b (mf_seaP t k).1), .inl (k : Int)] [] (mf_seaP t k).2 Q := by
    intro m
    induction m with
    | zero =>
      intro k hm
      obtain rfl : k = 64 := by omega
      refine hy_iload (i := 31) rfl rfl ?_
      refine hy_const (i := 32) rfl (by decide) ?_
      refine hy_ic_ge (i := 33) (tt := 64) rfl (fun zc1 => ?_) (fun zc1 => ?_)
      · refine hy_goto (i := 64) (tt := 25) rfl ?_
        exact h
      · omega
    | succ m ih =>
      intro k hm
      have b0 := pa_beside_in (f := (k : Int)) (by omega) 0
      have b2 := pa_beside_in (f := (k : Int)) (by omega) 2
      have ih' := ih (k + 1) (by omega)
      have e2 : (mf_seaP t (k + 1)).2 = (mf_joins (mf_joins (mf_seaP t k).2 k (pa_beside k 0)).2 k (pa_beside k 2)).2 := rfl
      have e1 : (mf_seaP t (k + 1)).1 = ((mf_joins (mf_joins (mf_seaP t k).2 k (pa_beside k 0)).2 k (pa_beside k 2)).1 || ((mf_joins (mf_seaP t k).2 k (pa_beside k 0)).1 || (mf_seaP t k).1)) := rfl
      rw [e1, e2] at ih'
      have st2 : ∀ g : Bool, g = ((mf_joins (mf_seaP t k).2 k (pa_beside k 0)).1 || (mf_seaP t k).1) → hy_W sc hm_M_laysSeas 2 48 [.inr (some 59), .inl (hy_b g), .inl (k : Int)] [] (mf_joins (mf_seaP t k).2 k (pa_beside k 0)).2 Q := by
        intro g hg
        rw [← hg] at ih'
        refine hy_aload (i := 48) rfl rfl ?_
        refine hy_iload (i := 49) rfl rfl ?_
        refine hy_aload (i := 50) rfl rfl ?_
        refine hy_iload (i := 51) rfl rfl ?_
        refine hy_const (i := 52) rfl (by decide) ?_
        refine hy_cV2e (i := 53) rfl mj_M_beside (by decide) rfl (Nat.le_of_ble_eq_true rfl) rfl rfl rfl (c_M_beside (by omega) (by omega)) ?_
        refine hy_cV2e (i := 54) rfl mj_M_joins (by decide) rfl (Nat.le_of_ble_eq_true rfl) rfl rfl rfl (c_M_joins (by omega) (by omega)) ?_
        refine hy_ib_ne (i := 55) (tt := 58) rfl (fun zc1 => ?_) (fun zc1 => ?_)
        · refine hy_const (i := 58) rfl (by decide) ?_
          refine hy_goto (i := 59) (tt := 61) rfl ?_
          refine hy_istore (i := 61) rfl ?_
          refine hy_iinc (i := 62) rfl rfl (by omega) ?_
          refine hy_goto (i := 63) (tt := 31) rfl ?_
          first | (rw [zc1] at ih'; exact ih') | (rw [zc1, zc2] at ih'; exact ih')
        · refine hy_iload (i := 56) rfl rfl ?_
          refine hy_ib_eq (i := 57) (tt := 60) rfl (fun zc2 => ?_) (fun zc2 => ?_)
          · refine hy_const (i := 60) rfl (by decide) ?_
            refine hy_istore (i := 61) rfl ?_
            refine hy_iinc (i := 62) rfl rfl (by omega) ?_
            refine hy_goto (i := 63) (tt := 31) rfl ?_
            first | (rw [zc1] at ih'; exact ih') | (rw [zc1, zc2] at ih'; exact ih')
          · refine hy_const (i := 58) rfl (by decide) ?_
            refine hy_goto (i := 59) (tt := 61) rfl ?_
            refine hy_istore (i := 61) rfl ?_
            refine hy_iinc (i := 62) rfl rfl (by omega) ?_
            refine hy_goto (i := 63) (tt := 31) rfl ?_
            first | (rw [zc1] at ih'; exact ih') | (rw [zc1, zc2] at ih'; exact ih')
      refine hy_iload (i := 31) rfl rfl ?_
      refine hy_const (i := 32) rfl (by decide) ?_
      refine hy_ic_ge (i := 33) (tt := 64) rfl (fun zc1 => ?_) (fun zc1 => ?_)
      · omega
      · refine hy_aload (i := 34) rfl rfl ?_
        refine hy_iload (i := 35) rfl rfl ?_
        refine hy_aload (i := 36) rfl rfl ?_
        refine hy_iload (i := 37) rfl rfl ?_
        refine hy_const (i := 38) rfl (by decide) ?_
        refine hy_cV2e (i := 39) rfl mj_M_beside (by decide) rfl (Nat.le_of_ble_eq_true rfl) rfl rfl rfl (c_M_beside (by omega) (by omega)) ?_
        refine hy_cV2e (i := 40) rfl mj_M_joins (by decide) rfl (Nat.le_of_ble_eq_true rfl) rfl rfl rfl (c_M_joins (by omega) (by omega)) ?_
        refine hy_ib_ne (i := 41) (tt := 44) rfl (fun zc2 => ?_) (fun zc2 => ?_)
        · refine hy_const (i := 44) rfl (by decide) ?_
          refine hy_goto (i := 45) (tt := 47) rfl ?_
          refine hy_istore (i := 47) rfl ?_
          first | exact st2 true (by rw [zc2]; rfl) | exact st2 true (by rw [zc2, zc3]; rfl) | exact st2 false (by rw [zc2, zc3]; rfl)
        · refine hy_iload (i := 42) rfl rfl ?_
          refine hy_ib_eq (i := 43) (tt := 46) rfl (fun zc3 => ?_) (fun zc3 => ?_)
          · refine hy_const (i := 46) rfl (by decide) ?_
            refine hy_istore (i := 47) rfl ?_
            first | exact st2 true (by rw [zc2]; rfl) | exact st2 true (by rw [zc2, zc3]; rfl) | exact st2 false (by rw [zc2, zc3]; rfl)
          · refine hy_const (i := 44) rfl (by decide) ?_
            refine hy_goto (i := 45) (tt := 47) rfl ?_
            refine hy_istore (i := 47) rfl ?_
            first | exact st2 true (by rw [zc2]; rfl) | exact st2 true (by rw [zc2, zc3]; rfl) | exact st2 false (by rw [zc2, zc3]; rfl)
  refine hy_iload (i := 25) rfl rfl ?_
  refine hy_if_eq (i := 26) (tt := 65) rfl (fun zc1 => ?_) (fun zc1 => ?_)
  · omega
  · refine hy_const (i := 27) rfl (by decide) ?_
    refine hy_istore (i := 28) rfl ?_
    refine hy_const (i := 29) rfl (by decide) ?_
    refine hy_istore (i := 30) rfl ?_
    exact loop 64 0 rfl
theorem c_M_laysSeasOf {Q : Option Int → hy_T → Prop} (h63 : ∀ f : Nat, f < 64 → 0 ≤ t 63 f ∧ t 63 f ≤ 12) (h : hy_W sc hm_M_laysSeas 2 25 [.inr (some 59), .inl 1, .inr none] [] (mf_sea0N t 64) Q) : hy_Ct sc hm_M_laysSeas 2 [.inr (some 59)] t Q := by
  refine hy_mk_ct ok_M_laysSeas ck_M_laysSeas (Nat.le_of_ble_eq_true rfl) ?_
  have loop : ∀ (m : Nat), ∀ (k : Nat) (t1 : hy_T), m + k = 64 → t1 = mf_sea0N t k → hy_W sc hm_M_laysSeas 2 2 [.inr (some 59), .inl (k : Int), .inr none] [] t1 Q := by
    intro m
    induction m with
    | zero =>
      intro k t1 hm ht
      obtain rfl : k = 64 := by omega
      refine hy_iload (i := 2) rfl rfl ?_
      refine hy_const (i := 3) rfl (by decide) ?_
      refine hy_ic_ge (i := 4) (tt := 23) rfl (fun zc1 => ?_) (fun zc1 => ?_)
      · refine hy_const (i := 23) rfl (by decide) ?_
        refine hy_istore (i := 24) rfl ?_
        rw [ht]; exact h
      · omega
    | succ m ih =>
      intro k t1 hm ht
      have hc := h63 k (by omega)
      have e63 : t1 63 k = t 63 k := by rw [ht]; exact mf_sea0N_F t k 63 k rfl
      have e79 : ∀ j, t1 79 j = t 79 j := fun j => by rw [ht]; exact mf_sea0N_F t k 79 j rfl
      by_cases hx : t 79 (t 63 k).toNat = 12
      · skip
        refine hy_iload (i := 2) rfl rfl ?_
        refine hy_const (i := 3) rfl (by decide) ?_
        refine hy_ic_ge (i := 4) (tt := 23) rfl (fun zc1 => ?_) (fun zc1 => ?_)
        · omega
        · refine hy_aload (i := 5) rfl rfl ?_
          refine hy_getr (i := 6) rfl rfl ?_
          refine hy_iload (i := 7) rfl rfl ?_
          refine hy_aload (i := 8) rfl rfl ?_
          refine hy_getr (i := 9) rfl rfl ?_
          refine hy_aload (i := 10) rfl rfl ?_
          refine hy_getr (i := 11) rfl rfl ?_
          refine hy_iload (i := 12) rfl rfl ?_
          refine hy_iald (i := 13) rfl rfl (by omega) (k := k) (by omega) ?_
          rw [e63]
          refine hy_iald (i := 14) rfl rfl (by omega) rfl ?_
          rw [e79]
          refine hy_const (i := 15) rfl (by decide) ?_
          refine hy_ic_ne (i := 16) (tt := 19) rfl (fun zc2 => ?_) (fun zc2 => ?_)
          · exact absurd hx (by assumption)
          · refine hy_iload (i := 17) rfl rfl ?_
            refine hy_goto (i := 18) (tt := 20) rfl ?_
            refine hy_iast (i := 20) rfl rfl (by omega) (k := k) (by omega) ?_
            refine hy_iinc (i := 21) rfl rfl (by omega) ?_
            refine hy_goto (i := 22) (tt := 2) rfl ?_
            exact ih (k + 1) _ (by omega) (by rw [ht]; simp only [mf_sea0N]; rw [if_pos hx])
      · skip
        refine hy_iload (i := 2) rfl rfl ?_
        refine hy_const (i := 3) rfl (by decide) ?_
        refine hy_ic_ge (i := 4) (tt := 23) rfl (fun zc1 => ?_) (fun zc1 => ?_)
        · omega
        · refine hy_aload (i := 5) rfl rfl ?_
          refine hy_getr (i := 6) rfl rfl ?_
          refine hy_iload (i := 7) rfl rfl ?_
          refine hy_aload (i := 8) rfl rfl ?_
          refine hy_getr (i := 9) rfl rfl ?_
          refine hy_aload (i := 10) rfl rfl ?_
          refine hy_getr (i := 11) rfl rfl ?_
          refine hy_iload (i := 12) rfl rfl ?_
          refine hy_iald (i := 13) rfl rfl (by omega) (k := k) (by omega) ?_
          rw [e63]
          refine hy_iald (i := 14) rfl rfl (by omega) rfl ?_
          rw [e79]
          refine hy_const (i := 15) rfl (by decide) ?_
          refine hy_ic_ne (i := 16) (tt := 19) rfl (fun zc2 => ?_) (fun zc2 => ?_)
          · refine hy_const (i := 19) rfl (by decide) ?_
            refine hy_iast (i := 20) rfl rfl (by omega) (k := k) (by omega) ?_
            refine hy_iinc (i := 21) rfl rfl (by omega) ?_
            refine hy_goto (i := 22) (tt := 2) rfl ?_
            exact ih (k + 1) _ (by omega) (by rw [ht]; simp only [mf_sea0N]; rw [if_neg hx])
          · exact absurd (by first | assumption | omega) hx
  refine hy_const (i := 0) rfl (by decide) ?_
  refine hy_istore (i := 1) rfl ?_
  exact loop 64 0 t rfl rfl
end ME
