/-! the class's law: clauses -/
def lc_val (t : hy_T) (V : Nat → Int) (a : Int) : Int := rc_run (t 12) (t 13) V (t 11 3) 240 a 0 (fun _ => 0)
def lc_hold (t : hy_T) (V : Nat → Int) (k : Int) : Bool := decide (∃ j : Nat, j < (t 11 7).toNat ∧ t 14 j = k ∧ lc_val t V (t 16 j) ≠ 0)
def lc_clamp (m v : Int) : Int := if 0 < (if v < m then v else m) then (if v < m then v else m) else 0
def lc_amtN (t : hy_T) (V : Nat → Int) (k m : Int) : Nat → Nat → Int
  | 0, _ => 0
  | n + 1, j => if t 14 j = k ∧ lc_val t V (t 16 j) ≠ 0 then lc_clamp m (lc_val t V (t 15 j)) else lc_amtN t V k m n (j + 1)
def lc_amt (t : hy_T) (V : Nat → Int) (k m : Int) : Int := lc_amtN t V k m (t 11 7).toNat 0
/-- what the letters stand for -/
def LV (e c q dd m a b n g o : Int) : Nat → Int := fun j => match j with
  | 0 => e
  | 1 => c
  | 2 => q
  | 3 => dd
  | 4 => m
  | 5 => a
  | 6 => b
  | 7 => n
  | 8 => g
  | 9 => o
  | _ => 0
/-- only ten values are read -/
theorem rc_vals (ops args : Nat → Int) (V V' : Nat → Int) (steps : Int) (hv : ∀ j, j < 10 → V j = V' j) : ∀ (n : Nat) (a : Int) (z : Nat) (f : Nat → Int), rc_run ops args V steps n a z f = rc_run ops args V' steps n a z f
  | 0, a, z, f => rfl
  | n + 1, a, z, f => by
    have key : rc_step (ops a.toNat) (args a.toNat) V (a + 1) z f = rc_step (ops a.toNat) (args a.toNat) V' (a + 1) z f := by
      unfold rc_step
      by_cases zc1 : ops a.toNat = 48 ∨ ops a.toNat = 97
      · rw [if_pos zc1, if_pos zc1]
        by_cases zc2 : z < 32 ∧ (ops a.toNat = 48 ∨ args a.toNat < 10)
        · rw [if_pos zc2, if_pos zc2]
          by_cases zc3 : ops a.toNat = 48
          · rw [if_pos zc3, if_pos zc3]
          · rw [if_neg zc3, if_neg zc3, hv _ (by omega)]
        · rw [if_neg zc2, if_neg zc2]
      · rw [if_neg zc1, if_neg zc1]
    by_cases hc : 0 ≤ a ∧ a < steps ∧ ops a.toNat ≠ 46
    · cases h : rc_step (ops a.toNat) (args a.toNat) V' (a + 1) z f with
      | none => rw [rc_no hc (key.trans h), rc_no hc h]
      | some q =>
        obtain ⟨a', z', f'⟩ := q
        rw [rc_go hc (key.trans h), rc_go hc h]
        exact rc_vals ops args V V' steps hv n a' z' f'
    · rw [rc_stop hc, rc_stop hc]
theorem lc_val_V {t : hy_T} {V V' : Nat → Int} (hv : ∀ j, j < 10 → V j = V' j) (a : Int) : lc_val t V a = lc_val t V' a := rc_vals _ _ V V' _ hv 240 a 0 _
theorem lc_hold_V {t : hy_T} {V V' : Nat → Int} (hv : ∀ j, j < 10 → V j = V' j) (k : Int) : lc_hold t V k = lc_hold t V' k := by
  unfold lc_hold
  simp only [lc_val_V hv]
theorem lc_amt_V {t : hy_T} {V V' : Nat → Int} (hv : ∀ j, j < 10 → V j = V' j) (k m : Int) : lc_amt t V k m = lc_amt t V' k m := by
  have h : ∀ n j, lc_amtN t V k m n j = lc_amtN t V' k m n j := by
    intro n
    induction n with
    | zero => intro j; rfl
    | succ n ih => intro j; simp only [lc_amtN, lc_val_V hv, ih]
  exact h _ _
/-- the places where a law is held -/
abbrev lawX : Nat → Nat → Bool := fun r j => (r == 12 || r == 13 || r == 14 || r == 15 || r == 16) || (r == 11 && (j == 3 || j == 7))
def lc_same (t t' : hy_T) : Prop := ∀ r j, lawX r j = true → t' r j = t r j
theorem lc_same_val {t t' : hy_T} (h : lc_same t t') (V : Nat → Int) (a : Int) : lc_val t' V a = lc_val t V a := by
  unfold lc_val
  rw [show t' 12 = t 12 from funext fun j => h 12 j rfl, show t' 13 = t 13 from funext fun j => h 13 j rfl, h 11 3 rfl]
theorem lc_same_hold {t t' : hy_T} (h : lc_same t t') (V : Nat → Int) (k : Int) : lc_hold t' V k = lc_hold t V k := by
  unfold lc_hold
  simp only [lc_same_val h, h 11 7 rfl, show ∀ j, t' 14 j = t 14 j from fun j => h 14 j rfl, show ∀ j, t' 16 j = t 16 j from fun j => h 16 j rfl]
theorem lc_same_amt {t t' : hy_T} (h : lc_same t t') (V : Nat → Int) (k m : Int) : lc_amt t' V k m = lc_amt t V k m := by
  have h1 : ∀ n j, lc_amtN t' V k m n j = lc_amtN t V k m n j := by
    intro n
    induction n with
    | zero => intro j; rfl
    | succ n ih => intro j; simp only [lc_amtN, lc_same_val h, ih, show ∀ j, t' 14 j = t 14 j from fun j => h 14 j rfl, show ∀ j, t' 15 j = t 15 j from fun j => h 15 j rfl, show ∀ j, t' 16 j = t 16 j from fun j => h 16 j rfl]
  unfold lc_amt
  rw [h1, h 11 7 rfl]
theorem lc_same_has {t t' : hy_T} (h : lc_same t t') (k : Int) : rc_has t' k = rc_has t k := by
  unfold rc_has
  simp only [h 11 7 rfl, show ∀ j, t' 14 j = t 14 j from fun j => h 14 j rfl]
theorem lc_same_of {X : Nat → Nat → Bool} {t t' : hy_T} (h : hy_F X t t') (hX : ∀ r j, lawX r j = true → X r j = false) : lc_same t t' := fun r j q => h r j (hX r j q)
theorem rc_val_lc (t : hy_T) (a : Int) : rc_val t 11 a = lc_val t (t 17) a := rfl
/-- a law that is well laid: what its evaluation needs -/
def lc_ok (t : hy_T) : Prop := t 11 3 ≤ 241 ∧ (0 ≤ t 11 7 ∧ t 11 7 ≤ 16) ∧ ∀ j : Nat, j < 241 → 0 ≤ t 13 j
theorem lc_ok_same {t t' : hy_T} (h : lc_same t t') (hk : lc_ok t) : lc_ok t' := by
  obtain ⟨h1, h2, h3⟩ := hk
  exact ⟨by rw [h 11 3 rfl]; exact h1, by rw [h 11 7 rfl]; exact h2, fun j hj => by rw [h 13 j rfl]; exact h3 j hj⟩
section LX
variable {sc : List Int32} {t : hy_T}
theorem c_L_holds {k : Int} (hk : lc_ok t) : hy_Ct sc hm_L_holds 2 [.inr (some 11), .inl k] t (fun r t' => r = some (hy_b (lc_hold t (t 17) k)) ∧ hy_F rX t t') := by
  refine hy_mk_ct ok_L_holds ck_L_holds (Nat.le_of_ble_eq_true rfl) ?_
  have loop : ∀ (n : Nat), ∀ (j : Nat) (t1 : hy_T), n + j = (t 11 7).toNat → hy_F rX t t1 → (∀ m : Nat, m < j → ¬ (t 14 m = k ∧ lc_val t (t 17) (t 16 m) ≠ 0)) → hy_W sc hm_L_holds 2 2 [.inr (some 11), .inl k, .inl (j : Int)] [] t1 (fun r t' => r = some (hy_b (lc_hold t (t 17) k)) ∧ hy_F rX t t') := by
    intro n
    induction n with
    | zero =>
      intro j t1 hj hF hi
      have o1 : t1 11 7 = t 11 7 := hF 11 7 rfl
      have hk2 := hk.2.1
      refine hy_iload (i := 2) rfl rfl ?_
      refine hy_aload (i := 3) rfl rfl ?_
      refine hy_get (i := 4) (fk := 7) rfl rfl rfl ?_
      rw [o1]
      refine hy_ic_ge (i := 5) (tt := 23) rfl (fun zc1 => ?_) (fun zc1 => ?_)
      · refine hy_const (i := 23) rfl (by decide) ?_
        refine hy_zreturn (i := 24) rfl rfl (by first | decide | exact hy_b01 _) ?_
        refine ⟨congrArg some ?_, hF⟩
        rw [show lc_hold t (t 17) k = false from decide_eq_false (fun ⟨m, h1, h2⟩ => hi m (by omega) h2)]
        rfl
      · omega
    | succ n ih =>
      intro j t1 hj hF hi
      have o1 : t1 11 7 = t 11 7 := hF 11 7 rfl
      have hk2 := hk.2.1
      have hs := lc_same_of hF (fun r j q => by revert q; simp [lawX, rX]; omega)
      obtain ⟨k1, -, k3⟩ := lc_ok_same hs hk
      have e1 : rc_val t1 11 (t1 16 j) = lc_val t (t 17) (t 16 j) := by rw [rc_val_lc, lc_same_val hs, show t1 17 = t 17 from funext fun z => hF 17 z rfl, hF 16 j rfl]
      have e2 : t1 14 j = t 14 j := hF 14 j rfl
      refine hy_iload (i := 2) rfl rfl ?_
      refine hy_aload (i := 3) rfl rfl ?_
      refine hy_get (i := 4) (fk := 7) rfl rfl rfl ?_
      rw [o1]
      refine hy_ic_ge (i := 5) (tt := 23) rfl (fun zc1 => ?_) (fun zc1 => ?_)
      · omega
      · refine hy_aload (i := 6) rfl rfl ?_
        refine hy_getr (i := 7) rfl rfl ?_
        refine hy_iload (i := 8) rfl rfl ?_
        refine hy_iald (i := 9) rfl rfl (by omega) rfl ?_
        refine hy_iload (i := 10) rfl rfl ?_
        refine hy_ic_ne (i := 11) (tt := 21) rfl (fun zc2 => ?_) (fun zc2 => ?_)
        · refine hy_iinc (i := 21) rfl rfl (by omega) ?_
          refine hy_goto (i := 22) (tt := 2) rfl ?_
          refine ih (j + 1) _ (by omega) (by first | exact hF | exact hF.tr' (by assumption)) (fun m hm => ?_)
          rcases Nat.lt_succ_iff_lt_or_eq.mp hm with h | rfl
          · exact hi m h
          · intro q
            rw [← e1, ← e2] at q
            first | exact absurd q.1 (by assumption) | exact q.2 (by assumption)
        · refine hy_aload (i := 12) rfl rfl ?_
          refine hy_aload (i := 13) rfl rfl ?_
          refine hy_getr (i := 14) rfl rfl ?_
          refine hy_iload (i := 15) rfl rfl ?_
          refine hy_iald (i := 16) rfl rfl (by omega) rfl ?_
          refine hy_cV1 (i := 17) rfl mj_L_run (by decide) rfl (Nat.le_of_ble_eq_true rfl) rfl rfl rfl (c_L_run (by assumption) (by assumption)) (fun r1_ t1_ h1 => ?_)
          obtain ⟨rfl, hF1⟩ := h1
          dsimp only [hy_st, List.cons_append, List.nil_append]
          refine hy_if_eq (i := 18) (tt := 21) rfl (fun zc3 => ?_) (fun zc3 => ?_)
          · refine hy_iinc (i := 21) rfl rfl (by omega) ?_
            refine hy_goto (i := 22) (tt := 2) rfl ?_
            refine ih (j + 1) _ (by omega) (by first | exact hF | exact hF.tr' (by assumption)) (fun m hm => ?_)
            rcases Nat.lt_succ_iff_lt_or_eq.mp hm with h | rfl
            · exact hi m h
            · intro q
              rw [← e1, ← e2] at q
              first | exact absurd q.1 (by assumption) | exact q.2 (by assumption)
          · refine hy_const (i := 19) rfl (by decide) ?_
            refine hy_zreturn (i := 20) rfl rfl (by first | decide | exact hy_b01 _) ?_
            refine ⟨congrArg some ?_, by exact hF.tr' (by assumption)⟩
            rw [show lc_hold t (t 17) k = true from decide_eq_true ⟨j, by omega, by rw [← e2]; assumption, by rw [← e1]; assumption⟩]
            rfl
  refine hy_const (i := 0) rfl (by decide) ?_
  refine hy_istore (i := 1) rfl ?_
  exact loop (t 11 7).toNat 0 t rfl hy_F.rf (fun m hm => by omega)
theorem c_L_amount {k m : Int} (hk : lc_ok t) : hy_Ct sc hm_L_amount 2 [.inr (some 11), .inl k, .inl m] t (fun r t' => r = some (lc_amt t (t 17) k m) ∧ hy_F rX t t') := by
  refine hy_mk_ct ok_L_amount ck_L_amount (Nat.le_of_ble_eq_true rfl) ?_
  have loop : ∀ (n : Nat), ∀ (j : Nat) (t1 : hy_T), n + j = (t 11 7).toNat → hy_F rX t t1 → lc_amtN t (t 17) k m n j = lc_amt t (t 17) k m → hy_W sc hm_L_amount 2 2 [.inr (some 11), .inl k, .inl m, .inl (j : Int)] [] t1 (fun r t' => r = some (lc_amt t (t 17) k m) ∧ hy_F rX t t') := by
    intro n
    induction n with
    | zero =>
      intro j t1 hj hF hi
      have o1 : t1 11 7 = t 11 7 := hF 11 7 rfl
      have hk2 := hk.2.1
      refine hy_iload (i := 2) rfl rfl ?_
      refine hy_aload (i := 3) rfl rfl ?_
      refine hy_get (i := 4) (fk := 7) rfl rfl rfl ?_
      rw [o1]
      refine hy_ic_ge (i := 5) (tt := 32) rfl (fun zc1 => ?_) (fun zc1 => ?_)
      · refine hy_const (i := 32) rfl (by decide) ?_
        refine hy_ireturn (i := 33) rfl rfl ?_
        exact ⟨congrArg some hi, hF⟩
      · omega
    | succ n ih =>
      intro j t1 hj hF hi
      have o1 : t1 11 7 = t 11 7 := hF 11 7 rfl
      have hk2 := hk.2.1
      have hs := lc_same_of hF (fun r j q => by revert q; simp [lawX, rX]; omega)
      have hk1 := lc_ok_same hs hk
      have k1 := hk1.1
      have k3 := hk1.2.2
      have e1 : rc_val t1 11 (t1 16 j) = lc_val t (t 17) (t 16 j) := by rw [rc_val_lc, lc_same_val hs, show t1 17 = t 17 from funext fun z => hF 17 z rfl, hF 16 j rfl]
      have e2 : t1 14 j = t 14 j := hF 14 j rfl
      refine hy_iload (i := 2) rfl rfl ?_
      refine hy_aload (i := 3) rfl rfl ?_
      refine hy_get (i := 4) (fk := 7) rfl rfl rfl ?_
      rw [o1]
      refine hy_ic_ge (i := 5) (tt := 32) rfl (fun zc1 => ?_) (fun zc1 => ?_)
      · omega
      · refine hy_aload (i := 6) rfl rfl ?_
        refine hy_getr (i := 7) rfl rfl ?_
        refine hy_iload (i := 8) rfl rfl ?_
        refine hy_iald (i := 9) rfl rfl (by omega) rfl ?_
        refine hy_iload (i := 10) rfl rfl ?_
        refine hy_ic_ne (i := 11) (tt := 30) rfl (fun zc2 => ?_) (fun zc2 => ?_)
        · refine hy_iinc (i := 30) rfl rfl (by omega) ?_
          refine hy_goto (i := 31) (tt := 2) rfl ?_
          refine ih (j + 1) _ (by omega) (by first | exact hF | exact hF.tr' hF1) ?_
          rw [← hi]
          simp only [lc_amtN]
          rw [if_neg]
          intro q
          rw [← e1, ← e2] at q
          first | exact absurd q.1 (by assumption) | exact q.2 (by assumption)
        · refine hy_aload (i := 12) rfl rfl ?_
          refine hy_aload (i := 13) rfl rfl ?_
          refine hy_getr (i := 14) rfl rfl ?_
          refine hy_iload (i := 15) rfl rfl ?_
          refine hy_iald (i := 16) rfl rfl (by omega) rfl ?_
          refine hy_cV1 (i := 17) rfl mj_L_run (by decide) rfl (Nat.le_of_ble_eq_true rfl) rfl rfl rfl (c_L_run (by assumption) (by assumption)) (fun r1_ t1_ h1 => ?_)
          obtain ⟨rfl, hF1⟩ := h1
          dsimp only [hy_st, List.cons_append, List.nil_append]
          refine hy_if_eq (i := 18) (tt := 30) rfl (fun zc3 => ?_) (fun zc3 => ?_)
          · refine hy_iinc (i := 30) rfl rfl (by omega) ?_
            refine hy_goto (i := 31) (tt := 2) rfl ?_
            refine ih (j + 1) _ (by omega) (by first | exact hF | exact hF.tr' hF1) ?_
            rw [← hi]
            simp only [lc_amtN]
            rw [if_neg]
            intro q
            rw [← e1, ← e2] at q
            first | exact absurd q.1 (by assumption) | exact q.2 (by assumption)
          · refine hy_const (i := 19) rfl (by decide) ?_
            refine hy_iload (i := 20) rfl rfl ?_
            have hs2 := lc_same_of hF1 (fun r j q => by revert q; simp [lawX, rX]; omega)
            have hk3 := lc_ok_same hs2 hk1
            have k5 := hk3.1
            have k6 := hk3.2.2
            have e3 : rc_val t1_ 11 (t1_ 15 j) = lc_val t (t 17) (t 15 j) := by rw [rc_val_lc, lc_same_val hs2, lc_same_val hs, show t1_ 17 = t1 17 from funext fun z => hF1 17 z rfl, show t1 17 = t 17 from funext fun z => hF 17 z rfl, hF1 15 j rfl, hF 15 j rfl]
            refine hy_aload (i := 21) rfl rfl ?_
            refine hy_aload (i := 22) rfl rfl ?_
            refine hy_getr (i := 23) rfl rfl ?_
            refine hy_iload (i := 24) rfl rfl ?_
            refine hy_iald (i := 25) rfl rfl (by omega) rfl ?_
            refine hy_cV1 (i := 26) rfl mj_L_run (by decide) rfl (Nat.le_of_ble_eq_true rfl) rfl rfl rfl (c_L_run (by assumption) (by assumption)) (fun r2_ t2_ h2 => ?_)
            obtain ⟨rfl, hF2⟩ := h2
            dsimp only [hy_st, List.cons_append, List.nil_append]
            refine hy_min (i := 27) rfl (Nat.le_of_ble_eq_true rfl) ?_
            refine hy_max (i := 28) rfl (Nat.le_of_ble_eq_true rfl) ?_
            refine hy_ireturn (i := 29) rfl rfl ?_
            refine ⟨congrArg some ?_, (hF.tr' hF1).tr' hF2⟩
            rw [← hi]
            simp only [lc_amtN]
            have hp : t 14 j = k ∧ lc_val t (t 17) (t 16 j) ≠ 0 := ⟨by rw [← e2]; assumption, by rw [← e1]; assumption⟩
            rw [if_pos hp, ← e3]
            rfl
  refine hy_const (i := 0) rfl (by decide) ?_
  refine hy_istore (i := 1) rfl ?_
  exact loop (t 11 7).toNat 0 t rfl hy_F.rf rfl
end LX
