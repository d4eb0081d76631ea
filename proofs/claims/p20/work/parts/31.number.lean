/-! the class's law: a number as it is read -/
def rn_N : Nat → hy_T → Int → hy_T × Int
  | 0, t, c => (t, c)
  | n + 1, t, c => if 48 ≤ tp_next t ∧ tp_next t ≤ 57 then rn_N n (tp_step t) (10 * c + tp_next t - 48) else (t, c)
def rn_end (p : hy_T × Int) : hy_T := lp_emit (if 48 ≤ tp_next p.1 ∧ tp_next p.1 ≤ 57 then tp_fail p.1 2 (p.1 3 3) else p.1) 48 p.2
def rn_num (t : hy_T) : hy_T := rn_end (rn_N 5 t 0)
theorem rn_N_s : ∀ (n : Nat) {t : hy_T} {c : Int}, lp_ok t → (0 ≤ c) → lp_ok (rn_N n t c).1 ∧ hy_F lpX t (rn_N n t c).1 ∧ 0 ≤ (rn_N n t c).2
  | 0, t, c, h, hc => ⟨h, hy_F.rf, hc⟩
  | n + 1, t, c, h, hc => by
    simp only [rn_N]
    split
    · obtain ⟨h1, h2, h3⟩ := rn_N_s n (c := 10 * c + tp_next t - 48) (lp_ok_tp (tp_step_F t) h (tp_step_ok h.1 (by omega))) (by omega)
      exact ⟨h1, (lpX_tp (tp_step_F t)).tr' h2, h3⟩
    · exact ⟨h, hy_F.rf, hc⟩
theorem rn_end_s {p : hy_T × Int} (h : lp_ok p.1) : lp_ok (rn_end p) ∧ hy_F lpX p.1 (rn_end p) := by
  unfold rn_end
  split
  · have f := tp_fail_G p.1 2 (p.1 3 3)
    obtain ⟨a, b⟩ := lp_emit_s (lp_ok_tp f h (tp_fail_ok h.1 _ _)) 48 p.2
    exact ⟨a, (lpX_tp f).tr' b⟩
  · exact lp_emit_s h 48 p.2
theorem rn_num_s {t : hy_T} (h : lp_ok t) : lp_ok (rn_num t) ∧ hy_F lpX t (rn_num t) := by
  obtain ⟨a1, a2, a3⟩ := rn_N_s 5 h (Int.le_refl 0)
  obtain ⟨b1, b2⟩ := rn_end_s a1
  exact ⟨b1, a2.tr' b2⟩
section RN
variable {sc : List Int32} {t : hy_T}
theorem c_L_readNumber (h : lp_ok t) : hy_Ct sc hm_L_readNumber 1 [.inr (some 19)] t (hy_e none (rn_num t)) := by
  refine hy_mk_ct ok_L_readNumber ck_L_readNumber (Nat.le_of_ble_eq_true rfl) ?_
  have fin : ∀ (c : Int) (t1 : hy_T) (v2 : hy_V), lp_ok t1 → hy_W sc hm_L_readNumber 1 27 [.inr (some 19), .inl c, v2] [] t1 (hy_e none (rn_end (t1, c))) := by
    intro c t1 v2 h1
    by_cases hd : 48 ≤ tp_next t1 ∧ tp_next t1 ≤ 57
    · have e : rn_end (t1, c) = lp_emit (tp_fail t1 2 (t1 3 3)) 48 c := by unfold rn_end; dsimp only; rw [if_pos hd]
      have h2 : lp_ok (tp_fail t1 2 (t1 3 3)) := lp_ok_tp (tp_fail_G t1 2 (t1 3 3)) h1 (tp_fail_ok h1.1 _ _)
      rw [e]
      refine hy_aload (i := 27) rfl rfl ?_
      refine hy_getr (i := 28) rfl rfl ?_
      refine hy_cV0e (i := 29) rfl mj_T_next (by decide) rfl (Nat.le_of_ble_eq_true rfl) rfl rfl rfl (c_T_next (tp_ok.e (And.left (show lp_ok _ by assumption)))) ?_
      refine hy_cS1e (i := 30) rfl (by decide) mj_W_isDigit (by decide) rfl (Nat.le_of_ble_eq_true rfl) (c_W_isDigit) ?_
      refine hy_ib_eq (i := 31) (tt := 36) rfl (fun zc1 => ?_) (fun zc1 => ?_)
      · simp at zc1; omega
      · refine hy_aload (i := 32) rfl rfl ?_
        refine hy_getr (i := 33) rfl rfl ?_
        refine hy_const (i := 34) rfl (by decide) ?_
        refine hy_cV1v (i := 35) rfl mj_T_fail (by decide) rfl (Nat.le_of_ble_eq_true rfl) rfl rfl rfl (c_T_fail (by decide) (by have := tp_ok.p (And.left (show lp_ok _ by assumption)); omega)) ?_
        refine hy_aload (i := 36) rfl rfl ?_
        refine hy_const (i := 37) rfl (by decide) ?_
        refine hy_iload (i := 38) rfl rfl ?_
        refine hy_cV2e (i := 39) rfl mj_L_emit (by decide) rfl (Nat.le_of_ble_eq_true rfl) rfl rfl rfl (c_L_emit (by have := (show lp_ok _ by assumption).2.1; omega)) ?_
        refine hy_pop (i := 40) rfl ?_
        refine hy_return (i := 41) rfl rfl ?_
        exact ⟨rfl, rfl⟩
    · have e : rn_end (t1, c) = lp_emit t1 48 c := by unfold rn_end; dsimp only; rw [if_neg hd]
      rw [e]
      refine hy_aload (i := 27) rfl rfl ?_
      refine hy_getr (i := 28) rfl rfl ?_
      refine hy_cV0e (i := 29) rfl mj_T_next (by decide) rfl (Nat.le_of_ble_eq_true rfl) rfl rfl rfl (c_T_next (tp_ok.e (And.left (show lp_ok _ by assumption)))) ?_
      refine hy_cS1e (i := 30) rfl (by decide) mj_W_isDigit (by decide) rfl (Nat.le_of_ble_eq_true rfl) (c_W_isDigit) ?_
      refine hy_ib_eq (i := 31) (tt := 36) rfl (fun zc1 => ?_) (fun zc1 => ?_)
      · refine hy_aload (i := 36) rfl rfl ?_
        refine hy_const (i := 37) rfl (by decide) ?_
        refine hy_iload (i := 38) rfl rfl ?_
        refine hy_cV2e (i := 39) rfl mj_L_emit (by decide) rfl (Nat.le_of_ble_eq_true rfl) rfl rfl rfl (c_L_emit (by have := (show lp_ok _ by assumption).2.1; omega)) ?_
        refine hy_pop (i := 40) rfl ?_
        refine hy_return (i := 41) rfl rfl ?_
        exact ⟨rfl, rfl⟩
      · simp at zc1; omega
  have loop : ∀ (n : Nat), ∀ (k : Nat) (c m : Int) (t1 : hy_T), n + k = 5 → lp_ok t1 → (0 ≤ c ∧ c ≤ m) → (k = 0 → m = 0) → (k = 1 → m = 9) → (k = 2 → m = 99) → (k = 3 → m = 999) → (k = 4 → m = 9999) → rn_end (rn_N n t1 c) = rn_num t → hy_W sc hm_L_readNumber 1 4 [.inr (some 19), .inl c, .inl (k : Int)] [] t1 (hy_e none (rn_num t)) := by
    intro n
    induction n with
    | zero =>
      intro k c m t1 hn h1 hc m0 m1 m2 m3 m4 he
      obtain rfl : k = 5 := by omega
      rw [← he]
      refine hy_iload (i := 4) rfl rfl ?_
      refine hy_const (i := 5) rfl (by decide) ?_
      refine hy_ic_ge (i := 6) (tt := 27) rfl (fun zc1 => ?_) (fun zc1 => ?_)
      · exact fin c t1 _ h1
      · omega
    | succ n ih =>
      intro k c m t1 hn h1 hc m0 m1 m2 m3 m4 he
      have hx := tp_next_in h1.1
      have hm : m ≤ 9999 := by omega
      by_cases hd : 48 ≤ tp_next t1 ∧ tp_next t1 ≤ 57
      · have e : rn_N (n + 1) t1 c = rn_N n (tp_step t1) (10 * c + tp_next t1 - 48) := by simp only [rn_N]; rw [if_pos hd]
        rw [e] at he
        refine hy_iload (i := 4) rfl rfl ?_
        refine hy_const (i := 5) rfl (by decide) ?_
        refine hy_ic_ge (i := 6) (tt := 27) rfl (fun zc1 => ?_) (fun zc1 => ?_)
        · omega
        · refine hy_aload (i := 7) rfl rfl ?_
          refine hy_getr (i := 8) rfl rfl ?_
          refine hy_cV0e (i := 9) rfl mj_T_next (by decide) rfl (Nat.le_of_ble_eq_true rfl) rfl rfl rfl (c_T_next (tp_ok.e (And.left (show lp_ok _ by assumption)))) ?_
          refine hy_cS1e (i := 10) rfl (by decide) mj_W_isDigit (by decide) rfl (Nat.le_of_ble_eq_true rfl) (c_W_isDigit) ?_
          refine hy_ib_eq (i := 11) (tt := 27) rfl (fun zc2 => ?_) (fun zc2 => ?_)
          · simp at zc2; omega
          · refine hy_const (i := 12) rfl (by decide) ?_
            refine hy_iload (i := 13) rfl rfl ?_
            refine hy_imul (i := 14) rfl (by omega) ?_
            refine hy_aload (i := 15) rfl rfl ?_
            refine hy_getr (i := 16) rfl rfl ?_
            refine hy_cV0e (i := 17) rfl mj_T_next (by decide) rfl (Nat.le_of_ble_eq_true rfl) rfl rfl rfl (c_T_next (tp_ok.e (And.left (show lp_ok _ by assumption)))) ?_
            refine hy_iadd (i := 18) rfl (by omega) ?_
            refine hy_const (i := 19) rfl (by decide) ?_
            refine hy_isub (i := 20) rfl (by omega) ?_
            refine hy_istore (i := 21) rfl ?_
            refine hy_aload (i := 22) rfl rfl ?_
            refine hy_getr (i := 23) rfl rfl ?_
            refine hy_cV0v (i := 24) rfl mj_T_step (by decide) rfl (Nat.le_of_ble_eq_true rfl) rfl rfl rfl (c_T_step (by have := tp_ok.p (And.left (show lp_ok _ by assumption)); omega)) ?_
            refine hy_iinc (i := 25) rfl rfl (by omega) ?_
            refine hy_goto (i := 26) (tt := 4) rfl ?_
            exact ih (k + 1) _ (10 * m + 9) _ (by omega) (lp_ok_tp (tp_step_F t1) h1 (tp_step_ok h1.1 (by omega))) (by omega) (by omega) (by omega) (by omega) (by omega) (by omega) he
      · have e : rn_N (n + 1) t1 c = (t1, c) := by simp only [rn_N]; rw [if_neg hd]
        rw [e] at he
        rw [← he]
        refine hy_iload (i := 4) rfl rfl ?_
        refine hy_const (i := 5) rfl (by decide) ?_
        refine hy_ic_ge (i := 6) (tt := 27) rfl (fun zc1 => ?_) (fun zc1 => ?_)
        · omega
        · refine hy_aload (i := 7) rfl rfl ?_
          refine hy_getr (i := 8) rfl rfl ?_
          refine hy_cV0e (i := 9) rfl mj_T_next (by decide) rfl (Nat.le_of_ble_eq_true rfl) rfl rfl rfl (c_T_next (tp_ok.e (And.left (show lp_ok _ by assumption)))) ?_
          refine hy_cS1e (i := 10) rfl (by decide) mj_W_isDigit (by decide) rfl (Nat.le_of_ble_eq_true rfl) (c_W_isDigit) ?_
          refine hy_ib_eq (i := 11) (tt := 27) rfl (fun zc2 => ?_) (fun zc2 => ?_)
          · exact fin c t1 _ h1
          · simp at zc2; omega
  refine hy_const (i := 0) rfl (by decide) ?_
  refine hy_istore (i := 1) rfl ?_
  refine hy_const (i := 2) rfl (by decide) ?_
  refine hy_istore (i := 3) rfl ?_
  exact loop 5 0 0 0 _ rfl h (by decide) (fun _ => rfl) (by omega) (by omega) (by omega) (by omega) rfl
end RN
