/-! the class's law: a number as it is read -/
def rn_N : Nat → hy_T → Int → hy_T × Int
  | 0, t, c => (t, c)
  | n + 1, t, c => if 48 ≤ tp_next t ∧ tp_next t ≤ 57 then rn_N n (tp_step t) (10 * c + tp_next t - 48) else (t, c)
def rn_end (p : hy_T × Int) : hy_T := lp_emit (if 48 ≤ tp_next p.1 ∧ tp_next p.1 ≤ 57 then tp_fail p.1 2 (p.1 3 3) else p.1) 48 p.2
def rn_num (t : hy_T) : hy_T := rn_end (rn_N 5 t 0)
theorem rn_N_s : ∀ (n : Nat) {t : hy_T} {c : Int}, lp_ok t → (0 ≤ c) → lp_ok (rn_N n t c).1 ∧ hy_F lpX t (rn_N n t c).1 ∧ 0 ≤ (rn_N n t c).2
  | 0, t, c, h, hc => ⟨h, hy_F.rf, hc⟩
  | n + 1, t, c, h, hc => by
    simp only [rn_N]
    split
    · obtain ⟨h1, h2, h3⟩ := rn_N_s n (c := 10 * c + tp_next t - 48) (lp_ok_tp (tp_step_F t) h (tp_step_ok h.1 (by omega))) (by omega)
      exact ⟨h1, (lpX_tp (tp_step_F t)).tr' h2, h3⟩
    · exact ⟨h, hy_F.rf, hc⟩
theorem rn_end_s {p : hy_T × Int} (h : lp_ok p.1) : lp_ok (rn_end p) ∧ hy_F lpX p.1 (rn_end p) := by
  unfold rn_end
  split
  · have f := tp_fail_G p.1 2 (p.1 3 3)
    obtain ⟨a, b⟩ := lp_emit_s (lp_ok_tp f h (tp_fail_ok h.1 _ _)) 48 p.2
    exact ⟨a, (lpX_tp f).tr' b⟩
  · exact lp_emit_s h 48 p.2
theorem rn_num_s {t : hy_T} (h : lp_ok t) : lp_ok (rn_num t) ∧ hy_F lpX t (rn_num t) := by
  obtain ⟨a1, a2, a3⟩ := rn_N_s 5 h (Int.le_refl 0)
  obtain ⟨b1, b2⟩ := rn_end_s a1
  exact ⟨b1, a2.tr' b2⟩
section RN
variable {sc : List Int32} {t : hy_T}
theorem c_L_readNumber (h : lp_ok t) : hy_Ct sc hm_L_readNumber 1 [.inr (some 19)] t (hy_e none (rn_num t)) := by
  refine hy_mk_ct ok_L_readNumber ck_L_readNumber (Nat.le_of_ble_eq_true rfl) ?_
  have fin : ∀ (c : Int) (t1 : hy_T) (v2 : hy_V), lp_ok t1 → hy_W sc hm_L_readNumber 1 27 [.inr (some 19), .inl c, v2] [] t1 (hy_e none (rn_end (t1, c))) := by
    intro c t1 v2 h1
    by_cases hd : 48 ≤ tp_next t1 ∧ tp_next t1 ≤ 57
    · have e : rn_end (t1, c) = lp_emit (tp_fail t1 2 (t1 3 3)) 48 c := by unfold rn_end; dsimp only; rw [if_pos hd]
      have h2 : lp_ok (tp_fail t1 2 (t1 3 3)) := lp_ok_tp (tp_fail_G t1 2 (t1 3 3)) h1 (tp_fail_ok h1.1 _ _)
      rw [e]
      refine hy_aload (i := 27) rfl rfl ?_
      refine hy_getr (i := 28) rfl rfl ?_
      refine hy_cV0e (i := 29) rfl mj_T_next (by decide) rfl (Nat.le_of_ble_eq_true rfl) rfl rfl rfl (c_T_next (tp_ok.e (And.left (show lp_ok _ by assumption)))) ?_
      refine hy_cS1e (i := 30) rfl (by decide) mj_W_isDigit (by decide) rfl (Nat.le_of_ble_eq_true rfl) (c_W_isDigit) ?_
      refine hy_ib_eq (i := 31) (tt := 36) rfl (fun zc1 => ?_) (fun zc1 => ?_)
      · simp at zc1; omega
      · refine hy_aload (i := 32) rfl rfl ?_
        refine hy_getr (i := 33) rfl rfl ?_
        refine hy_const (i := 34) rfl (by decide) ?_
        refine hy_cV1v (i := 35) rfl mj_T_fail (by decide) rfl (Nat.le_of_ble_eq_true rfl) rfl rfl rfl (c_T_fail (by decide) (by have := tp_ok.p (And.left (show lp_ok _ by assumption)); omega)) ?_
        refine hy_aload (i := 36) rfl rfl ?_
        refine hy_const (i := 37) rfl (by decide) ?_
        refine hy_iload (i := 38) rfl rfl ?_
        refine hy_cV2e (i := 39) rfl mj_L_emit (by decide) rfl (Nat.le_of_ble_eq_true rfl) rfl rfl rfl (c_L_emit (by have := (show lp_ok _ by assumption).2.1; omega)) ?_
        refine hy_pop (i := 40) rfl ?_
        refine hy_return (i := 41) rfl rfl ?_
        exact ⟨rfl, rfl⟩
    · have e : rn_end (t1, c) = lp_emit t1 48 c := by unfold rn_end; dsimp only; rw [if_neg hd]
      rw [e]
      refine hy_aload (i := 27) rfl rfl ?_
      refine hy_getr (i := 28) rfl rfl ?_
      refine hy_cV0e (i := 29) rfl mj_T_next (by decide) rfl (Nat.le_of_ble_eq_true rfl) rfl rfl rfl (c_T_next (tp_ok.e (And.left (show lp_ok _ by assumption)))) ?_
      refine hy_cS1e (i := 30) rfl (by decide) mj_W_isDigit (by decide) rfl (Nat.le_of_ble_eq_true rfl) (c_W_isDigit) ?_
      refine hy_ib_eq (i := 31) (tt := 36) rfl (fun zc1 => ?_) (fun zc1 => ?_)
      · refine hy_aload (i := 36) rfl rfl ?_
        refine hy_const (i := 37) rfl (by decide) ?_
        refine hy_iload (i := 38) rfl rfl ?_
        refine hy_cV2e (i := 39) rfl mj_L_emit (by decide) rfl (Nat.le_of_ble_eq_true rfl) rfl rfl rfl (c_L_emit (by have := (show lp_ok _ by assumption).2.1; omega)) ?_
        refine hy_pop (i := 40) rfl ?_
        refine hy_return (i := 41) rfl rfl ?_
        exact ⟨rfl, rfl⟩
      · simp at zc1; omega
  have loop : ∀ (n : Nat), ∀ (k : Nat) (c m : Int) (t1 : hy_T), n + k = 5 → lp_ok t1 → (0 ≤ c ∧ c ≤ m) → (k = 0 → m = 0) → (k = 1 → m = 9) → (k = 2 → m = 99) → (k = 3 → m = 999) → (k = 4 → m = 9999) → rn_end (rn_N n t1 c) = rn_num t → hy_W sc hm_L_readNumber 1 4 [.inr (some 19), .inl c, .inl (k : Int)] [] t1 (hy_e none (rn_num t)) := by
    intro n
    induction n with
    | zero =>
      intro k c m t1 hn h1 hc m0 m1 m2 m3 m4 he
      obtain rfl : k = 5 := by omega
      rw [← he]
      refine hy_iload (i := 4) rfl rfl ?_
      refine hy_const (i := 5) rfl (by decide) ?_
      refine hy_ic_ge (i := 6) (tt := 27) rfl (fun zc1 => ?_) (fun zc1 => ?_)
      · exact fin c t1 _ h1
      · omega
    | succ n ih =>
      intro k c m t1 hn h1 hc m0 m1 m2 m3 m4 he
      have hx := tp_next_in h1.1
      have hm : m ≤ 9999 := by omega
      by_cases hd : 48 ≤ tp_next t1 ∧ tp_next t1 ≤ 57
      · have e : rn_N (n + 1) t1 c = rn_N n (tp_step t1) (10 * c + tp_next t1 - 48) := by simp only [rn_N]; rw [if_pos hd]
        rw [e] at he
        refine hy_iload (i := 4) rfl rfl ?_
        refine hy_const (i := 5) rfl (by decide) ?_
        refine hy_ic_ge (i := 6) (tt := 27) rfl (fun zc1 => ?_) (fun zc1 => ?_)
        · omega
        · refine hy_aload (i := 7) rfl rfl ?_
          refine hy_getr (i := 8) rfl rfl ?_
          refine hy_cV0e (i := 9) rfl mj_T_next (by decide) rfl (Nat.le_of_ble_eq_true rfl) rfl rfl rfl (c_T_next (tp_ok.e (And.left (show lp_ok _ by assumption)))) ?_
          refine hy_cS1e (i := 10) rfl (by decide) mj_W_isDigit (by decide) rfl (Nat.le_of_ble_eq_true rfl) (c_W_isDigit) ?_
          refine hy_ib_eq (i := 11) (tt := 27) rfl (fun zc2 => ?_) (fun zc2 => ?_)
          · simp at zc2; omega
          · refine hy_const (i := 12) rfl (by decide) ?_
            refine hy_iload (i := 13) rfl rfl ?_
            refine hy_imul (i := 14) rfl (by omega) ?_
            refine hy_aload (i := 15) rfl rfl ?_
            refine hy_getr (i := 16) rfl rfl ?_
            refine hy_cV0e (i := 17) rfl mj_T_next (by decide) rfl (Nat.le_of_ble_eq_true rfl) rfl rfl rfl (c_T_next (tp_ok.e (And.left (show lp_ok _ by assumption)))) ?_
            refine hy_iadd (i := 18) rfl (by omega) ?_
            refine hy_const (i := 19) rfl (by decide) ?_
            refine hy_isub (i := 20) rfl (by omega) ?_
            refine hy_istore (i := 21) rfl ?_
            refine hy_aload (i := 22) rfl rfl ?_
            refine hy_getr (i := 23) rfl rfl ?_
            refine hy_cV0v (i := 24) rfl mj_T_step (by decide) rfl (Nat.le_of_ble_eq_true rfl) rfl rfl rfl (c_T_step (by have := tp_ok.p (And.left (show lp_ok _ by assumption)); omega)) ?_
            refine hy_iinc (i := 25) rfl rfl (by omega) ?_
            refine hy_goto (i := 26) (tt := 4) rfl ?_
            exact ih (k + 1) _ (10 * m + 9) _ (by omega) (lp_ok_tp (tp_step_F t1) h1 (tp_step_ok h1.1 (by omega))) (by omega) (by omega) (by omega) (by omega) (by omega) (by omega) he
      · have e : rn_N (n + 1) t1 c = (t1, c) := by simp only [rn_N]; rw [if_neg hd]
        rw [e] at he
        rw [← he]
        refine hy_iload (i := 4) rfl rfl ?_
        refine hy_const (i := 5) rfl (by decide) ?_
        refine hy_ic_ge (i := 6) (tt := 27) rfl (fun zc1 => ?_) (fun zc1 => ?_)
        · omega
        · refine hy_aload (i := 7) rfl rfl ?_
          refine hy_getr (i := 8) rfl rfl ?_
          refine hy_cV0e (i := 9) rfl mj_T_next (by decide) rfl (Nat.le_of_ble_eq_true rfl) rfl rfl rfl (c_T_next (tp_ok.e (And.left (show lp_ok _ by assumption)))) ?_
          refine hy_cS1e (i := 10) rfl (by decide) mj_W_isDigit (by decide) rfl (Nat.le_of_ble_eq_true rfl) (c_W_isDigit) ?_
          refine hy_ib_eq (i := 11) (tt := 27) rfl (fun zc2 => ?_) (fun zc2 => ?_)
          · exact fin c t1 _ h1
          · simp at zc2; omega
  refine hy_const (i := 0) rfl (by decide) ?_
  refine hy_istore (i := 1) rfl ?_
  refine hy_const (i := 2) rfl (by decide) ?_
  refine hy_istore (i := 3) rfl ?_
  exact loop 5 0 0 0 _ rfl h (by decide) (fun _ => rfl) (by omega) (by omega) (by omega) (by omega) rfl
end RN
/-! the class's law: sums and products as they are read -/
def rx_loop (p : Int → Bool) (F : hy_T → hy_T) : Nat → hy_T → hy_T
  | 0, t => t
  | n + 1, t => if p (tp_next t) = true then rx_loop p F n (lp_emit (F (tp_step t)) (tp_next t) 0) else t
def rx_product (F : hy_T → hy_T) (t : hy_T) : hy_T := rx_loop lp_times F 240 (F t)
def rx_good (F : hy_T → hy_T) : Prop := ∀ t, lp_ok t → lp_ok (F t) ∧ hy_F lpX t (F t)
theorem rx_step_ok {t : hy_T} (h : lp_ok t) (hn : 0 ≤ tp_next t) : lp_ok (tp_step t) := lp_ok_tp (tp_step_F t) h (tp_step_ok h.1 hn)
theorem rx_loop_s {p : Int → Bool} (hp : ∀ s, p s = true → 0 ≤ s) {F : hy_T → hy_T} (hF : rx_good F) : ∀ n, rx_good (rx_loop p F n)
  | 0 => fun t h => ⟨h, hy_F.rf⟩
  | n + 1 => fun t h => by
    simp only [rx_loop]
    split
    · next hc =>
      obtain ⟨a1, a2⟩ := hF _ (rx_step_ok h (hp _ hc))
      obtain ⟨b1, b2⟩ := lp_emit_s a1 (tp_next t) 0
      obtain ⟨c1, c2⟩ := rx_loop_s hp hF n _ b1
      exact ⟨c1, (((lpX_tp (tp_step_F t)).tr' a2).tr' b2).tr' c2⟩
    · exact ⟨h, hy_F.rf⟩
theorem lp_times_p {s : Int} (h : lp_times s = true) : 0 ≤ s := by
  unfold lp_times at h
  have := of_decide_eq_true h
  omega
theorem rx_product_s {F : hy_T → hy_T} (hF : rx_good F) : rx_good (rx_product F) := fun t h => by
  obtain ⟨a1, a2⟩ := hF t h
  obtain ⟨b1, b2⟩ := rx_loop_s (p := lp_times) (fun s => lp_times_p) hF 240 _ a1
  exact ⟨b1, a2.tr' b2⟩
def rx_pm (s : Int) : Bool := decide (s = 43 ∨ s = 45)
theorem rx_pm_p {s : Int} (h : rx_pm s = true) : 0 ≤ s := by
  unfold rx_pm at h
  have := of_decide_eq_true h
  omega
def rx_sum (P : hy_T → hy_T) (t : hy_T) : hy_T := rx_loop rx_pm P 240 (P t)
theorem rx_sum_s {F : hy_T → hy_T} (hF : rx_good F) : rx_good (rx_sum F) := fun t h => by
  obtain ⟨a1, a2⟩ := hF t h
  obtain ⟨b1, b2⟩ := rx_loop_s (p := rx_pm) (fun s => rx_pm_p) hF 240 _ a1
  exact ⟨b1, a2.tr' b2⟩
def rx_factor (S : Option (hy_T → hy_T)) (t : hy_T) : hy_T :=
  if 48 ≤ tp_next t ∧ tp_next t ≤ 57 then rn_num t
  else if tp_next t = 91 then (match S with
    | none => tp_fail t 5 (t 3 3)
    | some S => tp_take (S (tp_step t)) 93)
  else if lp_letter (tp_next t) < 0 then tp_fail t 1 (t 3 3) else lp_emit (tp_step t) 97 (lp_letter (tp_next t))
section RX
variable {sc : List Int32} {t : hy_T}
theorem c_L_readProduct {F : hy_T → hy_T} {d0 d : Nat} {o : Int} (hd : d0 < d) (hd2 : 2 < d) (hg : rx_good F) (hc : ∀ t1 : hy_T, lp_ok t1 → hy_Ct sc hm_L_readFactor d0 [.inr (some 19), .inl o] t1 (hy_e none (F t1))) (h : lp_ok t) : hy_Ct sc hm_L_readProduct d [.inr (some 19), .inl o] t (hy_e none (rx_product F t)) := by
  refine hy_mk_ct ok_L_readProduct ck_L_readProduct (Nat.le_of_ble_eq_true rfl) ?_
  have loop : ∀ (n : Nat), ∀ (k : Nat) (t1 : hy_T) (v3 : hy_V), n + k = 240 → lp_ok t1 → rx_loop lp_times F n t1 = rx_product F t → hy_W sc hm_L_readProduct d 5 [.inr (some 19), .inl o, .inl (k : Int), v3] [] t1 (hy_e none (rx_product F t)) := by
    intro n
    induction n with
    | zero =>
      intro k t1 v3 hn h1 he
      obtain rfl : k = 240 := by omega
      rw [← he]
      refine hy_iload (i := 5) rfl rfl ?_
      refine hy_const (i := 6) rfl (by decide) ?_
      refine hy_ic_ge (i := 7) (tt := 30) rfl (fun zc1 => ?_) (fun zc1 => ?_)
      · refine hy_return (i := 30) rfl rfl ?_
        exact ⟨rfl, rfl⟩
      · omega
    | succ n ih =>
      intro k t1 v3 hn h1 he
      by_cases hp : lp_times (tp_next t1) = true
      · have e : rx_loop lp_times F (n + 1) t1 = rx_loop lp_times F n (lp_emit (F (tp_step t1)) (tp_next t1) 0) := by simp only [rx_loop]; rw [if_pos hp]
        rw [e] at he
        have h2 : lp_ok (tp_step t1) := rx_step_ok h1 (lp_times_p hp)
        have h3 := (hg _ h2).1
        have h4 := (lp_emit_s h3 (tp_next t1) 0).1
        refine hy_iload (i := 5) rfl rfl ?_
        refine hy_const (i := 6) rfl (by decide) ?_
        refine hy_ic_ge (i := 7) (tt := 30) rfl (fun zc1 => ?_) (fun zc1 => ?_)
        · omega
        · refine hy_aload (i := 8) rfl rfl ?_
          refine hy_getr (i := 9) rfl rfl ?_
          refine hy_cV0e (i := 10) rfl mj_T_next (by omega) rfl (Nat.le_of_ble_eq_true rfl) rfl rfl rfl (c_T_next (tp_ok.e (And.left (show lp_ok _ by assumption)))) ?_
          refine hy_cS1e (i := 11) rfl (by decide) mj_L_isTimes (by omega) rfl (Nat.le_of_ble_eq_true rfl) (c_L_isTimes) ?_
          refine hy_ib_eq (i := 12) (tt := 30) rfl (fun zc2 => ?_) (fun zc2 => ?_)
          · simp_all
          · refine hy_aload (i := 13) rfl rfl ?_
            refine hy_getr (i := 14) rfl rfl ?_
            refine hy_cV0e (i := 15) rfl mj_T_next (by omega) rfl (Nat.le_of_ble_eq_true rfl) rfl rfl rfl (c_T_next (tp_ok.e (And.left (show lp_ok _ by assumption)))) ?_
            refine hy_istore (i := 16) rfl ?_
            refine hy_aload (i := 17) rfl rfl ?_
            refine hy_getr (i := 18) rfl rfl ?_
            refine hy_cV0v (i := 19) rfl mj_T_step (by omega) rfl (Nat.le_of_ble_eq_true rfl) rfl rfl rfl (c_T_step (by have := tp_ok.p (And.left (show lp_ok _ by assumption)); omega)) ?_
            refine hy_aload (i := 20) rfl rfl ?_
            refine hy_iload (i := 21) rfl rfl ?_
            refine hy_cV1v (i := 22) rfl mj_L_readFactor (by omega) rfl (Nat.le_of_ble_eq_true rfl) rfl rfl rfl (hc _ h2) ?_
            refine hy_aload (i := 23) rfl rfl ?_
            refine hy_iload (i := 24) rfl rfl ?_
            refine hy_const (i := 25) rfl (by decide) ?_
            refine hy_cV2e (i := 26) rfl mj_L_emit (by omega) rfl (Nat.le_of_ble_eq_true rfl) rfl rfl rfl (c_L_emit h3.2.1) ?_
            refine hy_pop (i := 27) rfl ?_
            refine hy_iinc (i := 28) rfl rfl (by omega) ?_
            refine hy_goto (i := 29) (tt := 5) rfl ?_
            exact ih (k + 1) _ _ (by omega) h4 he
      · have e : rx_loop lp_times F (n + 1) t1 = t1 := by simp only [rx_loop]; rw [if_neg hp]
        rw [e] at he
        rw [← he]
        refine hy_iload (i := 5) rfl rfl ?_
        refine hy_const (i := 6) rfl (by decide) ?_
        refine hy_ic_ge (i := 7) (tt := 30) rfl (fun zc1 => ?_) (fun zc1 => ?_)
        · omega
        · refine hy_aload (i := 8) rfl rfl ?_
          refine hy_getr (i := 9) rfl rfl ?_
          refine hy_cV0e (i := 10) rfl mj_T_next (by omega) rfl (Nat.le_of_ble_eq_true rfl) rfl rfl rfl (c_T_next (tp_ok.e (And.left (show lp_ok _ by assumption)))) ?_
          refine hy_cS1e (i := 11) rfl (by decide) mj_L_isTimes (by omega) rfl (Nat.le_of_ble_eq_true rfl) (c_L_isTimes) ?_
          refine hy_ib_eq (i := 12) (tt := 30) rfl (fun zc2 => ?_) (fun zc2 => ?_)
          · refine hy_return (i := 30) rfl rfl ?_
            exact ⟨rfl, rfl⟩
          · simp_all
  refine hy_aload (i := 0) rfl rfl ?_
  refine hy_iload (i := 1) rfl rfl ?_
  refine hy_cV1v (i := 2) rfl mj_L_readFactor (by omega) rfl (Nat.le_of_ble_eq_true rfl) rfl rfl rfl (hc _ h) ?_
  refine hy_const (i := 3) rfl (by decide) ?_
  refine hy_istore (i := 4) rfl ?_
  exact loop 240 0 _ _ rfl (hg _ h).1 rfl
theorem c_L_readSum {F : hy_T → hy_T} {d0 d : Nat} {o : Int} (hd : d0 < d) (hd2 : 2 < d) (hg : rx_good F) (hc : ∀ t1 : hy_T, lp_ok t1 → hy_Ct sc hm_L_readProduct d0 [.inr (some 19), .inl o] t1 (hy_e none (F t1))) (h : lp_ok t) : hy_Ct sc hm_L_readSum d [.inr (some 19), .inl o] t (hy_e none (rx_sum F t)) := by
  refine hy_mk_ct ok_L_readSum ck_L_readSum (Nat.le_of_ble_eq_true rfl) ?_
  have loop : ∀ (n : Nat), ∀ (k : Nat) (t1 : hy_T) (v3 : hy_V), n + k = 240 → lp_ok t1 → rx_loop rx_pm F n t1 = rx_sum F t → hy_W sc hm_L_readSum d 5 [.inr (some 19), .inl o, .inl (k : Int), v3] [] t1 (hy_e none (rx_sum F t)) := by
    intro n
    induction n with
    | zero =>
      intro k t1 v3 hn h1 he
      obtain rfl : k = 240 := by omega
      rw [← he]
      refine hy_iload (i := 5) rfl rfl ?_
      refine hy_const (i := 6) rfl (by decide) ?_
      refine hy_ic_ge (i := 7) (tt := 35) rfl (fun zc1 => ?_) (fun zc1 => ?_)
      · refine hy_return (i := 35) rfl rfl ?_
        exact ⟨rfl, rfl⟩
      · omega
    | succ n ih =>
      intro k t1 v3 hn h1 he
      by_cases hp : tp_next t1 = 43 ∨ tp_next t1 = 45
      · have hq : rx_pm (tp_next t1) = true := decide_eq_true hp
        have e : rx_loop rx_pm F (n + 1) t1 = rx_loop rx_pm F n (lp_emit (F (tp_step t1)) (tp_next t1) 0) := by simp only [rx_loop]; rw [if_pos hq]
        rw [e] at he
        have h2 : lp_ok (tp_step t1) := rx_step_ok h1 (rx_pm_p hq)
        have h3 := (hg _ h2).1
        have h4 := (lp_emit_s h3 (tp_next t1) 0).1
        refine hy_iload (i := 5) rfl rfl ?_
        refine hy_const (i := 6) rfl (by decide) ?_
        refine hy_ic_ge (i := 7) (tt := 35) rfl (fun zc1 => ?_) (fun zc1 => ?_)
        · omega
        · refine hy_aload (i := 8) rfl rfl ?_
          refine hy_getr (i := 9) rfl rfl ?_
          refine hy_cV0e (i := 10) rfl mj_T_next (by omega) rfl (Nat.le_of_ble_eq_true rfl) rfl rfl rfl (c_T_next (tp_ok.e (And.left (show lp_ok _ by assumption)))) ?_
          refine hy_const (i := 11) rfl (by decide) ?_
          refine hy_ic_eq (i := 12) (tt := 18) rfl (fun zc2 => ?_) (fun zc2 => ?_)
          · refine hy_aload (i := 18) rfl rfl ?_
            refine hy_getr (i := 19) rfl rfl ?_
            refine hy_cV0e (i := 20) rfl mj_T_next (by omega) rfl (Nat.le_of_ble_eq_true rfl) rfl rfl rfl (c_T_next (tp_ok.e (And.left (show lp_ok _ by assumption)))) ?_
            refine hy_istore (i := 21) rfl ?_
            refine hy_aload (i := 22) rfl rfl ?_
            refine hy_getr (i := 23) rfl rfl ?_
            refine hy_cV0v (i := 24) rfl mj_T_step (by omega) rfl (Nat.le_of_ble_eq_true rfl) rfl rfl rfl (c_T_step (by have := tp_ok.p (And.left (show lp_ok _ by assumption)); omega)) ?_
            refine hy_aload (i := 25) rfl rfl ?_
            refine hy_iload (i := 26) rfl rfl ?_
            refine hy_cV1v (i := 27) rfl mj_L_readProduct (by omega) rfl (Nat.le_of_ble_eq_true rfl) rfl rfl rfl (hc _ h2) ?_
            refine hy_aload (i := 28) rfl rfl ?_
            refine hy_iload (i := 29) rfl rfl ?_
            refine hy_const (i := 30) rfl (by decide) ?_
            refine hy_cV2e (i := 31) rfl mj_L_emit (by omega) rfl (Nat.le_of_ble_eq_true rfl) rfl rfl rfl (c_L_emit h3.2.1) ?_
            refine hy_pop (i := 32) rfl ?_
            refine hy_iinc (i := 33) rfl rfl (by omega) ?_
            refine hy_goto (i := 34) (tt := 5) rfl ?_
            exact ih (k + 1) _ _ (by omega) h4 he
          · refine hy_aload (i := 13) rfl rfl ?_
            refine hy_getr (i := 14) rfl rfl ?_
            refine hy_cV0e (i := 15) rfl mj_T_next (by omega) rfl (Nat.le_of_ble_eq_true rfl) rfl rfl rfl (c_T_next (tp_ok.e (And.left (show lp_ok _ by assumption)))) ?_
            refine hy_const (i := 16) rfl (by decide) ?_
            refine hy_ic_ne (i := 17) (tt := 35) rfl (fun zc3 => ?_) (fun zc3 => ?_)
            · omega
            · refine hy_aload (i := 18) rfl rfl ?_
              refine hy_getr (i := 19) rfl rfl ?_
              refine hy_cV0e (i := 20) rfl mj_T_next (by omega) rfl (Nat.le_of_ble_eq_true rfl) rfl rfl rfl (c_T_next (tp_ok.e (And.left (show lp_ok _ by assumption)))) ?_
              refine hy_istore (i := 21) rfl ?_
              refine hy_aload (i := 22) rfl rfl ?_
              refine hy_getr (i := 23) rfl rfl ?_
              refine hy_cV0v (i := 24) rfl mj_T_step (by omega) rfl (Nat.le_of_ble_eq_true rfl) rfl rfl rfl (c_T_step (by have := tp_ok.p (And.left (show lp_ok _ by assumption)); omega)) ?_
              refine hy_aload (i := 25) rfl rfl ?_
              refine hy_iload (i := 26) rfl rfl ?_
              refine hy_cV1v (i := 27) rfl mj_L_readProduct (by omega) rfl (Nat.le_of_ble_eq_true rfl) rfl rfl rfl (hc _ h2) ?_
              refine hy_aload (i := 28) rfl rfl ?_
              refine hy_iload (i := 29) rfl rfl ?_
              refine hy_const (i := 30) rfl (by decide) ?_
              refine hy_cV2e (i := 31) rfl mj_L_emit (by omega) rfl (Nat.le_of_ble_eq_true rfl) rfl rfl rfl (c_L_emit h3.2.1) ?_
              refine hy_pop (i := 32) rfl ?_
              refine hy_iinc (i := 33) rfl rfl (by omega) ?_
              refine hy_goto (i := 34) (tt := 5) rfl ?_
              exact ih (k + 1) _ _ (by omega) h4 he
      · have hq : ¬ rx_pm (tp_next t1) = true := fun q => hp (of_decide_eq_true q)
        have e : rx_loop rx_pm F (n + 1) t1 = t1 := by simp only [rx_loop]; rw [if_neg hq]
        rw [e] at he
        rw [← he]
        refine hy_iload (i := 5) rfl rfl ?_
        refine hy_const (i := 6) rfl (by decide) ?_
        refine hy_ic_ge (i := 7) (tt := 35) rfl (fun zc1 => ?_) (fun zc1 => ?_)
        · omega
        · refine hy_aload (i := 8) rfl rfl ?_
          refine hy_getr (i := 9) rfl rfl ?_
          refine hy_cV0e (i := 10) rfl mj_T_next (by omega) rfl (Nat.le_of_ble_eq_true rfl) rfl rfl rfl (c_T_next (tp_ok.e (And.left (show lp_ok _ by assumption)))) ?_
          refine hy_const (i := 11) rfl (by decide) ?_
          refine hy_ic_eq (i := 12) (tt := 18) rfl (fun zc2 => ?_) (fun zc2 => ?_)
          · omega
          · refine hy_aload (i := 13) rfl rfl ?_
            refine hy_getr (i := 14) rfl rfl ?_
            refine hy_cV0e (i := 15) rfl mj_T_next (by omega) rfl (Nat.le_of_ble_eq_true rfl) rfl rfl rfl (c_T_next (tp_ok.e (And.left (show lp_ok _ by assumption)))) ?_
            refine hy_const (i := 16) rfl (by decide) ?_
            refine hy_ic_ne (i := 17) (tt := 35) rfl (fun zc3 => ?_) (fun zc3 => ?_)
            · refine hy_return (i := 35) rfl rfl ?_
              exact ⟨rfl, rfl⟩
            · omega
  refine hy_aload (i := 0) rfl rfl ?_
  refine hy_iload (i := 1) rfl rfl ?_
  refine hy_cV1v (i := 2) rfl mj_L_readProduct (by omega) rfl (Nat.le_of_ble_eq_true rfl) rfl rfl rfl (hc _ h) ?_
  refine hy_const (i := 3) rfl (by decide) ?_
  refine hy_istore (i := 4) rfl ?_
  exact loop 240 0 _ _ rfl (hg _ h).1 rfl
end RX
/-! the class's law: a factor, and sums at all depths -/
theorem tp_ok_pq {t : hy_T} (h : tp_ok t) : -1 ≤ t 3 3 ∧ t 3 3 ≤ 1000 := by have := h.p; omega
theorem lp_fail_s {t : hy_T} (h : lp_ok t) (n w : Int) : lp_ok (tp_fail t n w) ∧ hy_F lpX t (tp_fail t n w) :=
  ⟨lp_ok_tp (tp_fail_G t n w) h (tp_fail_ok h.1 n w), lpX_tp (tp_fail_G t n w)⟩
theorem lp_take_s {t : hy_T} (h : lp_ok t) {s : Int} (hs : 0 ≤ s) : lp_ok (tp_take t s) ∧ hy_F lpX t (tp_take t s) :=
  ⟨lp_ok_tp (tp_take_F t s) h (tp_take_ok h.1 hs), lpX_tp (tp_take_F t s)⟩
theorem lp_letter_p {s : Int} (h : ¬ lp_letter s < 0) : 0 ≤ s := by
  unfold lp_letter at h
  repeat (split at h; omega)
  omega
theorem rx_factor_s {S : Option (hy_T → hy_T)} (hS : ∀ F, S = some F → rx_good F) : rx_good (rx_factor S) := fun t h => by
  unfold rx_factor
  split
  · exact rn_num_s h
  · split
    · split
      · exact lp_fail_s h _ _
      · next _ F =>
        obtain ⟨a1, a2⟩ := hS F rfl _ (rx_step_ok h (by omega))
        obtain ⟨b1, b2⟩ := lp_take_s a1 (s := 93) (by decide)
        exact ⟨b1, ((lpX_tp (tp_step_F t)).tr' a2).tr' b2⟩
    · split
      · exact lp_fail_s h _ _
      · next hl =>
        obtain ⟨b1, b2⟩ := lp_emit_s (rx_step_ok h (lp_letter_p hl)) 97 (lp_letter (tp_next t))
        exact ⟨b1, (lpX_tp (tp_step_F t)).tr' b2⟩
def rx_sumL : Nat → hy_T → hy_T
  | 0 => rx_sum (rx_product (rx_factor none))
  | n + 1 => rx_sum (rx_product (rx_factor (some (rx_sumL n))))
theorem rx_sumL_s : ∀ n, rx_good (rx_sumL n)
  | 0 => rx_sum_s (rx_product_s (rx_factor_s (fun F h => by cases h)))
  | n + 1 => rx_sum_s (rx_product_s (rx_factor_s (fun F h => by cases h; exact rx_sumL_s n)))
section FX
variable {sc : List Int32} {t : hy_T}
theorem c_L_readFactor {S : Option (hy_T → hy_T)} {d0 d : Nat} {o : Int} (hd : d0 < d) (hd2 : 2 < d) (h6 : o = 6 → S = none) (ho : 0 ≤ o ∧ o ≤ 6) (hS : o < 6 → ∃ F, S = some F ∧ rx_good F ∧ ∀ t1 : hy_T, lp_ok t1 → hy_Ct sc hm_L_readSum d0 [.inr (some 19), .inl (o + 1)] t1 (hy_e none (F t1))) (h : lp_ok t) : hy_Ct sc hm_L_readFactor d [.inr (some 19), .inl o] t (hy_e none (rx_factor S t)) := by
  refine hy_mk_ct ok_L_readFactor ck_L_readFactor (Nat.le_of_ble_eq_true rfl) ?_
  by_cases q1 : 48 ≤ tp_next t ∧ tp_next t ≤ 57
  · have e : rx_factor S t = rn_num t := by unfold rx_factor; rw [if_pos q1]
    rw [e]
    refine hy_aload (i := 0) rfl rfl ?_
    refine hy_getr (i := 1) rfl rfl ?_
    refine hy_cV0e (i := 2) rfl mj_T_next (by omega) rfl (Nat.le_of_ble_eq_true rfl) rfl rfl rfl (c_T_next (tp_ok.e (And.left (show lp_ok _ by assumption)))) ?_
    refine hy_istore (i := 3) rfl ?_
    refine hy_iload (i := 4) rfl rfl ?_
    refine hy_cS1e (i := 5) rfl (by decide) mj_W_isDigit (by omega) rfl (Nat.le_of_ble_eq_true rfl) (c_W_isDigit) ?_
    refine hy_ib_eq (i := 6) (tt := 10) rfl (fun zc1 => ?_) (fun zc1 => ?_)
    · simp at zc1; omega
    · refine hy_aload (i := 7) rfl rfl ?_
      refine hy_cV0v (i := 8) rfl mj_L_readNumber (by omega) rfl (Nat.le_of_ble_eq_true rfl) rfl rfl rfl (c_L_readNumber (by assumption)) ?_
      refine hy_return (i := 9) rfl rfl ?_
      exact ⟨rfl, rfl⟩
  · by_cases q2 : tp_next t = 91
    · by_cases q3 : o = 6
      · have e : rx_factor S t = tp_fail t 5 (t 3 3) := by unfold rx_factor; rw [if_neg q1, if_pos q2, h6 q3]
        rw [e]
        refine hy_aload (i := 0) rfl rfl ?_
        refine hy_getr (i := 1) rfl rfl ?_
        refine hy_cV0e (i := 2) rfl mj_T_next (by omega) rfl (Nat.le_of_ble_eq_true rfl) rfl rfl rfl (c_T_next (tp_ok.e (And.left (show lp_ok _ by assumption)))) ?_
        refine hy_istore (i := 3) rfl ?_
        refine hy_iload (i := 4) rfl rfl ?_
        refine hy_cS1e (i := 5) rfl (by decide) mj_W_isDigit (by omega) rfl (Nat.le_of_ble_eq_true rfl) (c_W_isDigit) ?_
        refine hy_ib_eq (i := 6) (tt := 10) rfl (fun zc1 => ?_) (fun zc1 => ?_)
        · refine hy_iload (i := 10) rfl rfl ?_
          refine hy_const (i := 11) rfl (by decide) ?_
          refine hy_ic_ne (i := 12) (tt := 34) rfl (fun zc2 => ?_) (fun zc2 => ?_)
          · omega
          · refine hy_iload (i := 13) rfl rfl ?_
            refine hy_const (i := 14) rfl (by decide) ?_
            refine hy_ic_lt (i := 15) (tt := 21) rfl (fun zc3 => ?_) (fun zc3 => ?_)
            · omega
            · refine hy_aload (i := 16) rfl rfl ?_
              refine hy_getr (i := 17) rfl rfl ?_
              refine hy_const (i := 18) rfl (by decide) ?_
              refine hy_cV1v (i := 19) rfl mj_T_fail (by omega) rfl (Nat.le_of_ble_eq_true rfl) rfl rfl rfl (c_T_fail (by decide) (by have := tp_ok.p (And.left (show lp_ok _ by assumption)); omega)) ?_
              refine hy_return (i := 20) rfl rfl ?_
              exact ⟨rfl, rfl⟩
        · simp at zc1; omega
      · obtain ⟨F, hF, hg, hc⟩ := hS (by omega)
        have e : rx_factor S t = tp_take (F (tp_step t)) 93 := by unfold rx_factor; rw [if_neg q1, if_pos q2, hF]
        rw [e]
        have h2 := rx_step_ok h (show 0 ≤ tp_next t by omega)
        have h3 := (hg _ h2).1
        refine hy_aload (i := 0) rfl rfl ?_
        refine hy_getr (i := 1) rfl rfl ?_
        refine hy_cV0e (i := 2) rfl mj_T_next (by omega) rfl (Nat.le_of_ble_eq_true rfl) rfl rfl rfl (c_T_next (tp_ok.e (And.left (show lp_ok _ by assumption)))) ?_
        refine hy_istore (i := 3) rfl ?_
        refine hy_iload (i := 4) rfl rfl ?_
        refine hy_cS1e (i := 5) rfl (by decide) mj_W_isDigit (by omega) rfl (Nat.le_of_ble_eq_true rfl) (c_W_isDigit) ?_
        refine hy_ib_eq (i := 6) (tt := 10) rfl (fun zc1 => ?_) (fun zc1 => ?_)
        · refine hy_iload (i := 10) rfl rfl ?_
          refine hy_const (i := 11) rfl (by decide) ?_
          refine hy_ic_ne (i := 12) (tt := 34) rfl (fun zc2 => ?_) (fun zc2 => ?_)
          · omega
          · refine hy_iload (i := 13) rfl rfl ?_
            refine hy_const (i := 14) rfl (by decide) ?_
            refine hy_ic_lt (i := 15) (tt := 21) rfl (fun zc3 => ?_) (fun zc3 => ?_)
            · refine hy_aload (i := 21) rfl rfl ?_
              refine hy_getr (i := 22) rfl rfl ?_
              refine hy_cV0v (i := 23) rfl mj_T_step (by omega) rfl (Nat.le_of_ble_eq_true rfl) rfl rfl rfl (c_T_step (by have := tp_ok.p (And.left (show lp_ok _ by assumption)); omega)) ?_
              refine hy_aload (i := 24) rfl rfl ?_
              refine hy_iload (i := 25) rfl rfl ?_
              refine hy_const (i := 26) rfl (by decide) ?_
              refine hy_iadd (i := 27) rfl (by omega) ?_
              refine hy_cV1v (i := 28) rfl mj_L_readSum (by omega) rfl (Nat.le_of_ble_eq_true rfl) rfl rfl rfl (hc _ h2) ?_
              refine hy_aload (i := 29) rfl rfl ?_
              refine hy_getr (i := 30) rfl rfl ?_
              refine hy_const (i := 31) rfl (by decide) ?_
              refine hy_cV1v (i := 32) rfl mj_T_take (by omega) rfl (Nat.le_of_ble_eq_true rfl) rfl rfl rfl (c_T_take h3.1.e (tp_ok_pq h3.1)) ?_
              refine hy_return (i := 33) rfl rfl ?_
              exact ⟨rfl, rfl⟩
            · omega
        · simp at zc1; omega
    · by_cases q3 : lp_letter (tp_next t) < 0
      · have e : rx_factor S t = tp_fail t 1 (t 3 3) := by unfold rx_factor; rw [if_neg q1, if_neg q2, if_pos q3]
        rw [e]
        refine hy_aload (i := 0) rfl rfl ?_
        refine hy_getr (i := 1) rfl rfl ?_
        refine hy_cV0e (i := 2) rfl mj_T_next (by omega) rfl (Nat.le_of_ble_eq_true rfl) rfl rfl rfl (c_T_next (tp_ok.e (And.left (show lp_ok _ by assumption)))) ?_
        refine hy_istore (i := 3) rfl ?_
        refine hy_iload (i := 4) rfl rfl ?_
        refine hy_cS1e (i := 5) rfl (by decide) mj_W_isDigit (by omega) rfl (Nat.le_of_ble_eq_true rfl) (c_W_isDigit) ?_
        refine hy_ib_eq (i := 6) (tt := 10) rfl (fun zc1 => ?_) (fun zc1 => ?_)
        · refine hy_iload (i := 10) rfl rfl ?_
          refine hy_const (i := 11) rfl (by decide) ?_
          refine hy_ic_ne (i := 12) (tt := 34) rfl (fun zc2 => ?_) (fun zc2 => ?_)
          · refine hy_iload (i := 34) rfl rfl ?_
            refine hy_cS1e (i := 35) rfl (by decide) mj_L_letterOf (by omega) rfl (Nat.le_of_ble_eq_true rfl) (c_L_letterOf) ?_
            refine hy_istore (i := 36) rfl ?_
            refine hy_iload (i := 37) rfl rfl ?_
            refine hy_if_ge (i := 38) (tt := 44) rfl (fun zc3 => ?_) (fun zc3 => ?_)
            · omega
            · refine hy_aload (i := 39) rfl rfl ?_
              refine hy_getr (i := 40) rfl rfl ?_
              refine hy_const (i := 41) rfl (by decide) ?_
              refine hy_cV1v (i := 42) rfl mj_T_fail (by omega) rfl (Nat.le_of_ble_eq_true rfl) rfl rfl rfl (c_T_fail (by decide) (by have := tp_ok.p (And.left (show lp_ok _ by assumption)); omega)) ?_
              refine hy_return (i := 43) rfl rfl ?_
              exact ⟨rfl, rfl⟩
          · omega
        · simp at zc1; omega
      · have e : rx_factor S t = lp_emit (tp_step t) 97 (lp_letter (tp_next t)) := by unfold rx_factor; rw [if_neg q1, if_neg q2, if_neg q3]
        rw [e]
        have h2 := rx_step_ok h (lp_letter_p q3)
        refine hy_aload (i := 0) rfl rfl ?_
        refine hy_getr (i := 1) rfl rfl ?_
        refine hy_cV0e (i := 2) rfl mj_T_next (by omega) rfl (Nat.le_of_ble_eq_true rfl) rfl rfl rfl (c_T_next (tp_ok.e (And.left (show lp_ok _ by assumption)))) ?_
        refine hy_istore (i := 3) rfl ?_
        refine hy_iload (i := 4) rfl rfl ?_
        refine hy_cS1e (i := 5) rfl (by decide) mj_W_isDigit (by omega) rfl (Nat.le_of_ble_eq_true rfl) (c_W_isDigit) ?_
        refine hy_ib_eq (i := 6) (tt := 10) rfl (fun zc1 => ?_) (fun zc1 => ?_)
        · refine hy_iload (i := 10) rfl rfl ?_
          refine hy_const (i := 11) rfl (by decide) ?_
          refine hy_ic_ne (i := 12) (tt := 34) rfl (fun zc2 => ?_) (fun zc2 => ?_)
          · refine hy_iload (i := 34) rfl rfl ?_
            refine hy_cS1e (i := 35) rfl (by decide) mj_L_letterOf (by omega) rfl (Nat.le_of_ble_eq_true rfl) (c_L_letterOf) ?_
            refine hy_istore (i := 36) rfl ?_
            refine hy_iload (i := 37) rfl rfl ?_
            refine hy_if_ge (i := 38) (tt := 44) rfl (fun zc3 => ?_) (fun zc3 => ?_)
            · refine hy_aload (i := 44) rfl rfl ?_
              refine hy_getr (i := 45) rfl rfl ?_
              refine hy_cV0v (i := 46) rfl mj_T_step (by omega) rfl (Nat.le_of_ble_eq_true rfl) rfl rfl rfl (c_T_step (by have := tp_ok.p (And.left (show lp_ok _ by assumption)); omega)) ?_
              refine hy_aload (i := 47) rfl rfl ?_
              refine hy_const (i := 48) rfl (by decide) ?_
              refine hy_iload (i := 49) rfl rfl ?_
              refine hy_cV2e (i := 50) rfl mj_L_emit (by omega) rfl (Nat.le_of_ble_eq_true rfl) rfl rfl rfl (c_L_emit h2.2.1) ?_
              refine hy_pop (i := 51) rfl ?_
              refine hy_return (i := 52) rfl rfl ?_
              exact ⟨rfl, rfl⟩
            · omega
          · omega
        · simp at zc1; omega
theorem c_L_sumL : ∀ (n : Nat) {d : Nat} {o : Int} {t : hy_T}, n ≤ 6 → o = 6 - n → d = 3 * n + 5 → lp_ok t → hy_Ct sc hm_L_readSum d [.inr (some 19), .inl o] t (hy_e none (rx_sumL n t))
  | 0, d, o, t, hn, ho, hd, h =>
    c_L_readSum (d0 := 4) (by omega) (by omega) (rx_product_s (rx_factor_s (fun F h => by cases h))) (fun t1 h1 =>
      c_L_readProduct (d0 := 3) (by omega) (by omega) (rx_factor_s (fun F h => by cases h)) (fun t2 h2 =>
        c_L_readFactor (d0 := 2) (by omega) (by omega) (fun _ => rfl) (by omega) (fun q => by omega) h2) h1) h
  | n + 1, d, o, t, hn, ho, hd, h =>
    have g : rx_good (rx_factor (some (rx_sumL n))) := rx_factor_s (fun F h => by cases h; exact rx_sumL_s n)
    c_L_readSum (d0 := 3 * n + 7) (by omega) (by omega) (rx_product_s g) (fun t1 h1 =>
      c_L_readProduct (d0 := 3 * n + 6) (by omega) (by omega) g (fun t2 h2 =>
        c_L_readFactor (d0 := 3 * n + 5) (by omega) (by omega) (fun q => by omega) (by omega) (fun q => ⟨_, rfl, rx_sumL_s n, fun t3 h3 => c_L_sumL n (by omega) (by omega) rfl h3⟩) h2) h1) h
end FX
/-! the class's law: parts and conditions as they are read -/
def rb_loop (sg : Int) (F : hy_T → hy_T) : Nat → hy_T → Int → hy_T
  | 0, t, l => lp_lead t l
  | n + 1, t, l => if tp_next t = sg then rb_loop sg F n (F (lp_emit (lp_lead (tp_step t) l) sg 0)) (lp_lead (tp_step t) l 19 3) else lp_lead t l
def rb_both (sg : Int) (F : hy_T → hy_T) (t : hy_T) : hy_T := rb_loop sg F 240 (F t) (-1)
theorem rb_loop_s {sg : Int} (hs : 0 ≤ sg) {F : hy_T → hy_T} (hF : rx_good F) : ∀ (n : Nat) (l : Int), rx_good (fun t => rb_loop sg F n t l)
  | 0, l => fun t h => lp_lead_s h l
  | n + 1, l => fun t h => by
    simp only [rb_loop]
    split
    · obtain ⟨a1, a2⟩ := lp_lead_s (rx_step_ok h (by omega)) l
      obtain ⟨b1, b2⟩ := lp_emit_s a1 sg 0
      obtain ⟨c1, c2⟩ := hF _ b1
      obtain ⟨d1, d2⟩ := rb_loop_s hs hF n (lp_lead (tp_step t) l 19 3) _ c1
      exact ⟨d1, ((((lpX_tp (tp_step_F t)).tr' a2).tr' b2).tr' c2).tr' d2⟩
    · exact lp_lead_s h l
theorem rb_both_s {sg : Int} (hs : 0 ≤ sg) {F : hy_T → hy_T} (hF : rx_good F) : rx_good (rb_both sg F) := fun t h => by
  obtain ⟨a1, a2⟩ := hF t h
  obtain ⟨b1, b2⟩ := rb_loop_s hs hF 240 (-1) _ a1
  exact ⟨b1, a2.tr' b2⟩
section RB
variable {sc : List Int32} {t : hy_T}
theorem c_L_readBoth {F : hy_T → hy_T} {d0 d : Nat} {o : Int} (hd : d0 < d) (hd2 : 2 < d) (hg : rx_good F) (hc : ∀ t1 : hy_T, lp_ok t1 → hy_Ct sc hm_L_readPiece d0 [.inr (some 19), .inl o] t1 (hy_e none (F t1))) (h : lp_ok t) : hy_Ct sc hm_L_readBoth d [.inr (some 19), .inl o] t (hy_e none (rb_both 38 F t)) := by
  refine hy_mk_ct ok_L_readBoth ck_L_readBoth (Nat.le_of_ble_eq_true rfl) ?_
  have loop : ∀ (n : Nat), ∀ (k : Nat) (l : Int) (t1 : hy_T), n + k = 240 → lp_ok t1 → rb_loop 38 F n t1 l = rb_both 38 F t → hy_W sc hm_L_readBoth d 7 [.inr (some 19), .inl o, .inl l, .inl (k : Int)] [] t1 (hy_e none (rb_both 38 F t)) := by
    intro n
    induction n with
    | zero =>
      intro k l t1 hn h1 he
      obtain rfl : k = 240 := by omega
      rw [← he]
      refine hy_iload (i := 7) rfl rfl ?_
      refine hy_const (i := 8) rfl (by decide) ?_
      refine hy_ic_ge (i := 9) (tt := 31) rfl (fun zc1 => ?_) (fun zc1 => ?_)
      · refine hy_aload (i := 31) rfl rfl ?_
        refine hy_iload (i := 32) rfl rfl ?_
        refine hy_cV1v (i := 33) rfl mj_L_leadHere (by omega) rfl (Nat.le_of_ble_eq_true rfl) rfl rfl rfl (c_L_leadHere) ?_
        refine hy_return (i := 34) rfl rfl ?_
        exact ⟨rfl, rfl⟩
      · omega
    | succ n ih =>
      intro k l t1 hn h1 he
      by_cases hp : tp_next t1 = 38
      · have e : rb_loop 38 F (n + 1) t1 l = rb_loop 38 F n (F (lp_emit (lp_lead (tp_step t1) l) 38 0)) (lp_lead (tp_step t1) l 19 3) := by simp only [rb_loop]; rw [if_pos hp]
        rw [e] at he
        have h2 := (lp_lead_s (rx_step_ok h1 (by omega)) l).1
        have h3 := (lp_emit_s h2 38 0).1
        have h4 := (hg _ h3).1
        refine hy_iload (i := 7) rfl rfl ?_
        refine hy_const (i := 8) rfl (by decide) ?_
        refine hy_ic_ge (i := 9) (tt := 31) rfl (fun zc1 => ?_) (fun zc1 => ?_)
        · omega
        · refine hy_aload (i := 10) rfl rfl ?_
          refine hy_getr (i := 11) rfl rfl ?_
          refine hy_cV0e (i := 12) rfl mj_T_next (by omega) rfl (Nat.le_of_ble_eq_true rfl) rfl rfl rfl (c_T_next (tp_ok.e (And.left (show lp_ok _ by assumption)))) ?_
          refine hy_const (i := 13) rfl (by decide) ?_
          refine hy_ic_ne (i := 14) (tt := 31) rfl (fun zc2 => ?_) (fun zc2 => ?_)
          · omega
          · refine hy_aload (i := 15) rfl rfl ?_
            refine hy_getr (i := 16) rfl rfl ?_
            refine hy_cV0v (i := 17) rfl mj_T_step (by omega) rfl (Nat.le_of_ble_eq_true rfl) rfl rfl rfl (c_T_step (by have := tp_ok.p (And.left (show lp_ok _ by assumption)); omega)) ?_
            refine hy_aload (i := 18) rfl rfl ?_
            refine hy_iload (i := 19) rfl rfl ?_
            refine hy_cV1v (i := 20) rfl mj_L_leadHere (by omega) rfl (Nat.le_of_ble_eq_true rfl) rfl rfl rfl (c_L_leadHere) ?_
            refine hy_aload (i := 21) rfl rfl ?_
            refine hy_const (i := 22) rfl (by decide) ?_
            refine hy_const (i := 23) rfl (by decide) ?_
            refine hy_cV2e (i := 24) rfl mj_L_emit (by omega) rfl (Nat.le_of_ble_eq_true rfl) rfl rfl rfl (c_L_emit h2.2.1) ?_
            refine hy_istore (i := 25) rfl ?_
            refine hy_aload (i := 26) rfl rfl ?_
            refine hy_iload (i := 27) rfl rfl ?_
            refine hy_cV1v (i := 28) rfl mj_L_readPiece (by omega) rfl (Nat.le_of_ble_eq_true rfl) rfl rfl rfl (hc _ h3) ?_
            refine hy_iinc (i := 29) rfl rfl (by omega) ?_
            refine hy_goto (i := 30) (tt := 7) rfl ?_
            exact ih (k + 1) _ _ (by omega) h4 he
      · have e : rb_loop 38 F (n + 1) t1 l = lp_lead t1 l := by simp only [rb_loop]; rw [if_neg hp]
        rw [e] at he
        rw [← he]
        refine hy_iload (i := 7) rfl rfl ?_
        refine hy_const (i := 8) rfl (by decide) ?_
        refine hy_ic_ge (i := 9) (tt := 31) rfl (fun zc1 => ?_) (fun zc1 => ?_)
        · omega
        · refine hy_aload (i := 10) rfl rfl ?_
          refine hy_getr (i := 11) rfl rfl ?_
          refine hy_cV0e (i := 12) rfl mj_T_next (by omega) rfl (Nat.le_of_ble_eq_true rfl) rfl rfl rfl (c_T_next (tp_ok.e (And.left (show lp_ok _ by assumption)))) ?_
          refine hy_const (i := 13) rfl (by decide) ?_
          refine hy_ic_ne (i := 14) (tt := 31) rfl (fun zc2 => ?_) (fun zc2 => ?_)
          · refine hy_aload (i := 31) rfl rfl ?_
            refine hy_iload (i := 32) rfl rfl ?_
            refine hy_cV1v (i := 33) rfl mj_L_leadHere (by omega) rfl (Nat.le_of_ble_eq_true rfl) rfl rfl rfl (c_L_leadHere) ?_
            refine hy_return (i := 34) rfl rfl ?_
            exact ⟨rfl, rfl⟩
          · omega
  refine hy_aload (i := 0) rfl rfl ?_
  refine hy_iload (i := 1) rfl rfl ?_
  refine hy_cV1v (i := 2) rfl mj_L_readPiece (by omega) rfl (Nat.le_of_ble_eq_true rfl) rfl rfl rfl (hc _ h) ?_
  refine hy_const (i := 3) rfl (by decide) ?_
  refine hy_istore (i := 4) rfl ?_
  refine hy_const (i := 5) rfl (by decide) ?_
  refine hy_istore (i := 6) rfl ?_
  exact loop 240 0 (-1) _ rfl (hg _ h).1 rfl
theorem c_L_readEither {F : hy_T → hy_T} {d0 d : Nat} {o : Int} (hd : d0 < d) (hd2 : 2 < d) (hg : rx_good F) (hc : ∀ t1 : hy_T, lp_ok t1 → hy_Ct sc hm_L_readBoth d0 [.inr (some 19), .inl o] t1 (hy_e none (F t1))) (h : lp_ok t) : hy_Ct sc hm_L_readEither d [.inr (some 19), .inl o] t (hy_e none (rb_both 124 F t)) := by
  refine hy_mk_ct ok_L_readEither ck_L_readEither (Nat.le_of_ble_eq_true rfl) ?_
  have loop : ∀ (n : Nat), ∀ (k : Nat) (l : Int) (t1 : hy_T), n + k = 240 → lp_ok t1 → rb_loop 124 F n t1 l = rb_both 124 F t → hy_W sc hm_L_readEither d 7 [.inr (some 19), .inl o, .inl l, .inl (k : Int)] [] t1 (hy_e none (rb_both 124 F t)) := by
    intro n
    induction n with
    | zero =>
      intro k l t1 hn h1 he
      obtain rfl : k = 240 := by omega
      rw [← he]
      refine hy_iload (i := 7) rfl rfl ?_
      refine hy_const (i := 8) rfl (by decide) ?_
      refine hy_ic_ge (i := 9) (tt := 31) rfl (fun zc1 => ?_) (fun zc1 => ?_)
      · refine hy_aload (i := 31) rfl rfl ?_
        refine hy_iload (i := 32) rfl rfl ?_
        refine hy_cV1v (i := 33) rfl mj_L_leadHere (by omega) rfl (Nat.le_of_ble_eq_true rfl) rfl rfl rfl (c_L_leadHere) ?_
        refine hy_return (i := 34) rfl rfl ?_
        exact ⟨rfl, rfl⟩
      · omega
    | succ n ih =>
      intro k l t1 hn h1 he
      by_cases hp : tp_next t1 = 124
      · have e : rb_loop 124 F (n + 1) t1 l = rb_loop 124 F n (F (lp_emit (lp_lead (tp_step t1) l) 124 0)) (lp_lead (tp_step t1) l 19 3) := by simp only [rb_loop]; rw [if_pos hp]
        rw [e] at he
        have h2 := (lp_lead_s (rx_step_ok h1 (by omega)) l).1
        have h3 := (lp_emit_s h2 124 0).1
        have h4 := (hg _ h3).1
        refine hy_iload (i := 7) rfl rfl ?_
        refine hy_const (i := 8) rfl (by decide) ?_
        refine hy_ic_ge (i := 9) (tt := 31) rfl (fun zc1 => ?_) (fun zc1 => ?_)
        · omega
        · refine hy_aload (i := 10) rfl rfl ?_
          refine hy_getr (i := 11) rfl rfl ?_
          refine hy_cV0e (i := 12) rfl mj_T_next (by omega) rfl (Nat.le_of_ble_eq_true rfl) rfl rfl rfl (c_T_next (tp_ok.e (And.left (show lp_ok _ by assumption)))) ?_
          refine hy_const (i := 13) rfl (by decide) ?_
          refine hy_ic_ne (i := 14) (tt := 31) rfl (fun zc2 => ?_) (fun zc2 => ?_)
          · omega
          · refine hy_aload (i := 15) rfl rfl ?_
            refine hy_getr (i := 16) rfl rfl ?_
            refine hy_cV0v (i := 17) rfl mj_T_step (by omega) rfl (Nat.le_of_ble_eq_true rfl) rfl rfl rfl (c_T_step (by have := tp_ok.p (And.left (show lp_ok _ by assumption)); omega)) ?_
            refine hy_aload (i := 18) rfl rfl ?_
            refine hy_iload (i := 19) rfl rfl ?_
            refine hy_cV1v (i := 20) rfl mj_L_leadHere (by omega) rfl (Nat.le_of_ble_eq_true rfl) rfl rfl rfl (c_L_leadHere) ?_
            refine hy_aload (i := 21) rfl rfl ?_
            refine hy_const (i := 22) rfl (by decide) ?_
            refine hy_const (i := 23) rfl (by decide) ?_
            refine hy_cV2e (i := 24) rfl mj_L_emit (by omega) rfl (Nat.le_of_ble_eq_true rfl) rfl rfl rfl (c_L_emit h2.2.1) ?_
            refine hy_istore (i := 25) rfl ?_
            refine hy_aload (i := 26) rfl rfl ?_
            refine hy_iload (i := 27) rfl rfl ?_
            refine hy_cV1v (i := 28) rfl mj_L_readBoth (by omega) rfl (Nat.le_of_ble_eq_true rfl) rfl rfl rfl (hc _ h3) ?_
            refine hy_iinc (i := 29) rfl rfl (by omega) ?_
            refine hy_goto (i := 30) (tt := 7) rfl ?_
            exact ih (k + 1) _ _ (by omega) h4 he
      · have e : rb_loop 124 F (n + 1) t1 l = lp_lead t1 l := by simp only [rb_loop]; rw [if_neg hp]
        rw [e] at he
        rw [← he]
        refine hy_iload (i := 7) rfl rfl ?_
        refine hy_const (i := 8) rfl (by decide) ?_
        refine hy_ic_ge (i := 9) (tt := 31) rfl (fun zc1 => ?_) (fun zc1 => ?_)
        · omega
        · refine hy_aload (i := 10) rfl rfl ?_
          refine hy_getr (i := 11) rfl rfl ?_
          refine hy_cV0e (i := 12) rfl mj_T_next (by omega) rfl (Nat.le_of_ble_eq_true rfl) rfl rfl rfl (c_T_next (tp_ok.e (And.left (show lp_ok _ by assumption)))) ?_
          refine hy_const (i := 13) rfl (by decide) ?_
          refine hy_ic_ne (i := 14) (tt := 31) rfl (fun zc2 => ?_) (fun zc2 => ?_)
          · refine hy_aload (i := 31) rfl rfl ?_
            refine hy_iload (i := 32) rfl rfl ?_
            refine hy_cV1v (i := 33) rfl mj_L_leadHere (by omega) rfl (Nat.le_of_ble_eq_true rfl) rfl rfl rfl (c_L_leadHere) ?_
            refine hy_return (i := 34) rfl rfl ?_
            exact ⟨rfl, rfl⟩
          · omega
  refine hy_aload (i := 0) rfl rfl ?_
  refine hy_iload (i := 1) rfl rfl ?_
  refine hy_cV1v (i := 2) rfl mj_L_readBoth (by omega) rfl (Nat.le_of_ble_eq_true rfl) rfl rfl rfl (hc _ h) ?_
  refine hy_const (i := 3) rfl (by decide) ?_
  refine hy_istore (i := 4) rfl ?_
  refine hy_const (i := 5) rfl (by decide) ?_
  refine hy_istore (i := 6) rfl ?_
  exact loop 240 0 (-1) _ rfl (hg _ h).1 rfl
end RB
/-! the class's law: a piece, and the whole of a condition at every depth -/
abbrev rp_cmp (s : Int) : Prop := s = 60 ∨ s = 62 ∨ s = 61
def rp_piece (S : hy_T → hy_T) (N : Option ((hy_T → hy_T) × (hy_T → hy_T))) (t : hy_T) : hy_T :=
  if tp_next t = 33 ∨ tp_next t = 40 then (match N with
    | none => tp_fail t 5 (t 3 3)
    | some (P, E) => if tp_next t = 33 then lp_emit (P (tp_step t)) 33 0 else tp_take (E (tp_step t)) 41)
  else if rp_cmp (tp_next (S t)) then lp_emit (S (tp_step (S t))) (tp_next (S t)) 0 else tp_fail (S t) 1 (S t 3 3)
theorem rp_piece_s {S : hy_T → hy_T} (hS : rx_good S) {N : Option ((hy_T → hy_T) × (hy_T → hy_T))} (hN : ∀ P E, N = some (P, E) → rx_good P ∧ rx_good E) : rx_good (rp_piece S N) := fun t h => by
  unfold rp_piece
  split
  · split
    · exact lp_fail_s h _ _
    · next _ P E =>
      have h2 := rx_step_ok h (show 0 ≤ tp_next t by omega)
      obtain ⟨a1, a2⟩ := (hN P E rfl).1 _ h2
      obtain ⟨b1, b2⟩ := (hN P E rfl).2 _ h2
      split
      · obtain ⟨c1, c2⟩ := lp_emit_s a1 33 0
        exact ⟨c1, ((lpX_tp (tp_step_F t)).tr' a2).tr' c2⟩
      · obtain ⟨c1, c2⟩ := lp_take_s b1 (s := 41) (by decide)
        exact ⟨c1, ((lpX_tp (tp_step_F t)).tr' b2).tr' c2⟩
  · obtain ⟨a1, a2⟩ := hS _ h
    split
    · obtain ⟨b1, b2⟩ := hS _ (rx_step_ok a1 (show 0 ≤ tp_next (S t) by omega))
      obtain ⟨c1, c2⟩ := lp_emit_s b1 (tp_next (S t)) 0
      exact ⟨c1, ((a2.tr' (lpX_tp (tp_step_F (S t)))).tr' b2).tr' c2⟩
    · obtain ⟨c1, c2⟩ := lp_fail_s a1 1 (S t 3 3)
      exact ⟨c1, a2.tr' c2⟩
def rp_lev : Nat → hy_T → hy_T
  | 0 => rp_piece (rx_sumL 0) none
  | n + 1 => rp_piece (rx_sumL (n + 1)) (some (rp_lev n, rb_both 124 (rb_both 38 (rp_lev n))))
abbrev rp_either (n : Nat) : hy_T → hy_T := rb_both 124 (rb_both 38 (rp_lev n))
theorem rp_lev_s : ∀ n, rx_good (rp_lev n)
  | 0 => rp_piece_s (rx_sumL_s 0) (fun P E h => by cases h)
  | n + 1 => rp_piece_s (rx_sumL_s (n + 1)) (fun P E h => by cases h; exact ⟨rp_lev_s n, rb_both_s (by decide) (rb_both_s (by decide) (rp_lev_s n))⟩)
theorem rp_either_s (n : Nat) : rx_good (rp_either n) := rb_both_s (by decide) (rb_both_s (by decide) (rp_lev_s n))
section RPI
variable {sc : List Int32} {t : hy_T}
theorem c_L_readPiece {S : hy_T → hy_T} {N : Option ((hy_T → hy_T) × (hy_T → hy_T))} {d0 dS d : Nat} {o : Int} (hd2 : 2 < d) (hdS : dS < d) (hS : rx_good S) (hcS : ∀ t1 : hy_T, lp_ok t1 → hy_Ct sc hm_L_readSum dS [.inr (some 19), .inl o] t1 (hy_e none (S t1)))
    (h6 : o = 6 → N = none) (ho : 0 ≤ o ∧ o ≤ 6) (hN : o < 6 → ∃ P E, N = some (P, E) ∧ rx_good P ∧ rx_good E ∧ d0 + 2 < d ∧ (∀ t1 : hy_T, lp_ok t1 → hy_Ct sc hm_L_readPiece d0 [.inr (some 19), .inl (o + 1)] t1 (hy_e none (P t1))) ∧ (∀ t1 : hy_T, lp_ok t1 → hy_Ct sc hm_L_readEither (d0 + 2) [.inr (some 19), .inl (o + 1)] t1 (hy_e none (E t1))))
    (h : lp_ok t) : hy_Ct sc hm_L_readPiece d [.inr (some 19), .inl o] t (hy_e none (rp_piece S N t)) := by
  refine hy_mk_ct ok_L_readPiece ck_L_readPiece (Nat.le_of_ble_eq_true rfl) ?_
  by_cases q1 : tp_next t = 33 ∨ tp_next t = 40
  · by_cases q3 : o = 6
    · have e : rp_piece S N t = tp_fail t 5 (t 3 3) := by unfold rp_piece; rw [if_pos q1, h6 q3]
      rw [e]
      refine hy_aload (i := 0) rfl rfl ?_
      refine hy_getr (i := 1) rfl rfl ?_
      refine hy_cV0e (i := 2) rfl mj_T_next (by omega) rfl (Nat.le_of_ble_eq_true rfl) rfl rfl rfl (c_T_next (tp_ok.e (And.left (show lp_ok _ by assumption)))) ?_
      refine hy_istore (i := 3) rfl ?_
      refine hy_iload (i := 4) rfl rfl ?_
      refine hy_const (i := 5) rfl (by decide) ?_
      refine hy_ic_eq (i := 6) (tt := 10) rfl (fun zc1 => ?_) (fun zc1 => ?_)
      · refine hy_iload (i := 10) rfl rfl ?_
        refine hy_const (i := 11) rfl (by decide) ?_
        refine hy_ic_lt (i := 12) (tt := 18) rfl (fun zc2 => ?_) (fun zc2 => ?_)
        · omega
        · refine hy_aload (i := 13) rfl rfl ?_
          refine hy_getr (i := 14) rfl rfl ?_
          refine hy_const (i := 15) rfl (by decide) ?_
          refine hy_cV1v (i := 16) rfl mj_T_fail (by omega) rfl (Nat.le_of_ble_eq_true rfl) rfl rfl rfl (c_T_fail (by decide) (by have := tp_ok.p (And.left (show lp_ok _ by assumption)); omega)) ?_
          refine hy_return (i := 17) rfl rfl ?_
          exact ⟨rfl, rfl⟩
      · refine hy_iload (i := 7) rfl rfl ?_
        refine hy_const (i := 8) rfl (by decide) ?_
        refine hy_ic_ne (i := 9) (tt := 45) rfl (fun zc2 => ?_) (fun zc2 => ?_)
        · omega
        · refine hy_iload (i := 10) rfl rfl ?_
          refine hy_const (i := 11) rfl (by decide) ?_
          refine hy_ic_lt (i := 12) (tt := 18) rfl (fun zc3 => ?_) (fun zc3 => ?_)
          · omega
          · refine hy_aload (i := 13) rfl rfl ?_
            refine hy_getr (i := 14) rfl rfl ?_
            refine hy_const (i := 15) rfl (by decide) ?_
            refine hy_cV1v (i := 16) rfl mj_T_fail (by omega) rfl (Nat.le_of_ble_eq_true rfl) rfl rfl rfl (c_T_fail (by decide) (by have := tp_ok.p (And.left (show lp_ok _ by assumption)); omega)) ?_
            refine hy_return (i := 17) rfl rfl ?_
            exact ⟨rfl, rfl⟩
    · obtain ⟨P, E, hPE, hP, hE, hdd, hcP, hcE⟩ := hN (by omega)
      have h2 := rx_step_ok h (show 0 ≤ tp_next t by omega)
      by_cases q2 : tp_next t = 33
      · have e : rp_piece S N t = lp_emit (P (tp_step t)) 33 0 := by unfold rp_piece; rw [if_pos q1, hPE]; exact if_pos q2
        rw [e]
        have h3 := (hP _ h2).1
        refine hy_aload (i := 0) rfl rfl ?_
        refine hy_getr (i := 1) rfl rfl ?_
        refine hy_cV0e (i := 2) rfl mj_T_next (by omega) rfl (Nat.le_of_ble_eq_true rfl) rfl rfl rfl (c_T_next (tp_ok.e (And.left (show lp_ok _ by assumption)))) ?_
        refine hy_istore (i := 3) rfl ?_
        refine hy_iload (i := 4) rfl rfl ?_
        refine hy_const (i := 5) rfl (by decide) ?_
        refine hy_ic_eq (i := 6) (tt := 10) rfl (fun zc1 => ?_) (fun zc1 => ?_)
        · refine hy_iload (i := 10) rfl rfl ?_
          refine hy_const (i := 11) rfl (by decide) ?_
          refine hy_ic_lt (i := 12) (tt := 18) rfl (fun zc2 => ?_) (fun zc2 => ?_)
          · refine hy_aload (i := 18) rfl rfl ?_
            refine hy_getr (i := 19) rfl rfl ?_
            refine hy_cV0v (i := 20) rfl mj_T_step (by omega) rfl (Nat.le_of_ble_eq_true rfl) rfl rfl rfl (c_T_step (by have := tp_ok.p (And.left (show lp_ok _ by assumption)); omega)) ?_
            refine hy_iload (i := 21) rfl rfl ?_
            refine hy_const (i := 22) rfl (by decide) ?_
            refine hy_ic_ne (i := 23) (tt := 35) rfl (fun zc3 => ?_) (fun zc3 => ?_)
            · omega
            · refine hy_aload (i := 24) rfl rfl ?_
              refine hy_iload (i := 25) rfl rfl ?_
              refine hy_const (i := 26) rfl (by decide) ?_
              refine hy_iadd (i := 27) rfl (by omega) ?_
              refine hy_cV1v (i := 28) rfl mj_L_readPiece (by omega) rfl (Nat.le_of_ble_eq_true rfl) rfl rfl rfl (hcP _ h2) ?_
              refine hy_aload (i := 29) rfl rfl ?_
              refine hy_const (i := 30) rfl (by decide) ?_
              refine hy_const (i := 31) rfl (by decide) ?_
              refine hy_cV2e (i := 32) rfl mj_L_emit (by omega) rfl (Nat.le_of_ble_eq_true rfl) rfl rfl rfl (c_L_emit h3.2.1) ?_
              refine hy_pop (i := 33) rfl ?_
              refine hy_goto (i := 34) (tt := 44) rfl ?_
              refine hy_return (i := 44) rfl rfl ?_
              exact ⟨rfl, rfl⟩
          · omega
        · omega
      · have e : rp_piece S N t = tp_take (E (tp_step t)) 41 := by unfold rp_piece; rw [if_pos q1, hPE]; exact if_neg q2
        rw [e]
        have h3 := (hE _ h2).1
        refine hy_aload (i := 0) rfl rfl ?_
        refine hy_getr (i := 1) rfl rfl ?_
        refine hy_cV0e (i := 2) rfl mj_T_next (by omega) rfl (Nat.le_of_ble_eq_true rfl) rfl rfl rfl (c_T_next (tp_ok.e (And.left (show lp_ok _ by assumption)))) ?_
        refine hy_istore (i := 3) rfl ?_
        refine hy_iload (i := 4) rfl rfl ?_
        refine hy_const (i := 5) rfl (by decide) ?_
        refine hy_ic_eq (i := 6) (tt := 10) rfl (fun zc1 => ?_) (fun zc1 => ?_)
        · omega
        · refine hy_iload (i := 7) rfl rfl ?_
          refine hy_const (i := 8) rfl (by decide) ?_
          refine hy_ic_ne (i := 9) (tt := 45) rfl (fun zc2 => ?_) (fun zc2 => ?_)
          · omega
          · refine hy_iload (i := 10) rfl rfl ?_
            refine hy_const (i := 11) rfl (by decide) ?_
            refine hy_ic_lt (i := 12) (tt := 18) rfl (fun zc3 => ?_) (fun zc3 => ?_)
            · refine hy_aload (i := 18) rfl rfl ?_
              refine hy_getr (i := 19) rfl rfl ?_
              refine hy_cV0v (i := 20) rfl mj_T_step (by omega) rfl (Nat.le_of_ble_eq_true rfl) rfl rfl rfl (c_T_step (by have := tp_ok.p (And.left (show lp_ok _ by assumption)); omega)) ?_
              refine hy_iload (i := 21) rfl rfl ?_
              refine hy_const (i := 22) rfl (by decide) ?_
              refine hy_ic_ne (i := 23) (tt := 35) rfl (fun zc4 => ?_) (fun zc4 => ?_)
              · refine hy_aload (i := 35) rfl rfl ?_
                refine hy_iload (i := 36) rfl rfl ?_
                refine hy_const (i := 37) rfl (by decide) ?_
                refine hy_iadd (i := 38) rfl (by omega) ?_
                refine hy_cV1v (i := 39) rfl mj_L_readEither (by omega) rfl (Nat.le_of_ble_eq_true rfl) rfl rfl rfl (hcE _ h2) ?_
                refine hy_aload (i := 40) rfl rfl ?_
                refine hy_getr (i := 41) rfl rfl ?_
                refine hy_const (i := 42) rfl (by decide) ?_
                refine hy_cV1v (i := 43) rfl mj_T_take (by omega) rfl (Nat.le_of_ble_eq_true rfl) rfl rfl rfl (c_T_take h3.1.e (tp_ok_pq h3.1)) ?_
                refine hy_return (i := 44) rfl rfl ?_
                exact ⟨rfl, rfl⟩
              · omega
            · omega
  · have h2 := (hS _ h).1
    by_cases q2 : rp_cmp (tp_next (S t))
    · have e : rp_piece S N t = lp_emit (S (tp_step (S t))) (tp_next (S t)) 0 := by unfold rp_piece; rw [if_neg q1, if_pos q2]
      rw [e]
      have h3 := rx_step_ok h2 (show 0 ≤ tp_next (S t) by omega)
      have h4 := (hS _ h3).1
      refine hy_aload (i := 0) rfl rfl ?_
      refine hy_getr (i := 1) rfl rfl ?_
      refine hy_cV0e (i := 2) rfl mj_T_next (by omega) rfl (Nat.le_of_ble_eq_true rfl) rfl rfl rfl (c_T_next (tp_ok.e (And.left (show lp_ok _ by assumption)))) ?_
      refine hy_istore (i := 3) rfl ?_
      refine hy_iload (i := 4) rfl rfl ?_
      refine hy_const (i := 5) rfl (by decide) ?_
      refine hy_ic_eq (i := 6) (tt := 10) rfl (fun zc1 => ?_) (fun zc1 => ?_)
      · omega
      · refine hy_iload (i := 7) rfl rfl ?_
        refine hy_const (i := 8) rfl (by decide) ?_
        refine hy_ic_ne (i := 9) (tt := 45) rfl (fun zc2 => ?_) (fun zc2 => ?_)
        · refine hy_aload (i := 45) rfl rfl ?_
          refine hy_iload (i := 46) rfl rfl ?_
          refine hy_cV1v (i := 47) rfl mj_L_readSum (by omega) rfl (Nat.le_of_ble_eq_true rfl) rfl rfl rfl (hcS _ h) ?_
          refine hy_aload (i := 48) rfl rfl ?_
          refine hy_getr (i := 49) rfl rfl ?_
          refine hy_cV0e (i := 50) rfl mj_T_next (by omega) rfl (Nat.le_of_ble_eq_true rfl) rfl rfl rfl (c_T_next (tp_ok.e (And.left (show lp_ok _ by assumption)))) ?_
          refine hy_istore (i := 51) rfl ?_
          refine hy_iload (i := 52) rfl rfl ?_
          refine hy_const (i := 53) rfl (by decide) ?_
          refine hy_ic_eq (i := 54) (tt := 66) rfl (fun zc3 => ?_) (fun zc3 => ?_)
          · refine hy_aload (i := 66) rfl rfl ?_
            refine hy_getr (i := 67) rfl rfl ?_
            refine hy_cV0v (i := 68) rfl mj_T_step (by omega) rfl (Nat.le_of_ble_eq_true rfl) rfl rfl rfl (c_T_step (by have := tp_ok.p (And.left (show lp_ok _ by assumption)); omega)) ?_
            refine hy_aload (i := 69) rfl rfl ?_
            refine hy_iload (i := 70) rfl rfl ?_
            refine hy_cV1v (i := 71) rfl mj_L_readSum (by omega) rfl (Nat.le_of_ble_eq_true rfl) rfl rfl rfl (hcS _ h3) ?_
            refine hy_aload (i := 72) rfl rfl ?_
            refine hy_iload (i := 73) rfl rfl ?_
            refine hy_const (i := 74) rfl (by decide) ?_
            refine hy_cV2e (i := 75) rfl mj_L_emit (by omega) rfl (Nat.le_of_ble_eq_true rfl) rfl rfl rfl (c_L_emit h4.2.1) ?_
            refine hy_pop (i := 76) rfl ?_
            refine hy_return (i := 77) rfl rfl ?_
            exact ⟨rfl, rfl⟩
          · refine hy_iload (i := 55) rfl rfl ?_
            refine hy_const (i := 56) rfl (by decide) ?_
            refine hy_ic_eq (i := 57) (tt := 66) rfl (fun zc4 => ?_) (fun zc4 => ?_)
            · refine hy_aload (i := 66) rfl rfl ?_
              refine hy_getr (i := 67) rfl rfl ?_
              refine hy_cV0v (i := 68) rfl mj_T_step (by omega) rfl (Nat.le_of_ble_eq_true rfl) rfl rfl rfl (c_T_step (by have := tp_ok.p (And.left (show lp_ok _ by assumption)); omega)) ?_
              refine hy_aload (i := 69) rfl rfl ?_
              refine hy_iload (i := 70) rfl rfl ?_
              refine hy_cV1v (i := 71) rfl mj_L_readSum (by omega) rfl (Nat.le_of_ble_eq_true rfl) rfl rfl rfl (hcS _ h3) ?_
              refine hy_aload (i := 72) rfl rfl ?_
              refine hy_iload (i := 73) rfl rfl ?_
              refine hy_const (i := 74) rfl (by decide) ?_
              refine hy_cV2e (i := 75) rfl mj_L_emit (by omega) rfl (Nat.le_of_ble_eq_true rfl) rfl rfl rfl (c_L_emit h4.2.1) ?_
              refine hy_pop (i := 76) rfl ?_
              refine hy_return (i := 77) rfl rfl ?_
              exact ⟨rfl, rfl⟩
            · refine hy_iload (i := 58) rfl rfl ?_
              refine hy_const (i := 59) rfl (by decide) ?_
              refine hy_ic_eq (i := 60) (tt := 66) rfl (fun zc5 => ?_) (fun zc5 => ?_)
              · refine hy_aload (i := 66) rfl rfl ?_
                refine hy_getr (i := 67) rfl rfl ?_
                refine hy_cV0v (i := 68) rfl mj_T_step (by omega) rfl (Nat.le_of_ble_eq_true rfl) rfl rfl rfl (c_T_step (by have := tp_ok.p (And.left (show lp_ok _ by assumption)); omega)) ?_
                refine hy_aload (i := 69) rfl rfl ?_
                refine hy_iload (i := 70) rfl rfl ?_
                refine hy_cV1v (i := 71) rfl mj_L_readSum (by omega) rfl (Nat.le_of_ble_eq_true rfl) rfl rfl rfl (hcS _ h3) ?_
                refine hy_aload (i := 72) rfl rfl ?_
                refine hy_iload (i := 73) rfl rfl ?_
                refine hy_const (i := 74) rfl (by decide) ?_
                refine hy_cV2e (i := 75) rfl mj_L_emit (by omega) rfl (Nat.le_of_ble_eq_true rfl) rfl rfl rfl (c_L_emit h4.2.1) ?_
                refine hy_pop (i := 76) rfl ?_
                refine hy_return (i := 77) rfl rfl ?_
                exact ⟨rfl, rfl⟩
              · omega
        · omega
    · have e : rp_piece S N t = tp_fail (S t) 1 (S t 3 3) := by unfold rp_piece; rw [if_neg q1, if_neg q2]
      rw [e]
      refine hy_aload (i := 0) rfl rfl ?_
      refine hy_getr (i := 1) rfl rfl ?_
      refine hy_cV0e (i := 2) rfl mj_T_next (by omega) rfl (Nat.le_of_ble_eq_true rfl) rfl rfl rfl (c_T_next (tp_ok.e (And.left (show lp_ok _ by assumption)))) ?_
      refine hy_istore (i := 3) rfl ?_
      refine hy_iload (i := 4) rfl rfl ?_
      refine hy_const (i := 5) rfl (by decide) ?_
      refine hy_ic_eq (i := 6) (tt := 10) rfl (fun zc1 => ?_) (fun zc1 => ?_)
      · omega
      · refine hy_iload (i := 7) rfl rfl ?_
        refine hy_const (i := 8) rfl (by decide) ?_
        refine hy_ic_ne (i := 9) (tt := 45) rfl (fun zc2 => ?_) (fun zc2 => ?_)
        · refine hy_aload (i := 45) rfl rfl ?_
          refine hy_iload (i := 46) rfl rfl ?_
          refine hy_cV1v (i := 47) rfl mj_L_readSum (by omega) rfl (Nat.le_of_ble_eq_true rfl) rfl rfl rfl (hcS _ h) ?_
          refine hy_aload (i := 48) rfl rfl ?_
          refine hy_getr (i := 49) rfl rfl ?_
          refine hy_cV0e (i := 50) rfl mj_T_next (by omega) rfl (Nat.le_of_ble_eq_true rfl) rfl rfl rfl (c_T_next (tp_ok.e (And.left (show lp_ok _ by assumption)))) ?_
          refine hy_istore (i := 51) rfl ?_
          refine hy_iload (i := 52) rfl rfl ?_
          refine hy_const (i := 53) rfl (by decide) ?_
          refine hy_ic_eq (i := 54) (tt := 66) rfl (fun zc3 => ?_) (fun zc3 => ?_)
          · omega
          · refine hy_iload (i := 55) rfl rfl ?_
            refine hy_const (i := 56) rfl (by decide) ?_
            refine hy_ic_eq (i := 57) (tt := 66) rfl (fun zc4 => ?_) (fun zc4 => ?_)
            · omega
            · refine hy_iload (i := 58) rfl rfl ?_
              refine hy_const (i := 59) rfl (by decide) ?_
              refine hy_ic_eq (i := 60) (tt := 66) rfl (fun zc5 => ?_) (fun zc5 => ?_)
              · omega
              · refine hy_aload (i := 61) rfl rfl ?_
                refine hy_getr (i := 62) rfl rfl ?_
                refine hy_const (i := 63) rfl (by decide) ?_
                refine hy_cV1v (i := 64) rfl mj_T_fail (by omega) rfl (Nat.le_of_ble_eq_true rfl) rfl rfl rfl (c_T_fail (by decide) (by have := tp_ok.p (And.left (show lp_ok _ by assumption)); omega)) ?_
                refine hy_return (i := 65) rfl rfl ?_
                exact ⟨rfl, rfl⟩
        · omega
theorem c_L_lev : ∀ (n : Nat) {d : Nat} {o : Int} {t : hy_T}, n ≤ 6 → o = 6 - n → d = 3 * n + 24 → lp_ok t → hy_Ct sc hm_L_readPiece d [.inr (some 19), .inl o] t (hy_e none (rp_lev n t))
  | 0, d, o, t, hn, ho, hd, h =>
    c_L_readPiece (d0 := 0) (dS := 5) (by omega) (by omega) (rx_sumL_s 0) (fun t1 h1 => c_L_sumL 0 (by omega) (by omega) rfl h1) (fun _ => rfl) (by omega) (fun q => by omega) h
  | n + 1, d, o, t, hn, ho, hd, h =>
    have cp : ∀ t1 : hy_T, lp_ok t1 → hy_Ct sc hm_L_readPiece (3 * n + 24) [.inr (some 19), .inl (o + 1)] t1 (hy_e none (rp_lev n t1)) := fun t1 h1 => c_L_lev n (by omega) (by omega) rfl h1
    c_L_readPiece (d0 := 3 * n + 24) (dS := 3 * (n + 1) + 5) (by omega) (by omega) (rx_sumL_s (n + 1)) (fun t1 h1 => c_L_sumL (n + 1) (by omega) (by omega) rfl h1) (fun q => by omega) (by omega)
      (fun q => ⟨_, _, rfl, rp_lev_s n, rp_either_s n, by omega, cp, fun t1 h1 =>
        c_L_readEither (d0 := 3 * n + 25) (by omega) (by omega) (rb_both_s (by decide) (rp_lev_s n)) (fun t2 h2 =>
          c_L_readBoth (d0 := 3 * n + 24) (by omega) (by omega) (rp_lev_s n) cp h2) h1⟩) h
theorem c_L_eitherAt {n : Nat} {o : Int} (hn : n ≤ 6) (ho : o = 6 - n) (h : lp_ok t) : hy_Ct sc hm_L_readEither (3 * n + 26) [.inr (some 19), .inl o] t (hy_e none (rp_either n t)) :=
  c_L_readEither (d0 := 3 * n + 25) (by omega) (by omega) (rb_both_s (by decide) (rp_lev_s n)) (fun t2 h2 =>
    c_L_readBoth (d0 := 3 * n + 24) (by omega) (by omega) (rp_lev_s n) (fun t1 h1 => c_L_lev n hn ho rfl h1) h2) h
end RPI
/-! the class's law: clauses as they are read -/
abbrev lkX : Nat → Nat → Bool := fun r j => lpX r j || r == 22 || r == 23 || r == 24 || (r == 19 && j == 7)
theorem lkX_lp {t t1 : hy_T} (h : hy_F lpX t t1) : hy_F lkX t t1 := h.w (fun r j q => by simp only [Bool.or_eq_false_iff] at q ⊢; exact q.1.1.1.1)
def rk_amt (k : Int) (t : hy_T) : hy_T := if k = 118 ∨ k = 98 then lp_emit (rx_sumL 6 t) 46 0 else t
def rk_head (k : Int) (t : hy_T) : hy_T := hy_up (hy_up t 22 (t 19 7).toNat k) 23 (t 19 7).toNat (t 19 3)
def rk_body (t : hy_T) : hy_T := lp_emit (tp_take (rp_either 5 (tp_take (hy_up t 24 (t 19 7).toNat (t 19 3)) 40)) 41) 46 0
def rk_cond (t : hy_T) : hy_T := hy_up (rk_body t) 19 7 (rk_body t 19 7 + 1)
abbrev rk_kind (k : Int) : Prop := k = 118 ∨ k = 98 ∨ k = 115 ∨ k = 107
def rk_clause (t : hy_T) : hy_T :=
  if rk_kind (tp_next t) then (if 16 ≤ t 19 7 then tp_fail t 4 (t 3 3) else rk_cond (rk_amt (tp_next t) (rk_head (tp_next t) (tp_step t)))) else tp_fail t 1 (t 3 3)
theorem rk_head_s {t : hy_T} (h : lp_ok t) (k : Int) : lp_ok (rk_head k t) ∧ hy_F lkX t (rk_head k t) := by
  unfold rk_head
  exact ⟨⟨tp_ok_up (tp_ok_up h.1 rfl) rfl, h.2⟩, (hy_F.rf.up rfl).up rfl⟩
theorem rk_amt_s {t : hy_T} (h : lp_ok t) (k : Int) : lp_ok (rk_amt k t) ∧ hy_F lpX t (rk_amt k t) := by
  unfold rk_amt
  split
  · obtain ⟨a1, a2⟩ := rx_sumL_s 6 _ h
    obtain ⟨b1, b2⟩ := lp_emit_s a1 46 0
    exact ⟨b1, a2.tr' b2⟩
  · exact ⟨h, hy_F.rf⟩
theorem rk_pre_s {t : hy_T} (h : lp_ok t) : lp_ok (hy_up t 24 (t 19 7).toNat (t 19 3)) := ⟨tp_ok_up h.1 rfl, h.2⟩
theorem rk_body_s {t : hy_T} (h : lp_ok t) : lp_ok (rk_body t) ∧ hy_F lkX t (rk_body t) ∧ rk_body t 19 7 = t 19 7 := by
  obtain ⟨a1, a2⟩ := lp_take_s (rk_pre_s h) (s := 40) (by decide)
  obtain ⟨b1, b2⟩ := rp_either_s 5 _ a1
  obtain ⟨c1, c2⟩ := lp_take_s b1 (s := 41) (by decide)
  obtain ⟨d1, d2⟩ := lp_emit_s c1 46 0
  have f := ((a2.tr' b2).tr' c2).tr' d2
  exact ⟨d1, (hy_F.rf.up rfl).tr' (lkX_lp f), f 19 7 rfl⟩
theorem rk_cond_s {t : hy_T} (h : lp_ok t) (h7 : t 19 7 < 16) : lp_ok (rk_cond t) ∧ hy_F lkX t (rk_cond t) := by
  obtain ⟨a1, a2, a3⟩ := rk_body_s h
  have h8 := h.2.2
  unfold rk_cond
  refine ⟨⟨tp_ok_up a1.1 rfl, a1.2.1, ?_⟩, a2.up rfl⟩
  show 0 ≤ rk_body t 19 7 + 1 ∧ rk_body t 19 7 + 1 ≤ 16
  omega
theorem rk_clause_s {t : hy_T} (h : lp_ok t) : lp_ok (rk_clause t) ∧ hy_F lkX t (rk_clause t) := by
  unfold rk_clause
  split
  · next hk =>
    split
    · obtain ⟨a, b⟩ := lp_fail_s h 4 (t 3 3)
      exact ⟨a, lkX_lp b⟩
    · next h7 =>
      have h1 := rx_step_ok h (show 0 ≤ tp_next t by omega)
      obtain ⟨a1, a2⟩ := rk_head_s h1 (tp_next t)
      obtain ⟨b1, b2⟩ := rk_amt_s a1 (tp_next t)
      have e7 : rk_amt (tp_next t) (rk_head (tp_next t) (tp_step t)) 19 7 = t 19 7 := (b2 19 7 rfl).trans rfl
      obtain ⟨c1, c2⟩ := rk_cond_s b1 (by omega)
      exact ⟨c1, (((lkX_lp (lpX_tp (tp_step_F t))).tr' a2).tr' (lkX_lp b2)).tr' c2⟩
  · obtain ⟨a, b⟩ := lp_fail_s h 1 (t 3 3)
    exact ⟨a, lkX_lp b⟩
def rk_loop : Nat → hy_T → hy_T
  | 0, t => t
  | n + 1, t => if tp_next t = 59 then rk_loop n (rk_clause (tp_step t)) else t
def rk_init (t : hy_T) (n : Int) : hy_T := hy_up (hy_up (tp_start t n) 19 7 0) 19 3 0
def rk_read (t : hy_T) (n : Int) : hy_T := tp_finish (rk_loop 16 (rk_clause (rk_init t n)))
theorem rk_loop_s : ∀ (n : Nat) {t : hy_T}, lp_ok t → lp_ok (rk_loop n t) ∧ hy_F lkX t (rk_loop n t)
  | 0, t, h => ⟨h, hy_F.rf⟩
  | n + 1, t, h => by
    simp only [rk_loop]
    split
    · obtain ⟨a1, a2⟩ := rk_clause_s (rx_step_ok h (by omega))
      obtain ⟨b1, b2⟩ := rk_loop_s n a1
      exact ⟨b1, ((lkX_lp (lpX_tp (tp_step_F t))).tr' a2).tr' b2⟩
    · exact ⟨h, hy_F.rf⟩
theorem hz_0241 : (0 : Int) ≤ 0 ∧ (0 : Int) ≤ 241 := by decide
theorem hz_016 : (0 : Int) ≤ 0 ∧ (0 : Int) ≤ 16 := by decide
theorem rk_init_s {t : hy_T} (h : tp_ok t) (n : Int) : lp_ok (rk_init t n) :=
  ⟨tp_ok_up (tp_ok_up (tp_start_ok h n) rfl) rfl, hz_0241, hz_016⟩
section RKC
variable {sc : List Int32} {t : hy_T}
theorem c_L_readClause (h : lp_ok t) : hy_Ct sc hm_L_readClause 61 [.inr (some 19)] t (hy_e none (rk_clause t)) := by
  refine hy_mk_ct ok_L_readClause ck_L_readClause (Nat.le_of_ble_eq_true rfl) ?_
  have fin : ∀ (t1 : hy_T) (v1 v2 : hy_V), lp_ok t1 → t1 19 7 < 16 → hy_W sc hm_L_readClause 61 62 [.inr (some 19), v1, v2] [] t1 (hy_e none (rk_cond t1)) := by
    intro t1 v1 v2 h1 h7
    have h8 := h1.2.2
    have h2 := rk_pre_s h1
    have h3 := (lp_take_s h2 (s := 40) (by decide)).1
    have h4 := (rp_either_s 5 _ h3).1
    have h5 := (lp_take_s h4 (s := 41) (by decide)).1
    have h9 := (rk_body_s h1).1.2.2
    unfold rk_body at h9
    refine hy_aload (i := 62) rfl rfl ?_
    refine hy_getr (i := 63) rfl rfl ?_
    refine hy_aload (i := 64) rfl rfl ?_
    refine hy_get (i := 65) (fk := 7) rfl rfl rfl ?_
    refine hy_aload (i := 66) rfl rfl ?_
    refine hy_get (i := 67) (fk := 3) rfl rfl rfl ?_
    refine hy_iast (i := 68) rfl rfl (by omega) rfl ?_
    refine hy_aload (i := 69) rfl rfl ?_
    refine hy_getr (i := 70) rfl rfl ?_
    refine hy_const (i := 71) rfl (by decide) ?_
    refine hy_cV1v (i := 72) rfl mj_T_take (by decide) rfl (Nat.le_of_ble_eq_true rfl) rfl rfl rfl (c_T_take h2.1.e (tp_ok_pq h2.1)) ?_
    refine hy_aload (i := 73) rfl rfl ?_
    refine hy_const (i := 74) rfl (by decide) ?_
    refine hy_cV1v (i := 75) rfl mj_L_readEither (by decide) rfl (Nat.le_of_ble_eq_true rfl) rfl rfl rfl ((c_L_eitherAt (n := 5) (by decide) rfl) h3) ?_
    refine hy_aload (i := 76) rfl rfl ?_
    refine hy_getr (i := 77) rfl rfl ?_
    refine hy_const (i := 78) rfl (by decide) ?_
    refine hy_cV1v (i := 79) rfl mj_T_take (by decide) rfl (Nat.le_of_ble_eq_true rfl) rfl rfl rfl (c_T_take h4.1.e (tp_ok_pq h4.1)) ?_
    refine hy_aload (i := 80) rfl rfl ?_
    refine hy_const (i := 81) rfl (by decide) ?_
    refine hy_const (i := 82) rfl (by decide) ?_
    refine hy_cV2e (i := 83) rfl mj_L_emit (by decide) rfl (Nat.le_of_ble_eq_true rfl) rfl rfl rfl (c_L_emit h5.2.1) ?_
    refine hy_pop (i := 84) rfl ?_
    refine hy_aload (i := 85) rfl rfl ?_
    refine hy_dup (i := 86) rfl ?_
    refine hy_get (i := 87) (fk := 7) rfl rfl rfl ?_
    refine hy_const (i := 88) rfl (by decide) ?_
    refine hy_iadd (i := 89) rfl (by omega) ?_
    refine hy_put (i := 90) (fk := 7) rfl rfl rfl rfl ?_
    refine hy_return (i := 91) rfl rfl ?_
    exact ⟨rfl, rfl⟩
  by_cases q1 : rk_kind (tp_next t)
  · by_cases q2 : 16 ≤ t 19 7
    · have e : rk_clause t = tp_fail t 4 (t 3 3) := by unfold rk_clause; rw [if_pos q1, if_pos q2]
      rw [e]
      by_cases q3 : tp_next t = 118 ∨ tp_next t = 98
      · skip
        refine hy_aload (i := 0) rfl rfl ?_
        refine hy_getr (i := 1) rfl rfl ?_
        refine hy_cV0e (i := 2) rfl mj_T_next (by decide) rfl (Nat.le_of_ble_eq_true rfl) rfl rfl rfl (c_T_next (tp_ok.e (And.left (show lp_ok _ by assumption)))) ?_
        refine hy_istore (i := 3) rfl ?_
        refine hy_iload (i := 4) rfl rfl ?_
        refine hy_const (i := 5) rfl (by decide) ?_
        refine hy_ic_eq (i := 6) (tt := 10) rfl (fun zc1 => ?_) (fun zc1 => ?_)
        · refine hy_const (i := 10) rfl (by decide) ?_
          refine hy_goto (i := 11) (tt := 13) rfl ?_
          refine hy_istore (i := 13) rfl ?_
          refine hy_iload (i := 14) rfl rfl ?_
          refine hy_if_ne (i := 15) (tt := 27) rfl (fun zc2 => ?_) (fun zc2 => ?_)
          · refine hy_aload (i := 27) rfl rfl ?_
            refine hy_get (i := 28) (fk := 7) rfl rfl rfl ?_
            refine hy_const (i := 29) rfl (by decide) ?_
            refine hy_ic_lt (i := 30) (tt := 36) rfl (fun zc3 => ?_) (fun zc3 => ?_)
            · omega
            · refine hy_aload (i := 31) rfl rfl ?_
              refine hy_getr (i := 32) rfl rfl ?_
              refine hy_const (i := 33) rfl (by decide) ?_
              refine hy_cV1v (i := 34) rfl mj_T_fail (by decide) rfl (Nat.le_of_ble_eq_true rfl) rfl rfl rfl (c_T_fail (by decide) (by have := tp_ok.p (And.left (show lp_ok _ by assumption)); omega)) ?_
              refine hy_return (i := 35) rfl rfl ?_
              exact ⟨rfl, rfl⟩
          · omega
        · refine hy_iload (i := 7) rfl rfl ?_
          refine hy_const (i := 8) rfl (by decide) ?_
          refine hy_ic_ne (i := 9) (tt := 12) rfl (fun zc2 => ?_) (fun zc2 => ?_)
          · omega
          · refine hy_const (i := 10) rfl (by decide) ?_
            refine hy_goto (i := 11) (tt := 13) rfl ?_
            refine hy_istore (i := 13) rfl ?_
            refine hy_iload (i := 14) rfl rfl ?_
            refine hy_if_ne (i := 15) (tt := 27) rfl (fun zc3 => ?_) (fun zc3 => ?_)
            · refine hy_aload (i := 27) rfl rfl ?_
              refine hy_get (i := 28) (fk := 7) rfl rfl rfl ?_
              refine hy_const (i := 29) rfl (by decide) ?_
              refine hy_ic_lt (i := 30) (tt := 36) rfl (fun zc4 => ?_) (fun zc4 => ?_)
              · omega
              · refine hy_aload (i := 31) rfl rfl ?_
                refine hy_getr (i := 32) rfl rfl ?_
                refine hy_const (i := 33) rfl (by decide) ?_
                refine hy_cV1v (i := 34) rfl mj_T_fail (by decide) rfl (Nat.le_of_ble_eq_true rfl) rfl rfl rfl (c_T_fail (by decide) (by have := tp_ok.p (And.left (show lp_ok _ by assumption)); omega)) ?_
                refine hy_return (i := 35) rfl rfl ?_
                exact ⟨rfl, rfl⟩
            · omega
      · skip
        refine hy_aload (i := 0) rfl rfl ?_
        refine hy_getr (i := 1) rfl rfl ?_
        refine hy_cV0e (i := 2) rfl mj_T_next (by decide) rfl (Nat.le_of_ble_eq_true rfl) rfl rfl rfl (c_T_next (tp_ok.e (And.left (show lp_ok _ by assumption)))) ?_
        refine hy_istore (i := 3) rfl ?_
        refine hy_iload (i := 4) rfl rfl ?_
        refine hy_const (i := 5) rfl (by decide) ?_
        refine hy_ic_eq (i := 6) (tt := 10) rfl (fun zc1 => ?_) (fun zc1 => ?_)
        · omega
        · refine hy_iload (i := 7) rfl rfl ?_
          refine hy_const (i := 8) rfl (by decide) ?_
          refine hy_ic_ne (i := 9) (tt := 12) rfl (fun zc2 => ?_) (fun zc2 => ?_)
          · refine hy_const (i := 12) rfl (by decide) ?_
            refine hy_istore (i := 13) rfl ?_
            refine hy_iload (i := 14) rfl rfl ?_
            refine hy_if_ne (i := 15) (tt := 27) rfl (fun zc3 => ?_) (fun zc3 => ?_)
            · omega
            · refine hy_iload (i := 16) rfl rfl ?_
              refine hy_const (i := 17) rfl (by decide) ?_
              refine hy_ic_eq (i := 18) (tt := 27) rfl (fun zc4 => ?_) (fun zc4 => ?_)
              · refine hy_aload (i := 27) rfl rfl ?_
                refine hy_get (i := 28) (fk := 7) rfl rfl rfl ?_
                refine hy_const (i := 29) rfl (by decide) ?_
                refine hy_ic_lt (i := 30) (tt := 36) rfl (fun zc5 => ?_) (fun zc5 => ?_)
                · omega
                · refine hy_aload (i := 31) rfl rfl ?_
                  refine hy_getr (i := 32) rfl rfl ?_
                  refine hy_const (i := 33) rfl (by decide) ?_
                  refine hy_cV1v (i := 34) rfl mj_T_fail (by decide) rfl (Nat.le_of_ble_eq_true rfl) rfl rfl rfl (c_T_fail (by decide) (by have := tp_ok.p (And.left (show lp_ok _ by assumption)); omega)) ?_
                  refine hy_return (i := 35) rfl rfl ?_
                  exact ⟨rfl, rfl⟩
              · refine hy_iload (i := 19) rfl rfl ?_
                refine hy_const (i := 20) rfl (by decide) ?_
                refine hy_ic_eq (i := 21) (tt := 27) rfl (fun zc5 => ?_) (fun zc5 => ?_)
                · refine hy_aload (i := 27) rfl rfl ?_
                  refine hy_get (i := 28) (fk := 7) rfl rfl rfl ?_
                  refine hy_const (i := 29) rfl (by decide) ?_
                  refine hy_ic_lt (i := 30) (tt := 36) rfl (fun zc6 => ?_) (fun zc6 => ?_)
                  · omega
                  · refine hy_aload (i := 31) rfl rfl ?_
                    refine hy_getr (i := 32) rfl rfl ?_
                    refine hy_const (i := 33) rfl (by decide) ?_
                    refine hy_cV1v (i := 34) rfl mj_T_fail (by decide) rfl (Nat.le_of_ble_eq_true rfl) rfl rfl rfl (c_T_fail (by decide) (by have := tp_ok.p (And.left (show lp_ok _ by assumption)); omega)) ?_
                    refine hy_return (i := 35) rfl rfl ?_
                    exact ⟨rfl, rfl⟩
                · omega
          · omega
    · have e : rk_clause t = rk_cond (rk_amt (tp_next t) (rk_head (tp_next t) (tp_step t))) := by unfold rk_clause; rw [if_pos q1, if_neg q2]
      rw [e]
      have h8 := h.2.2
      have h1 := rx_step_ok h (show 0 ≤ tp_next t by omega)
      obtain ⟨a1, a2⟩ := rk_head_s h1 (tp_next t)
      obtain ⟨b1, b2⟩ := rk_amt_s a1 (tp_next t)
      have e7 : rk_amt (tp_next t) (rk_head (tp_next t) (tp_step t)) 19 7 = t 19 7 := (b2 19 7 rfl).trans rfl
      by_cases q3 : tp_next t = 118 ∨ tp_next t = 98
      · have e2 : rk_amt (tp_next t) (rk_head (tp_next t) (tp_step t)) = lp_emit (rx_sumL 6 (rk_head (tp_next t) (tp_step t))) 46 0 := by unfold rk_amt; rw [if_pos q3]
        have h3 := (rx_sumL_s 6 _ a1).1
        refine hy_aload (i := 0) rfl rfl ?_
        refine hy_getr (i := 1) rfl rfl ?_
        refine hy_cV0e (i := 2) rfl mj_T_next (by decide) rfl (Nat.le_of_ble_eq_true rfl) rfl rfl rfl (c_T_next (tp_ok.e (And.left (show lp_ok _ by assumption)))) ?_
        refine hy_istore (i := 3) rfl ?_
        refine hy_iload (i := 4) rfl rfl ?_
        refine hy_const (i := 5) rfl (by decide) ?_
        refine hy_ic_eq (i := 6) (tt := 10) rfl (fun zc1 => ?_) (fun zc1 => ?_)
        · refine hy_const (i := 10) rfl (by decide) ?_
          refine hy_goto (i := 11) (tt := 13) rfl ?_
          refine hy_istore (i := 13) rfl ?_
          refine hy_iload (i := 14) rfl rfl ?_
          refine hy_if_ne (i := 15) (tt := 27) rfl (fun zc2 => ?_) (fun zc2 => ?_)
          · refine hy_aload (i := 27) rfl rfl ?_
            refine hy_get (i := 28) (fk := 7) rfl rfl rfl ?_
            refine hy_const (i := 29) rfl (by decide) ?_
            refine hy_ic_lt (i := 30) (tt := 36) rfl (fun zc3 => ?_) (fun zc3 => ?_)
            · refine hy_aload (i := 36) rfl rfl ?_
              refine hy_getr (i := 37) rfl rfl ?_
              refine hy_cV0v (i := 38) rfl mj_T_step (by decide) rfl (Nat.le_of_ble_eq_true rfl) rfl rfl rfl (c_T_step (by have := tp_ok.p (And.left (show lp_ok _ by assumption)); omega)) ?_
              refine hy_aload (i := 39) rfl rfl ?_
              refine hy_getr (i := 40) rfl rfl ?_
              refine hy_aload (i := 41) rfl rfl ?_
              refine hy_get (i := 42) (fk := 7) rfl rfl rfl ?_
              refine hy_iload (i := 43) rfl rfl ?_
              refine hy_iast (i := 44) rfl rfl (by (show 0 ≤ t 19 7 ∧ t 19 7 < 16; omega)) rfl ?_
              refine hy_aload (i := 45) rfl rfl ?_
              refine hy_getr (i := 46) rfl rfl ?_
              refine hy_aload (i := 47) rfl rfl ?_
              refine hy_get (i := 48) (fk := 7) rfl rfl rfl ?_
              rw [show ∀ (u : hy_T) (i : Nat) (v : Int), hy_up u 22 i v 19 7 = u 19 7 from fun _ _ _ => rfl]
              refine hy_aload (i := 49) rfl rfl ?_
              refine hy_get (i := 50) (fk := 3) rfl rfl rfl ?_
              rw [show ∀ (u : hy_T) (i : Nat) (v : Int), hy_up u 22 i v 19 3 = u 19 3 from fun _ _ _ => rfl]
              refine hy_iast (i := 51) rfl rfl (by (show 0 ≤ t 19 7 ∧ t 19 7 < 16; omega)) rfl ?_
              refine hy_iload (i := 52) rfl rfl ?_
              refine hy_if_eq (i := 53) (tt := 62) rfl (fun zc4 => ?_) (fun zc4 => ?_)
              · omega
              · refine hy_aload (i := 54) rfl rfl ?_
                refine hy_const (i := 55) rfl (by decide) ?_
                refine hy_cV1v (i := 56) rfl mj_L_readSum (by decide) rfl (Nat.le_of_ble_eq_true rfl) rfl rfl rfl ((c_L_sumL 6 (by decide) rfl rfl) a1) ?_
                refine hy_aload (i := 57) rfl rfl ?_
                refine hy_const (i := 58) rfl (by decide) ?_
                refine hy_const (i := 59) rfl (by decide) ?_
                refine hy_cV2e (i := 60) rfl mj_L_emit (by decide) rfl (Nat.le_of_ble_eq_true rfl) rfl rfl rfl (c_L_emit h3.2.1) ?_
                refine hy_pop (i := 61) rfl ?_
                exact e2 ▸ fin _ _ _ b1 (by omega)
            · omega
          · omega
        · refine hy_iload (i := 7) rfl rfl ?_
          refine hy_const (i := 8) rfl (by decide) ?_
          refine hy_ic_ne (i := 9) (tt := 12) rfl (fun zc2 => ?_) (fun zc2 => ?_)
          · omega
          · refine hy_const (i := 10) rfl (by decide) ?_
            refine hy_goto (i := 11) (tt := 13) rfl ?_
            refine hy_istore (i := 13) rfl ?_
            refine hy_iload (i := 14) rfl rfl ?_
            refine hy_if_ne (i := 15) (tt := 27) rfl (fun zc3 => ?_) (fun zc3 => ?_)
            · refine hy_aload (i := 27) rfl rfl ?_
              refine hy_get (i := 28) (fk := 7) rfl rfl rfl ?_
              refine hy_const (i := 29) rfl (by decide) ?_
              refine hy_ic_lt (i := 30) (tt := 36) rfl (fun zc4 => ?_) (fun zc4 => ?_)
              · refine hy_aload (i := 36) rfl rfl ?_
                refine hy_getr (i := 37) rfl rfl ?_
                refine hy_cV0v (i := 38) rfl mj_T_step (by decide) rfl (Nat.le_of_ble_eq_true rfl) rfl rfl rfl (c_T_step (by have := tp_ok.p (And.left (show lp_ok _ by assumption)); omega)) ?_
                refine hy_aload (i := 39) rfl rfl ?_
                refine hy_getr (i := 40) rfl rfl ?_
                refine hy_aload (i := 41) rfl rfl ?_
                refine hy_get (i := 42) (fk := 7) rfl rfl rfl ?_
                refine hy_iload (i := 43) rfl rfl ?_
                refine hy_iast (i := 44) rfl rfl (by (show 0 ≤ t 19 7 ∧ t 19 7 < 16; omega)) rfl ?_
                refine hy_aload (i := 45) rfl rfl ?_
                refine hy_getr (i := 46) rfl rfl ?_
                refine hy_aload (i := 47) rfl rfl ?_
                refine hy_get (i := 48) (fk := 7) rfl rfl rfl ?_
                rw [show ∀ (u : hy_T) (i : Nat) (v : Int), hy_up u 22 i v 19 7 = u 19 7 from fun _ _ _ => rfl]
                refine hy_aload (i := 49) rfl rfl ?_
                refine hy_get (i := 50) (fk := 3) rfl rfl rfl ?_
                rw [show ∀ (u : hy_T) (i : Nat) (v : Int), hy_up u 22 i v 19 3 = u 19 3 from fun _ _ _ => rfl]
                refine hy_iast (i := 51) rfl rfl (by (show 0 ≤ t 19 7 ∧ t 19 7 < 16; omega)) rfl ?_
                refine hy_iload (i := 52) rfl rfl ?_
                refine hy_if_eq (i := 53) (tt := 62) rfl (fun zc5 => ?_) (fun zc5 => ?_)
                · omega
                · refine hy_aload (i := 54) rfl rfl ?_
                  refine hy_const (i := 55) rfl (by decide) ?_
                  refine hy_cV1v (i := 56) rfl mj_L_readSum (by decide) rfl (Nat.le_of_ble_eq_true rfl) rfl rfl rfl ((c_L_sumL 6 (by decide) rfl rfl) a1) ?_
                  refine hy_aload (i := 57) rfl rfl ?_
                  refine hy_const (i := 58) rfl (by decide) ?_
                  refine hy_const (i := 59) rfl (by decide) ?_
                  refine hy_cV2e (i := 60) rfl mj_L_emit (by decide) rfl (Nat.le_of_ble_eq_true rfl) rfl rfl rfl (c_L_emit h3.2.1) ?_
                  refine hy_pop (i := 61) rfl ?_
                  exact e2 ▸ fin _ _ _ b1 (by omega)
              · omega
            · omega
      · have e2 : rk_amt (tp_next t) (rk_head (tp_next t) (tp_step t)) = rk_head (tp_next t) (tp_step t) := by unfold rk_amt; rw [if_neg q3]
        have e8 : rk_head (tp_next t) (tp_step t) 19 7 = t 19 7 := rfl
        rw [e2]
        refine hy_aload (i := 0) rfl rfl ?_
        refine hy_getr (i := 1) rfl rfl ?_
        refine hy_cV0e (i := 2) rfl mj_T_next (by decide) rfl (Nat.le_of_ble_eq_true rfl) rfl rfl rfl (c_T_next (tp_ok.e (And.left (show lp_ok _ by assumption)))) ?_
        refine hy_istore (i := 3) rfl ?_
        refine hy_iload (i := 4) rfl rfl ?_
        refine hy_const (i := 5) rfl (by decide) ?_
        refine hy_ic_eq (i := 6) (tt := 10) rfl (fun zc1 => ?_) (fun zc1 => ?_)
        · omega
        · refine hy_iload (i := 7) rfl rfl ?_
          refine hy_const (i := 8) rfl (by decide) ?_
          refine hy_ic_ne (i := 9) (tt := 12) rfl (fun zc2 => ?_) (fun zc2 => ?_)
          · refine hy_const (i := 12) rfl (by decide) ?_
            refine hy_istore (i := 13) rfl ?_
            refine hy_iload (i := 14) rfl rfl ?_
            refine hy_if_ne (i := 15) (tt := 27) rfl (fun zc3 => ?_) (fun zc3 => ?_)
            · omega
            · refine hy_iload (i := 16) rfl rfl ?_
              refine hy_const (i := 17) rfl (by decide) ?_
              refine hy_ic_eq (i := 18) (tt := 27) rfl (fun zc4 => ?_) (fun zc4 => ?_)
              · refine hy_aload (i := 27) rfl rfl ?_
                refine hy_get (i := 28) (fk := 7) rfl rfl rfl ?_
                refine hy_const (i := 29) rfl (by decide) ?_
                refine hy_ic_lt (i := 30) (tt := 36) rfl (fun zc5 => ?_) (fun zc5 => ?_)
                · refine hy_aload (i := 36) rfl rfl ?_
                  refine hy_getr (i := 37) rfl rfl ?_
                  refine hy_cV0v (i := 38) rfl mj_T_step (by decide) rfl (Nat.le_of_ble_eq_true rfl) rfl rfl rfl (c_T_step (by have := tp_ok.p (And.left (show lp_ok _ by assumption)); omega)) ?_
                  refine hy_aload (i := 39) rfl rfl ?_
                  refine hy_getr (i := 40) rfl rfl ?_
                  refine hy_aload (i := 41) rfl rfl ?_
                  refine hy_get (i := 42) (fk := 7) rfl rfl rfl ?_
                  refine hy_iload (i := 43) rfl rfl ?_
                  refine hy_iast (i := 44) rfl rfl (by (show 0 ≤ t 19 7 ∧ t 19 7 < 16; omega)) rfl ?_
                  refine hy_aload (i := 45) rfl rfl ?_
                  refine hy_getr (i := 46) rfl rfl ?_
                  refine hy_aload (i := 47) rfl rfl ?_
                  refine hy_get (i := 48) (fk := 7) rfl rfl rfl ?_
                  rw [show ∀ (u : hy_T) (i : Nat) (v : Int), hy_up u 22 i v 19 7 = u 19 7 from fun _ _ _ => rfl]
                  refine hy_aload (i := 49) rfl rfl ?_
                  refine hy_get (i := 50) (fk := 3) rfl rfl rfl ?_
                  rw [show ∀ (u : hy_T) (i : Nat) (v : Int), hy_up u 22 i v 19 3 = u 19 3 from fun _ _ _ => rfl]
                  refine hy_iast (i := 51) rfl rfl (by (show 0 ≤ t 19 7 ∧ t 19 7 < 16; omega)) rfl ?_
                  refine hy_iload (i := 52) rfl rfl ?_
                  refine hy_if_eq (i := 53) (tt := 62) rfl (fun zc6 => ?_) (fun zc6 => ?_)
                  · exact fin (rk_head (tp_next t) (tp_step t)) _ _ a1 (by omega)
                  · omega
                · omega
              · refine hy_iload (i := 19) rfl rfl ?_
                refine hy_const (i := 20) rfl (by decide) ?_
                refine hy_ic_eq (i := 21) (tt := 27) rfl (fun zc5 => ?_) (fun zc5 => ?_)
                · refine hy_aload (i := 27) rfl rfl ?_
                  refine hy_get (i := 28) (fk := 7) rfl rfl rfl ?_
                  refine hy_const (i := 29) rfl (by decide) ?_
                  refine hy_ic_lt (i := 30) (tt := 36) rfl (fun zc6 => ?_) (fun zc6 => ?_)
                  · refine hy_aload (i := 36) rfl rfl ?_
                    refine hy_getr (i := 37) rfl rfl ?_
                    refine hy_cV0v (i := 38) rfl mj_T_step (by decide) rfl (Nat.le_of_ble_eq_true rfl) rfl rfl rfl (c_T_step (by have := tp_ok.p (And.left (show lp_ok _ by assumption)); omega)) ?_
                    refine hy_aload (i := 39) rfl rfl ?_
                    refine hy_getr (i := 40) rfl rfl ?_
                    refine hy_aload (i := 41) rfl rfl ?_
                    refine hy_get (i := 42) (fk := 7) rfl rfl rfl ?_
                    refine hy_iload (i := 43) rfl rfl ?_
                    refine hy_iast (i := 44) rfl rfl (by (show 0 ≤ t 19 7 ∧ t 19 7 < 16; omega)) rfl ?_
                    refine hy_aload (i := 45) rfl rfl ?_
                    refine hy_getr (i := 46) rfl rfl ?_
                    refine hy_aload (i := 47) rfl rfl ?_
                    refine hy_get (i := 48) (fk := 7) rfl rfl rfl ?_
                    rw [show ∀ (u : hy_T) (i : Nat) (v : Int), hy_up u 22 i v 19 7 = u 19 7 from fun _ _ _ => rfl]
                    refine hy_aload (i := 49) rfl rfl ?_
                    refine hy_get (i := 50) (fk := 3) rfl rfl rfl ?_
                    rw [show ∀ (u : hy_T) (i : Nat) (v : Int), hy_up u 22 i v 19 3 = u 19 3 from fun _ _ _ => rfl]
                    refine hy_iast (i := 51) rfl rfl (by (show 0 ≤ t 19 7 ∧ t 19 7 < 16; omega)) rfl ?_
                    refine hy_iload (i := 52) rfl rfl ?_
                    refine hy_if_eq (i := 53) (tt := 62) rfl (fun zc7 => ?_) (fun zc7 => ?_)
                    · exact fin (rk_head (tp_next t) (tp_step t)) _ _ a1 (by omega)
                    · omega
                  · omega
                · omega
          · omega
  · have e : rk_clause t = tp_fail t 1 (t 3 3) := by unfold rk_clause; rw [if_neg q1]
    rw [e]
    refine hy_aload (i := 0) rfl rfl ?_
    refine hy_getr (i := 1) rfl rfl ?_
    refine hy_cV0e (i := 2) rfl mj_T_next (by decide) rfl (Nat.le_of_ble_eq_true rfl) rfl rfl rfl (c_T_next (tp_ok.e (And.left (show lp_ok _ by assumption)))) ?_
    refine hy_istore (i := 3) rfl ?_
    refine hy_iload (i := 4) rfl rfl ?_
    refine hy_const (i := 5) rfl (by decide) ?_
    refine hy_ic_eq (i := 6) (tt := 10) rfl (fun zc1 => ?_) (fun zc1 => ?_)
    · omega
    · refine hy_iload (i := 7) rfl rfl ?_
      refine hy_const (i := 8) rfl (by decide) ?_
      refine hy_ic_ne (i := 9) (tt := 12) rfl (fun zc2 => ?_) (fun zc2 => ?_)
      · refine hy_const (i := 12) rfl (by decide) ?_
        refine hy_istore (i := 13) rfl ?_
        refine hy_iload (i := 14) rfl rfl ?_
        refine hy_if_ne (i := 15) (tt := 27) rfl (fun zc3 => ?_) (fun zc3 => ?_)
        · omega
        · refine hy_iload (i := 16) rfl rfl ?_
          refine hy_const (i := 17) rfl (by decide) ?_
          refine hy_ic_eq (i := 18) (tt := 27) rfl (fun zc4 => ?_) (fun zc4 => ?_)
          · omega
          · refine hy_iload (i := 19) rfl rfl ?_
            refine hy_const (i := 20) rfl (by decide) ?_
            refine hy_ic_eq (i := 21) (tt := 27) rfl (fun zc5 => ?_) (fun zc5 => ?_)
            · omega
            · refine hy_aload (i := 22) rfl rfl ?_
              refine hy_getr (i := 23) rfl rfl ?_
              refine hy_const (i := 24) rfl (by decide) ?_
              refine hy_cV1v (i := 25) rfl mj_T_fail (by decide) rfl (Nat.le_of_ble_eq_true rfl) rfl rfl rfl (c_T_fail (by decide) (by have := tp_ok.p (And.left (show lp_ok _ by assumption)); omega)) ?_
              refine hy_return (i := 26) rfl rfl ?_
              exact ⟨rfl, rfl⟩
      · omega
theorem c_L_read {n : Int} (h : tp_ok t) : hy_Ct sc hm_L_read 62 [.inr (some 19), .inl n] t (hy_e (some (rk_read t n 3 4)) (rk_read t n)) := by
  refine hy_mk_ct ok_L_read ck_L_read (Nat.le_of_ble_eq_true rfl) ?_
  have loop : ∀ (m : Nat), ∀ (k : Nat) (t1 : hy_T), m + k = 16 → lp_ok t1 → tp_finish (rk_loop m t1) = rk_read t n → hy_W sc hm_L_read 62 14 [.inr (some 19), .inl n, .inl (k : Int)] [] t1 (hy_e (some (rk_read t n 3 4)) (rk_read t n)) := by
    intro m
    induction m with
    | zero =>
      intro k t1 hn h1 he
      obtain rfl : k = 16 := by omega
      rw [← he]
      refine hy_iload (i := 14) rfl rfl ?_
      refine hy_const (i := 15) rfl (by decide) ?_
      refine hy_ic_ge (i := 16) (tt := 29) rfl (fun zc1 => ?_) (fun zc1 => ?_)
      · refine hy_aload (i := 29) rfl rfl ?_
        refine hy_getr (i := 30) rfl rfl ?_
        refine hy_cV0v (i := 31) rfl mj_T_finish (by decide) rfl (Nat.le_of_ble_eq_true rfl) rfl rfl rfl (c_T_finish (by have := h1.1.p; omega)) ?_
        refine hy_aload (i := 32) rfl rfl ?_
        refine hy_getr (i := 33) rfl rfl ?_
        refine hy_cV0e (i := 34) rfl mj_T_fault (by decide) rfl (Nat.le_of_ble_eq_true rfl) rfl rfl rfl (c_T_fault) ?_
        refine hy_ireturn (i := 35) rfl rfl ?_
        exact ⟨rfl, rfl⟩
      · omega
    | succ m ih =>
      intro k t1 hn h1 he
      by_cases hd : tp_next t1 = 59
      · have h2 := rx_step_ok h1 (by omega)
        have e : rk_loop (m + 1) t1 = rk_loop m (rk_clause (tp_step t1)) := by simp only [rk_loop]; rw [if_pos hd]
        rw [e] at he
        refine hy_iload (i := 14) rfl rfl ?_
        refine hy_const (i := 15) rfl (by decide) ?_
        refine hy_ic_ge (i := 16) (tt := 29) rfl (fun zc1 => ?_) (fun zc1 => ?_)
        · omega
        · refine hy_aload (i := 17) rfl rfl ?_
          refine hy_getr (i := 18) rfl rfl ?_
          refine hy_cV0e (i := 19) rfl mj_T_next (by decide) rfl (Nat.le_of_ble_eq_true rfl) rfl rfl rfl (c_T_next (tp_ok.e (And.left (show lp_ok _ by assumption)))) ?_
          refine hy_const (i := 20) rfl (by decide) ?_
          refine hy_ic_ne (i := 21) (tt := 29) rfl (fun zc2 => ?_) (fun zc2 => ?_)
          · omega
          · refine hy_aload (i := 22) rfl rfl ?_
            refine hy_getr (i := 23) rfl rfl ?_
            refine hy_cV0v (i := 24) rfl mj_T_step (by decide) rfl (Nat.le_of_ble_eq_true rfl) rfl rfl rfl (c_T_step (by have := tp_ok.p (And.left (show lp_ok _ by assumption)); omega)) ?_
            refine hy_aload (i := 25) rfl rfl ?_
            refine hy_cV0v (i := 26) rfl mj_L_readClause (by decide) rfl (Nat.le_of_ble_eq_true rfl) rfl rfl rfl (c_L_readClause (by assumption)) ?_
            refine hy_iinc (i := 27) rfl rfl (by omega) ?_
            refine hy_goto (i := 28) (tt := 14) rfl ?_
            exact ih (k + 1) _ (by omega) (rk_clause_s h2).1 he
      · have e : rk_loop (m + 1) t1 = t1 := by simp only [rk_loop]; rw [if_neg hd]
        rw [e] at he
        rw [← he]
        refine hy_iload (i := 14) rfl rfl ?_
        refine hy_const (i := 15) rfl (by decide) ?_
        refine hy_ic_ge (i := 16) (tt := 29) rfl (fun zc1 => ?_) (fun zc1 => ?_)
        · omega
        · refine hy_aload (i := 17) rfl rfl ?_
          refine hy_getr (i := 18) rfl rfl ?_
          refine hy_cV0e (i := 19) rfl mj_T_next (by decide) rfl (Nat.le_of_ble_eq_true rfl) rfl rfl rfl (c_T_next (tp_ok.e (And.left (show lp_ok _ by assumption)))) ?_
          refine hy_const (i := 20) rfl (by decide) ?_
          refine hy_ic_ne (i := 21) (tt := 29) rfl (fun zc2 => ?_) (fun zc2 => ?_)
          · refine hy_aload (i := 29) rfl rfl ?_
            refine hy_getr (i := 30) rfl rfl ?_
            refine hy_cV0v (i := 31) rfl mj_T_finish (by decide) rfl (Nat.le_of_ble_eq_true rfl) rfl rfl rfl (c_T_finish (by have := h1.1.p; omega)) ?_
            refine hy_aload (i := 32) rfl rfl ?_
            refine hy_getr (i := 33) rfl rfl ?_
            refine hy_cV0e (i := 34) rfl mj_T_fault (by decide) rfl (Nat.le_of_ble_eq_true rfl) rfl rfl rfl (c_T_fault) ?_
            refine hy_ireturn (i := 35) rfl rfl ?_
            exact ⟨rfl, rfl⟩
          · omega
  have h0 := rk_init_s h n
  refine hy_aload (i := 0) rfl rfl ?_
  refine hy_getr (i := 1) rfl rfl ?_
  refine hy_iload (i := 2) rfl rfl ?_
  refine hy_cV1v (i := 3) rfl mj_T_start (by decide) rfl (Nat.le_of_ble_eq_true rfl) rfl rfl rfl (c_T_start) ?_
  refine hy_aload (i := 4) rfl rfl ?_
  refine hy_const (i := 5) rfl (by decide) ?_
  refine hy_put (i := 6) (fk := 7) rfl rfl rfl rfl ?_
  refine hy_aload (i := 7) rfl rfl ?_
  refine hy_const (i := 8) rfl (by decide) ?_
  refine hy_put (i := 9) (fk := 3) rfl rfl rfl rfl ?_
  refine hy_aload (i := 10) rfl rfl ?_
  refine hy_cV0v (i := 11) rfl mj_L_readClause (by decide) rfl (Nat.le_of_ble_eq_true rfl) rfl rfl rfl (c_L_readClause h0) ?_
  refine hy_const (i := 12) rfl (by decide) ?_
  refine hy_istore (i := 13) rfl ?_
  exact loop 16 0 _ rfl (rk_clause_s h0).1 rfl
end RKC
/-! a war's state: days go by -/
abbrev st_ok (b : Nat) (t : hy_T) : Prop := (0 ≤ t b 3 ∧ t b 3 ≤ 16) ∧ (0 ≤ t b 4 ∧ t b 4 ≤ 9999) ∧ (0 ≤ t b 5 ∧ t b 5 ≤ 65535) ∧ ∀ j : Nat, j < 96 → -9999 ≤ t (b + 3) j ∧ t (b + 3) j ≤ 9999
theorem st_ok.c {b : Nat} {t : hy_T} (h : st_ok b t) : 0 ≤ t b 3 ∧ t b 3 ≤ 16 := h.1
theorem st_ok.d {b : Nat} {t : hy_T} (h : st_ok b t) : 0 ≤ t b 4 ∧ t b 4 ≤ 9999 := h.2.1
theorem st_ok.w {b : Nat} {t : hy_T} (h : st_ok b t) : 0 ≤ t b 5 ∧ t b 5 ≤ 65535 := h.2.2.1
theorem st_ok.t {b : Nat} {t : hy_T} (h : st_ok b t) : ∀ j : Nat, j < 96 → -9999 ≤ t (b + 3) j ∧ t (b + 3) j ≤ 9999 := h.2.2.2
theorem hE_up {X : Nat → Nat → Bool} {t t1 : hy_T} (h : hy_F X t t1) (r j : Nat) (v : Int) : hy_F X (hy_up t r j v) (hy_up t1 r j v) := by
  intro r' j' q
  simp only [hy_up]
  split
  · rfl
  · exact h r' j' q
theorem sp_part_in {b : Nat} {t : hy_T} (h : st_ok b t) (i w : Int) : -9999 ≤ sp_part b t i w ∧ sp_part b t i w ≤ 9999 := by
  have h1 := h.c
  unfold sp_part
  split
  · exact h.t _ (by omega)
  · decide
theorem sp_part_E {b : Nat} (hb : b = 33 ∨ b = 41) {t t1 : hy_T} (h : hy_F eX t t1) (i w : Int) : sp_part b t1 i w = sp_part b t i w := by
  unfold sp_part
  rcases hb with rfl | rfl <;> rw [h _ 3 rfl] <;> split <;> first | rfl | exact h _ _ rfl
theorem sp_moveN_E {b : Nat} (hb : b = 33 ∨ b = 41) {t t1 : hy_T} (h : hy_F eX t t1) (c w lo wi : Int) : ∀ n, hy_F eX (sp_moveN b t c w lo wi n) (sp_moveN b t1 c w lo wi n)
  | 0 => h
  | n + 1 => by
    have ih := sp_moveN_E hb h c w lo wi n
    have e : sp_moveN b t1 c w lo wi n (b + 1) = sp_moveN b t c w lo wi n (b + 1) := by rcases hb with rfl | rfl <;> exact funext fun j => ih _ j rfl
    simp only [sp_moveN]
    split
    · unfold sp_setH
      rw [e]
      split
      · exact hE_up ih _ _ _
      · exact ih
    · exact ih
theorem sp_shift_E {b : Nat} (hb : b = 33 ∨ b = 41) : ∀ (n a : Nat) {t t1 : hy_T}, hy_F eX t t1 → hy_F eX (sp_shift b t a n) (sp_shift b t1 a n)
  | 0, _, _, _, h => h
  | n + 1, a, t, t1, h => by
    have e : t1 (b + 3) (a + 6) = t (b + 3) (a + 6) := by rcases hb with rfl | rfl <;> exact h _ _ rfl
    simp only [sp_shift]
    rw [e]
    exact sp_shift_E hb n (a + 1) (hE_up h _ _ _)
theorem sp_first_E {b : Nat} (hb : b = 33 ∨ b = 41) {t t1 : hy_T} (h : hy_F eX t t1) (i : Int) : hy_F eX (sp_first b t i) (sp_first b t1 i) := by
  have e6 : t1 b 6 = t b 6 := by rcases hb with rfl | rfl <;> exact h _ _ rfl
  have e4 : t1 b 4 = t b 4 := by rcases hb with rfl | rfl <;> exact h _ _ rfl
  unfold sp_first
  rw [e6]
  split
  · dsimp only
    rw [e4, sp_part_E hb (hE_up h b 6 (t b 4))]
    exact hE_up (hE_up h _ _ _) _ _ _
  · exact h
theorem sp_broken_E {b : Nat} (hb : b = 33 ∨ b = 41) {t t1 : hy_T} (h : hy_F eX t t1) (i : Int) : hy_F eX (sp_broken b t i) (sp_broken b t1 i) := by
  have e3 : t1 b 3 = t b 3 := by rcases hb with rfl | rfl <;> exact h _ _ rfl
  have hf := sp_first_E hb h i
  simp only [sp_broken]
  rw [e3, sp_part_E hb hf, sp_part_E hb hf, sp_part_E hb hf, sp_part_E hb hf]
  exact hE_up (sp_shift_E hb _ _ (sp_moveN_E hb hf _ _ _ _ 4)) _ _ _
def sp_chance (b : Nat) (t : hy_T) (i : Int) : Int :=
  lc_amt t (LV (sp_part b t i 2) (sp_part b t i 0) (sp_lowN (sp_part b t i 1) 4 0) (t b 4) 0 0 0 0 (sp_bc (sp_hav (t (b + 1)) (sp_part b t i 0) (sp_lowN (sp_part b t i 1) 4 0))) (t b 4 - sp_part b t i 5)) 98 10
theorem sp_chance_E {b : Nat} (hb : b = 33 ∨ b = 41) {t t1 : hy_T} (h : hy_F eX t t1) (i : Int) : sp_chance b t1 i = sp_chance b t i := by
  have e4 : t1 b 4 = t b 4 := by rcases hb with rfl | rfl <;> exact h _ _ rfl
  have e1 : t1 (b + 1) = t (b + 1) := by rcases hb with rfl | rfl <;> exact funext fun j => h _ j rfl
  unfold sp_chance
  rw [lc_same_amt (eX_law h), sp_part_E hb h, sp_part_E hb h, sp_part_E hb h, sp_part_E hb h, e4, e1]
def sp_draw (x : Int) : Int := hz_iand (25173 * x + 13849) 65535
def sp_dayN (b : Nat) : Nat → hy_T → Int → hy_T
  | 0, t, _ => t
  | n + 1, t, i =>
    let t1 := hy_up t b 5 (sp_draw (t b 5))
    if t1 b 5 % 10 < sp_chance b t1 i then sp_dayN b n (sp_broken b t1 i) i else sp_dayN b n t1 (i + 1)
theorem sp_dayN_E {b : Nat} (hb : b = 33 ∨ b = 41) : ∀ (n : Nat) {t t1 : hy_T} (i : Int), hy_F eX t t1 → hy_F eX (sp_dayN b n t i) (sp_dayN b n t1 i)
  | 0, _, _, _, h => h
  | n + 1, t, t1, i, h => by
    have e5 : t1 b 5 = t b 5 := by rcases hb with rfl | rfl <;> exact h _ _ rfl
    have h2 := hE_up h b 5 (sp_draw (t b 5))
    simp only [sp_dayN]
    rw [e5, sp_chance_E hb h2, show hy_up t1 b 5 (sp_draw (t b 5)) b 5 = hy_up t b 5 (sp_draw (t b 5)) b 5 by simp [hy_up]]
    split
    · exact sp_dayN_E hb n i (sp_broken_E hb h2 i)
    · exact sp_dayN_E hb n (i + 1) h2
/-- what a day changes -/
abbrev dyX (b : Nat) : Nat → Nat → Bool := fun r j => r == b + 1 || r == b + 3 || (r == b && (j == 3 || j == 5 || j == 6 || j == 7))
theorem sp_shift_in (b : Nat) : ∀ (n a : Nat) {t : hy_T}, n + a ≤ 90 → (∀ j : Nat, j < 96 → -9999 ≤ t (b + 3) j ∧ t (b + 3) j ≤ 9999) → ∀ j : Nat, j < 96 → -9999 ≤ sp_shift b t a n (b + 3) j ∧ sp_shift b t a n (b + 3) j ≤ 9999
  | 0, _, _, _, h => h
  | n + 1, a, t, hn, h => by
    simp only [sp_shift]
    refine sp_shift_in b n (a + 1) (by omega) (fun j hj => ?_)
    simp only [hy_up]
    split
    · exact h _ (by omega)
    · exact h j hj
theorem sp_first_G (b : Nat) (t : hy_T) (i : Int) : hy_F (fun r j => r == b && (j == 6 || j == 7)) t (sp_first b t i) := by
  unfold sp_first
  split
  · exact (hy_F.rf.up (by simp)).up (by simp)
  · exact hy_F.rf
theorem sp_broken_F (b : Nat) (t : hy_T) (i : Int) : hy_F (dyX b) t (sp_broken b t i) := by
  simp only [sp_broken]
  refine hy_F.up (((sp_first_G b t i).w (fun r j q => by revert q; simp [dyX]; omega)).tr' (((sp_moveN_F b _ _ _ _ _ 4).w (fun r j q => by revert q; simp [dyX]; omega)).tr' ((sp_shift_F b _ _ _).w (fun r j q => by revert q; simp [dyX]; omega)))) (by simp [dyX])
theorem sp_broken_ok {b : Nat} {t : hy_T} (h : st_ok b t) {i : Int} (hi : 0 ≤ i ∧ i < t b 3) : st_ok b (sp_broken b t i) ∧ sp_broken b t i b 3 = t b 3 - 1 := by
  have hc := h.c
  have e3 : sp_broken b t i b 3 = t b 3 - 1 := by simp [sp_broken, hy_up]
  refine ⟨⟨by rw [e3]; omega, by rw [sp_broken_F b t i b 4 (by simp [dyX])]; exact h.d, ?_, ?_⟩, e3⟩
  · have e5 : sp_broken b t i b 5 = t b 5 := by
      have f1 := sp_first_G b t i b 5 (by simp)
      have f2 : ∀ (u : hy_T) (c w lo wi : Int), sp_moveN b u c w lo wi 4 b 5 = u b 5 := fun u c w lo wi => sp_moveN_F b u c w lo wi 4 b 5 (by simp)
      have f3 : ∀ (u : hy_T) (n a : Nat), sp_shift b u a n b 5 = u b 5 := fun u n a => sp_shift_F b n a u b 5 (by simp)
      simp only [sp_broken, hy_up]
      rw [if_neg (by omega), f3, f2, f1]
    rw [e5]
    exact h.w
  · intro j hj
    have f1 : ∀ k, sp_first b t i (b + 3) k = t (b + 3) k := fun k => sp_first_G b t i (b + 3) k (by simp)
    have f2 : ∀ (u : hy_T) (c w lo wi : Int) (k : Nat), sp_moveN b u c w lo wi 4 (b + 3) k = u (b + 3) k := fun u c w lo wi k => sp_moveN_F b u c w lo wi 4 (b + 3) k (by simp)
    simp only [sp_broken, hy_up]
    rw [if_neg (by omega)]
    refine sp_shift_in b _ _ (by omega) (fun k hk => ?_) j hj
    rw [f2, f1]
    exact h.t k hk
theorem sp_draw_in (x : Int) : 0 ≤ sp_draw x ∧ sp_draw x ≤ 65535 := hz_iand_le (by decide)
theorem sp_drawn_ok {b : Nat} {t : hy_T} (h : st_ok b t) : st_ok b (hy_up t b 5 (sp_draw (t b 5))) := by
  have h5 := sp_draw_in (t b 5)
  refine ⟨by simpa [hy_up] using h.c, by simpa [hy_up] using h.d, by simpa [hy_up] using h5, fun j hj => ?_⟩
  have := h.t j hj
  simpa [hy_up] using this
theorem sp_dayN_s (b : Nat) : ∀ (n : Nat) {t : hy_T} {i : Int}, st_ok b t → 0 ≤ i → i + n = t b 3 → st_ok b (sp_dayN b n t i) ∧ hy_F (dyX b) t (sp_dayN b n t i) ∧ sp_dayN b n t i b 3 ≤ t b 3
  | 0, t, i, h, hi, hn => ⟨h, hy_F.rf, Int.le_refl _⟩
  | n + 1, t, i, h, hi, hn => by
    have h1 := sp_drawn_ok h
    have e3 : hy_up t b 5 (sp_draw (t b 5)) b 3 = t b 3 := by simp [hy_up]
    have f1 : hy_F (dyX b) t (hy_up t b 5 (sp_draw (t b 5))) := hy_F.rf.up (by simp [dyX])
    simp only [sp_dayN]
    split
    · obtain ⟨a1, a2⟩ := sp_broken_ok h1 (i := i) (by omega)
      obtain ⟨b1, b2, b3⟩ := sp_dayN_s b n (i := i) a1 hi (by omega)
      exact ⟨b1, (f1.tr' (sp_broken_F b _ i)).tr' b2, by omega⟩
    · obtain ⟨b1, b2, b3⟩ := sp_dayN_s b n (i := i + 1) h1 (by omega) (by omega)
      exact ⟨b1, f1.tr' b2, by omega⟩
def sp_daysN (b : Nat) : Nat → hy_T → hy_T
  | 0, t => t
  | n + 1, t => if t b 4 < 9999 then sp_daysN b n (hy_up (sp_dayN b (t b 3).toNat t 0) b 4 (t b 4 + 1)) else t
def sp_days (b : Nat) (t : hy_T) (n : Int) : hy_T := sp_daysN b n.toNat (hy_up (hy_up t b 6 (-2)) b 7 (-2))
theorem lc_ok_dy {t t1 : hy_T} {b : Nat} (hb : b = 33 ∨ b = 41) (h : hy_F (dyX b) t t1) (hk : lc_ok t) : lc_ok t1 :=
  lc_ok_same (lc_same_of h (fun r j q => by rcases hb with rfl | rfl <;> (revert q; simp [lawX, dyX]; omega))) hk
theorem st_ok_E {b : Nat} (hb : b = 33 ∨ b = 41) {t t1 : hy_T} (h : hy_F eX t t1) (hs : st_ok b t) : st_ok b t1 := by
  rcases hb with rfl | rfl
  · exact ⟨by rw [h 33 3 rfl]; exact hs.c, by rw [h 33 4 rfl]; exact hs.d, by rw [h 33 5 rfl]; exact hs.w, fun j hj => by rw [h (33 + 3) j rfl]; exact hs.t j hj⟩
  · exact ⟨by rw [h 41 3 rfl]; exact hs.c, by rw [h 41 4 rfl]; exact hs.d, by rw [h 41 5 rfl]; exact hs.w, fun j hj => by rw [h (41 + 3) j rfl]; exact hs.t j hj⟩
theorem st_next_ok {b : Nat} {t : hy_T} (h : st_ok b t) (h4 : t b 4 < 9999) : st_ok b (hy_up (sp_dayN b (t b 3).toNat t 0) b 4 (t b 4 + 1)) ∧ hy_up (sp_dayN b (t b 3).toNat t 0) b 4 (t b 4 + 1) b 3 = sp_dayN b (t b 3).toNat t 0 b 3 := by
  have hc := h.c
  have hd := h.d
  obtain ⟨a1, a2, a3⟩ := sp_dayN_s b (t b 3).toNat (i := 0) h (by omega) (by omega)
  refine ⟨⟨by simpa [hy_up] using a1.c, by simp [hy_up]; omega, by simpa [hy_up] using a1.w, fun j hj => ?_⟩, by simp [hy_up]⟩
  have := a1.t j hj
  simpa [hy_up] using this
section SG33
variable {sc : List Int32} {t : hy_T}
theorem c_S_chance_33 {i : Int} (hs : st_ok 33 t) (hk : lc_ok t) : hy_Ct sc hm_S_chance 3 [.inr (some 33), .inr (some 11), .inl i] t (fun r t' => r = some (sp_chance 33 t i) ∧ hy_F eX t t') := by
  refine hy_mk_ct ok_S_chance ck_S_chance (Nat.le_of_ble_eq_true rfl) ?_
  have hc := hs.c
  have hd := hs.d
  have h5 := sp_part_in hs i 5
  refine hy_aload (i := 0) rfl rfl ?_
  refine hy_iload (i := 1) rfl rfl ?_
  refine hy_const (i := 2) rfl (by decide) ?_
  refine hy_cV2e (i := 3) rfl mj_S_part (by decide) rfl (Nat.le_of_ble_eq_true rfl) rfl rfl rfl (c_S_part_33 (by assumption)) ?_
  refine hy_istore (i := 4) rfl ?_
  refine hy_aload (i := 5) rfl rfl ?_
  refine hy_iload (i := 6) rfl rfl ?_
  refine hy_const (i := 7) rfl (by decide) ?_
  refine hy_cV2e (i := 8) rfl mj_S_part (by decide) rfl (Nat.le_of_ble_eq_true rfl) rfl rfl rfl (c_S_part_33 (by assumption)) ?_
  refine hy_cS1e (i := 9) rfl (by decide) mj_S_lowest (by decide) rfl (Nat.le_of_ble_eq_true rfl) (c_S_lowest) ?_
  refine hy_istore (i := 10) rfl ?_
  refine hy_aload (i := 11) rfl rfl ?_
  refine hy_aload (i := 12) rfl rfl ?_
  refine hy_iload (i := 13) rfl rfl ?_
  refine hy_const (i := 14) rfl (by decide) ?_
  refine hy_cV2e (i := 15) rfl mj_S_part (by decide) rfl (Nat.le_of_ble_eq_true rfl) rfl rfl rfl (c_S_part_33 (by assumption)) ?_
  refine hy_iload (i := 16) rfl rfl ?_
  refine hy_iload (i := 17) rfl rfl ?_
  refine hy_aload (i := 18) rfl rfl ?_
  refine hy_get (i := 19) (fk := 4) rfl rfl rfl ?_
  refine hy_const (i := 20) rfl (by decide) ?_
  refine hy_aload (i := 21) rfl rfl ?_
  refine hy_iload (i := 22) rfl rfl ?_
  refine hy_iload (i := 23) rfl rfl ?_
  refine hy_cV2e (i := 24) rfl mj_S_havers (by decide) rfl (Nat.le_of_ble_eq_true rfl) rfl rfl rfl (c_S_havers_33) ?_
  refine hy_cS1e (i := 25) rfl (by decide) mj_J_bitCount (by decide) rfl (Nat.le_of_ble_eq_true rfl) (c_J_bitCount) ?_
  refine hy_cV6v (i := 26) rfl mj_L_tell (by decide) rfl (Nat.le_of_ble_eq_true rfl) rfl rfl rfl (c_L_tell) ?_
  refine hy_aload (i := 27) rfl rfl ?_
  refine hy_aload (i := 28) rfl rfl ?_
  refine hy_get (i := 29) (fk := 4) rfl rfl rfl ?_
  rw [show ∀ e c q dd m g, rc_tell t e c q dd m g 33 4 = t 33 4 from fun _ _ _ _ _ _ => rfl]
  refine hy_aload (i := 30) rfl rfl ?_
  refine hy_iload (i := 31) rfl rfl ?_
  refine hy_const (i := 32) rfl (by decide) ?_
  refine hy_cV2e (i := 33) rfl mj_S_part (by decide) rfl (Nat.le_of_ble_eq_true rfl) rfl rfl rfl (c_S_part_33 (by assumption)) ?_
  rw [sp_part_E (b := 33) (by decide) (rc_tell_F (hy_F.rf (t := t)) _ _ _ _ _ _)]
  refine hy_isub (i := 34) rfl (by omega) ?_
  refine hy_cV1v (i := 35) rfl mj_L_tellAge (by decide) rfl (Nat.le_of_ble_eq_true rfl) rfl rfl rfl (c_L_tellAge) ?_
  refine hy_aload (i := 36) rfl rfl ?_
  refine hy_const (i := 37) rfl (by decide) ?_
  refine hy_const (i := 38) rfl (by decide) ?_
  refine hy_cV2 (i := 39) rfl mj_L_amount (by decide) rfl (Nat.le_of_ble_eq_true rfl) rfl rfl rfl (c_L_amount (lc_ok_same (eX_law ((rc_tell_F hy_F.rf _ _ _ _ _ _).up rfl)) hk)) (fun r10_ t10_ h10 => ?_)
  obtain ⟨rfl, hF10⟩ := h10
  dsimp only [hy_st, List.cons_append, List.nil_append]
  rw [tell_amto hy_F.rf]
  have hG := rX_eX ((rc_tell_F (hy_F.rf (t := t)) _ _ _ _ _ _).up rfl) hF10
  refine hy_ireturn (i := 40) rfl rfl ?_
  exact ⟨rfl, hG⟩
theorem c_S_goByOnce_33 (hs : st_ok 33 t) (hk : lc_ok t) : hy_Ct sc hm_S_goByOnce 4 [.inr (some 33), .inr (some 11)] t (fun r t' => r = some (t 33 3 - sp_dayN 33 (t 33 3).toNat t 0 33 3) ∧ hy_F eX (sp_dayN 33 (t 33 3).toNat t 0) t') := by
  refine hy_mk_ct ok_S_goByOnce ck_S_goByOnce (Nat.le_of_ble_eq_true rfl) ?_
  have hc := hs.c
  have loop : ∀ (n : Nat), ∀ (k : Nat) (i : Int) (p t1 : hy_T), n + k = (t 33 3).toNat → st_ok 33 p → lc_ok p → hy_F eX p t1 → 0 ≤ i → i + n = p 33 3 → p 33 3 ≤ t 33 3 → sp_dayN 33 n p i = sp_dayN 33 (t 33 3).toNat t 0 → hy_W sc hm_S_goByOnce 4 7 [.inr (some 33), .inr (some 11), .inl (t 33 3), .inl i, .inl (k : Int)] [] t1 (fun r t' => r = some (t 33 3 - sp_dayN 33 (t 33 3).toNat t 0 33 3) ∧ hy_F eX (sp_dayN 33 (t 33 3).toNat t 0) t') := by
    intro n
    induction n with
    | zero =>
      intro k i p t1 hn h1 hl hF hi hp hpt he
      rw [← he]
      have e3 : t1 33 3 = p 33 3 := hF 33 3 rfl
      have hpc := h1.c
      refine hy_iload (i := 7) rfl rfl ?_
      refine hy_iload (i := 8) rfl rfl ?_
      refine hy_ic_ge (i := 9) (tt := 36) rfl (fun zc1 => ?_) (fun zc1 => ?_)
      · refine hy_iload (i := 36) rfl rfl ?_
        refine hy_aload (i := 37) rfl rfl ?_
        refine hy_get (i := 38) (fk := 3) rfl rfl rfl ?_
        rw [e3]
        refine hy_isub (i := 39) rfl (by omega) ?_
        refine hy_ireturn (i := 40) rfl rfl ?_
        exact ⟨rfl, hF⟩
      · omega
    | succ n ih =>
      intro k i p t1 hn h1 hl hF hi hp hpt he
      have mid : ∀ (p2 t2 : hy_T), st_ok 33 p2 → lc_ok p2 → hy_F eX p2 t2 → p2 33 3 = p 33 3 → (if p2 33 5 % 10 < sp_chance 33 p2 i then sp_dayN 33 n (sp_broken 33 p2 i) i else sp_dayN 33 n p2 (i + 1)) = sp_dayN 33 (t 33 3).toNat t 0 → hy_W sc hm_S_goByOnce 4 20 [.inr (some 33), .inr (some 11), .inl (t 33 3), .inl i, .inl (k : Int)] [] t2 (fun r t' => r = some (t 33 3 - sp_dayN 33 (t 33 3).toNat t 0 33 3) ∧ hy_F eX (sp_dayN 33 (t 33 3).toNat t 0) t') := by
        intro p2 t2 h2 hl2 hF2 e3 he2
        have hs2 := st_ok_E (b := 33) (by decide) hF2 h2
        have hk2 := lc_ok_same (eX_law hF2) hl2
        have h5 := hs2.w
        have e5 : t2 33 5 = p2 33 5 := hF2 33 5 rfl
        have e3' : t2 33 3 = p2 33 3 := hF2 33 3 rfl
        have ec : sp_chance 33 t2 i = sp_chance 33 p2 i := sp_chance_E (b := 33) (by decide) hF2 i
        by_cases hq : p2 33 5 % 10 < sp_chance 33 p2 i
        · rw [if_pos hq] at he2
          obtain ⟨b1, b2⟩ := sp_broken_ok h2 (i := i) (by omega)
          refine hy_aload (i := 20) rfl rfl ?_
          refine hy_get (i := 21) (fk := 5) rfl rfl rfl ?_
          refine hy_const (i := 22) rfl (by decide) ?_
          refine hy_irem (i := 23) rfl (by omega) (by omega) ?_
          refine hy_aload (i := 24) rfl rfl ?_
          refine hy_aload (i := 25) rfl rfl ?_
          refine hy_iload (i := 26) rfl rfl ?_
          refine hy_cV2 (i := 27) rfl mj_S_chance (by decide) rfl (Nat.le_of_ble_eq_true rfl) rfl rfl rfl (c_S_chance_33 hs2 hk2) (fun r1_ t1_ h1 => ?_)
          obtain ⟨rfl, hF1⟩ := h1
          dsimp only [hy_st, List.cons_append, List.nil_append]
          have hG := hF2.tr' hF1
          have eG : t1_ 33 3 = p2 33 3 := hG 33 3 rfl
          refine hy_ic_ge (i := 28) (tt := 33) rfl (fun zc1 => ?_) (fun zc1 => ?_)
          · omega
          · refine hy_aload (i := 29) rfl rfl ?_
            refine hy_iload (i := 30) rfl rfl ?_
            refine hy_cV1v (i := 31) rfl mj_S_breakTreaty (by decide) rfl (Nat.le_of_ble_eq_true rfl) rfl rfl rfl (c_S_breakTreaty_33 (by rw [eG]; exact h2.c) (by rw [eG]; omega)) ?_
            refine hy_goto (i := 32) (tt := 34) rfl ?_
            refine hy_iinc (i := 34) rfl rfl (by omega) ?_
            refine hy_goto (i := 35) (tt := 7) rfl ?_
            exact ih (k + 1) i _ _ (by omega) b1 (lc_ok_dy (b := 33) (by decide) (sp_broken_F 33 p2 i) hl2) (sp_broken_E (b := 33) (by decide) hG i) hi (by omega) (by omega) he2
        · rw [if_neg hq] at he2
          refine hy_aload (i := 20) rfl rfl ?_
          refine hy_get (i := 21) (fk := 5) rfl rfl rfl ?_
          refine hy_const (i := 22) rfl (by decide) ?_
          refine hy_irem (i := 23) rfl (by omega) (by omega) ?_
          refine hy_aload (i := 24) rfl rfl ?_
          refine hy_aload (i := 25) rfl rfl ?_
          refine hy_iload (i := 26) rfl rfl ?_
          refine hy_cV2 (i := 27) rfl mj_S_chance (by decide) rfl (Nat.le_of_ble_eq_true rfl) rfl rfl rfl (c_S_chance_33 hs2 hk2) (fun r1_ t1_ h1 => ?_)
          obtain ⟨rfl, hF1⟩ := h1
          dsimp only [hy_st, List.cons_append, List.nil_append]
          have hG := hF2.tr' hF1
          refine hy_ic_ge (i := 28) (tt := 33) rfl (fun zc1 => ?_) (fun zc1 => ?_)
          · refine hy_iinc (i := 33) rfl rfl (by omega) ?_
            refine hy_iinc (i := 34) rfl rfl (by omega) ?_
            refine hy_goto (i := 35) (tt := 7) rfl ?_
            exact ih (k + 1) (i + 1) _ _ (by omega) h2 hl2 hG (by omega) (by omega) (by omega) he2
          · omega
      have h5 := (st_ok_E (b := 33) (by decide) hF h1).w
      have e5 : t1 33 5 = p 33 5 := hF 33 5 rfl
      have hpc := h1.c
      refine hy_iload (i := 7) rfl rfl ?_
      refine hy_iload (i := 8) rfl rfl ?_
      refine hy_ic_ge (i := 9) (tt := 36) rfl (fun zc1 => ?_) (fun zc1 => ?_)
      · omega
      · refine hy_aload (i := 10) rfl rfl ?_
        refine hy_const (i := 11) rfl (by decide) ?_
        refine hy_aload (i := 12) rfl rfl ?_
        refine hy_get (i := 13) (fk := 5) rfl rfl rfl ?_
        refine hy_imul (i := 14) rfl (by omega) ?_
        refine hy_const (i := 15) rfl (by decide) ?_
        refine hy_iadd (i := 16) rfl (by omega) ?_
        refine hy_const (i := 17) rfl (by decide) ?_
        refine hy_iand (i := 18) rfl ?_
        refine hy_put (i := 19) (fk := 5) rfl rfl rfl rfl ?_
        rw [e5]
        exact mid (hy_up p 33 5 (sp_draw (p 33 5))) _ (sp_drawn_ok h1) (lc_ok_dy (b := 33) (by decide) (hy_F.rf.up rfl) hl) (hE_up hF _ _ _) rfl he
  refine hy_aload (i := 0) rfl rfl ?_
  refine hy_get (i := 1) (fk := 3) rfl rfl rfl ?_
  refine hy_istore (i := 2) rfl ?_
  refine hy_const (i := 3) rfl (by decide) ?_
  refine hy_istore (i := 4) rfl ?_
  refine hy_const (i := 5) rfl (by decide) ?_
  refine hy_istore (i := 6) rfl ?_
  exact loop (t 33 3).toNat 0 0 t t rfl hs hk hy_F.rf (by decide) (by omega) (Int.le_refl _) rfl
theorem c_S_goBy_33 {n : Int} (hn : n ≤ 2147483647) (hs : st_ok 33 t) (hk : lc_ok t) : hy_Ct sc hm_S_goBy 5 [.inr (some 33), .inr (some 11), .inl n] t (fun r t' => r = some (t 33 3 - sp_days 33 t n 33 3) ∧ hy_F eX (sp_days 33 t n) t') := by
  refine hy_mk_ct ok_S_goBy ck_S_goBy (Nat.le_of_ble_eq_true rfl) ?_
  have loop : ∀ (m : Nat), ∀ (k : Nat) (s : Int) (p t1 : hy_T), m + k = n.toNat → st_ok 33 p → lc_ok p → hy_F eX p t1 → s + p 33 3 = t 33 3 → sp_daysN 33 m p = sp_days 33 t n → hy_W sc hm_S_goBy 5 10 [.inr (some 33), .inr (some 11), .inl n, .inl s, .inl (k : Int)] [] t1 (fun r t' => r = some (t 33 3 - sp_days 33 t n 33 3) ∧ hy_F eX (sp_days 33 t n) t') := by
    intro m
    induction m with
    | zero =>
      intro k s p t1 hm h1 hl hF hsum he
      rw [← he]
      refine hy_iload (i := 10) rfl rfl ?_
      refine hy_iload (i := 11) rfl rfl ?_
      refine hy_ic_ge (i := 12) (tt := 31) rfl (fun zc1 => ?_) (fun zc1 => ?_)
      · refine hy_iload (i := 31) rfl rfl ?_
        refine hy_ireturn (i := 32) rfl rfl ?_
        exact ⟨congrArg some (by show s = t 33 3 - p 33 3; omega), hF⟩
      · omega
    | succ m ih =>
      intro k s p t1 hm h1 hl hF hsum he
      have hs1 := st_ok_E (b := 33) (by decide) hF h1
      have hk1 := lc_ok_same (eX_law hF) hl
      have e4 : t1 33 4 = p 33 4 := hF 33 4 rfl
      have e3 : t1 33 3 = p 33 3 := hF 33 3 rfl
      have hd := h1.d
      have hc := h1.c
      have hct := hs.c
      by_cases h4 : p 33 4 < 9999
      · have e : sp_daysN 33 (m + 1) p = sp_daysN 33 m (hy_up (sp_dayN 33 (p 33 3).toNat p 0) 33 4 (p 33 4 + 1)) := by simp only [sp_daysN]; rw [if_pos h4]
        rw [e] at he
        obtain ⟨a1, a2, a3⟩ := sp_dayN_s 33 (p 33 3).toNat (i := 0) h1 (by omega) (by omega)
        have ha := a1.c
        have eE := sp_dayN_E (b := 33) (by decide) (p 33 3).toNat 0 hF
        obtain ⟨b1, b2⟩ := st_next_ok h1 h4
        have eE3 : sp_dayN 33 (p 33 3).toNat t1 0 33 3 = sp_dayN 33 (p 33 3).toNat p 0 33 3 := eE 33 3 rfl
        have lk2 : lc_ok (hy_up (sp_dayN 33 (p 33 3).toNat p 0) 33 4 (p 33 4 + 1)) := lc_ok_same (lc_same_of (hy_F.rf.up rfl : hy_F (fun r j => r == 33 && j == 4) _ _) (fun r j q => by revert q; simp [lawX]; omega)) (lc_ok_dy (b := 33) (by decide) a2 hl)
        refine hy_iload (i := 10) rfl rfl ?_
        refine hy_iload (i := 11) rfl rfl ?_
        refine hy_ic_ge (i := 12) (tt := 31) rfl (fun zc1 => ?_) (fun zc1 => ?_)
        · omega
        · refine hy_aload (i := 13) rfl rfl ?_
          refine hy_get (i := 14) (fk := 4) rfl rfl rfl ?_
          refine hy_const (i := 15) rfl (by decide) ?_
          refine hy_ic_ge (i := 16) (tt := 31) rfl (fun zc2 => ?_) (fun zc2 => ?_)
          · omega
          · refine hy_iload (i := 17) rfl rfl ?_
            refine hy_aload (i := 18) rfl rfl ?_
            refine hy_aload (i := 19) rfl rfl ?_
            refine hy_cV1 (i := 20) rfl mj_S_goByOnce (by decide) rfl (Nat.le_of_ble_eq_true rfl) rfl rfl rfl (c_S_goByOnce_33 hs1 hk1) (fun r1_ t1_ h1 => ?_)
            obtain ⟨rfl, hF1⟩ := h1
            dsimp only [hy_st, List.cons_append, List.nil_append]
            rw [e3] at hF1
            rw [e3, eE3]
            have hG := eE.tr' hF1
            have eD : t1_ 33 4 = p 33 4 := (hG 33 4 rfl).trans (a2 33 4 rfl)
            refine hy_iadd (i := 21) rfl (by omega) ?_
            refine hy_istore (i := 22) rfl ?_
            refine hy_aload (i := 23) rfl rfl ?_
            refine hy_dup (i := 24) rfl ?_
            refine hy_get (i := 25) (fk := 4) rfl rfl rfl ?_
            rw [eD]
            refine hy_const (i := 26) rfl (by decide) ?_
            refine hy_iadd (i := 27) rfl (by omega) ?_
            refine hy_put (i := 28) (fk := 4) rfl rfl rfl rfl ?_
            refine hy_iinc (i := 29) rfl rfl (by omega) ?_
            refine hy_goto (i := 30) (tt := 10) rfl ?_
            exact ih (k + 1) _ _ _ (by omega) b1 lk2 (hE_up hG _ _ _) (by rw [b2]; omega) he
      · have e : sp_daysN 33 (m + 1) p = p := by simp only [sp_daysN]; rw [if_neg h4]
        rw [e] at he
        rw [← he]
        refine hy_iload (i := 10) rfl rfl ?_
        refine hy_iload (i := 11) rfl rfl ?_
        refine hy_ic_ge (i := 12) (tt := 31) rfl (fun zc1 => ?_) (fun zc1 => ?_)
        · omega
        · refine hy_aload (i := 13) rfl rfl ?_
          refine hy_get (i := 14) (fk := 4) rfl rfl rfl ?_
          refine hy_const (i := 15) rfl (by decide) ?_
          refine hy_ic_ge (i := 16) (tt := 31) rfl (fun zc2 => ?_) (fun zc2 => ?_)
          · refine hy_iload (i := 31) rfl rfl ?_
            refine hy_ireturn (i := 32) rfl rfl ?_
            exact ⟨congrArg some (by show s = t 33 3 - p 33 3; omega), hF⟩
          · omega
  have h0 : st_ok 33 (hy_up (hy_up t 33 6 (-2)) 33 7 (-2)) := ⟨hs.c, hs.d, hs.w, hs.t⟩
  have hk0 : lc_ok (hy_up (hy_up t 33 6 (-2)) 33 7 (-2)) := lc_ok_dy (b := 33) (by decide) ((hy_F.rf.up rfl).up rfl) hk
  refine hy_aload (i := 0) rfl rfl ?_
  refine hy_const (i := 1) rfl (by decide) ?_
  refine hy_put (i := 2) (fk := 6) rfl rfl rfl rfl ?_
  refine hy_aload (i := 3) rfl rfl ?_
  refine hy_const (i := 4) rfl (by decide) ?_
  refine hy_put (i := 5) (fk := 7) rfl rfl rfl rfl ?_
  refine hy_const (i := 6) rfl (by decide) ?_
  refine hy_istore (i := 7) rfl ?_
  refine hy_const (i := 8) rfl (by decide) ?_
  refine hy_istore (i := 9) rfl ?_
  exact loop n.toNat 0 0 _ _ rfl h0 hk0 hy_F.rf (by show 0 + t 33 3 = t 33 3; omega) rfl
end SG33
section SG41
variable {sc : List Int32} {t : hy_T}
theorem c_S_chance_41 {i : Int} (hs : st_ok 41 t) (hk : lc_ok t) : hy_Ct sc hm_S_chance 3 [.inr (some 41), .inr (some 11), .inl i] t (fun r t' => r = some (sp_chance 41 t i) ∧ hy_F eX t t') := by
  refine hy_mk_ct ok_S_chance ck_S_chance (Nat.le_of_ble_eq_true rfl) ?_
  have hc := hs.c
  have hd := hs.d
  have h5 := sp_part_in hs i 5
  refine hy_aload (i := 0) rfl rfl ?_
  refine hy_iload (i := 1) rfl rfl ?_
  refine hy_const (i := 2) rfl (by decide) ?_
  refine hy_cV2e (i := 3) rfl mj_S_part (by decide) rfl (Nat.le_of_ble_eq_true rfl) rfl rfl rfl (c_S_part_41 (by assumption)) ?_
  refine hy_istore (i := 4) rfl ?_
  refine hy_aload (i := 5) rfl rfl ?_
  refine hy_iload (i := 6) rfl rfl ?_
  refine hy_const (i := 7) rfl (by decide) ?_
  refine hy_cV2e (i := 8) rfl mj_S_part (by decide) rfl (Nat.le_of_ble_eq_true rfl) rfl rfl rfl (c_S_part_41 (by assumption)) ?_
  refine hy_cS1e (i := 9) rfl (by decide) mj_S_lowest (by decide) rfl (Nat.le_of_ble_eq_true rfl) (c_S_lowest) ?_
  refine hy_istore (i := 10) rfl ?_
  refine hy_aload (i := 11) rfl rfl ?_
  refine hy_aload (i := 12) rfl rfl ?_
  refine hy_iload (i := 13) rfl rfl ?_
  refine hy_const (i := 14) rfl (by decide) ?_
  refine hy_cV2e (i := 15) rfl mj_S_part (by decide) rfl (Nat.le_of_ble_eq_true rfl) rfl rfl rfl (c_S_part_41 (by assumption)) ?_
  refine hy_iload (i := 16) rfl rfl ?_
  refine hy_iload (i := 17) rfl rfl ?_
  refine hy_aload (i := 18) rfl rfl ?_
  refine hy_get (i := 19) (fk := 4) rfl rfl rfl ?_
  refine hy_const (i := 20) rfl (by decide) ?_
  refine hy_aload (i := 21) rfl rfl ?_
  refine hy_iload (i := 22) rfl rfl ?_
  refine hy_iload (i := 23) rfl rfl ?_
  refine hy_cV2e (i := 24) rfl mj_S_havers (by decide) rfl (Nat.le_of_ble_eq_true rfl) rfl rfl rfl (c_S_havers_41) ?_
  refine hy_cS1e (i := 25) rfl (by decide) mj_J_bitCount (by decide) rfl (Nat.le_of_ble_eq_true rfl) (c_J_bitCount) ?_
  refine hy_cV6v (i := 26) rfl mj_L_tell (by decide) rfl (Nat.le_of_ble_eq_true rfl) rfl rfl rfl (c_L_tell) ?_
  refine hy_aload (i := 27) rfl rfl ?_
  refine hy_aload (i := 28) rfl rfl ?_
  refine hy_get (i := 29) (fk := 4) rfl rfl rfl ?_
  rw [show ∀ e c q dd m g, rc_tell t e c q dd m g 41 4 = t 41 4 from fun _ _ _ _ _ _ => rfl]
  refine hy_aload (i := 30) rfl rfl ?_
  refine hy_iload (i := 31) rfl rfl ?_
  refine hy_const (i := 32) rfl (by decide) ?_
  refine hy_cV2e (i := 33) rfl mj_S_part (by decide) rfl (Nat.le_of_ble_eq_true rfl) rfl rfl rfl (c_S_part_41 (by assumption)) ?_
  rw [sp_part_E (b := 41) (by decide) (rc_tell_F (hy_F.rf (t := t)) _ _ _ _ _ _)]
  refine hy_isub (i := 34) rfl (by omega) ?_
  refine hy_cV1v (i := 35) rfl mj_L_tellAge (by decide) rfl (Nat.le_of_ble_eq_true rfl) rfl rfl rfl (c_L_tellAge) ?_
  refine hy_aload (i := 36) rfl rfl ?_
  refine hy_const (i := 37) rfl (by decide) ?_
  refine hy_const (i := 38) rfl (by decide) ?_
  refine hy_cV2 (i := 39) rfl mj_L_amount (by decide) rfl (Nat.le_of_ble_eq_true rfl) rfl rfl rfl (c_L_amount (lc_ok_same (eX_law ((rc_tell_F hy_F.rf _ _ _ _ _ _).up rfl)) hk)) (fun r10_ t10_ h10 => ?_)
  obtain ⟨rfl, hF10⟩ := h10
  dsimp only [hy_st, List.cons_append, List.nil_append]
  rw [tell_amto hy_F.rf]
  have hG := rX_eX ((rc_tell_F (hy_F.rf (t := t)) _ _ _ _ _ _).up rfl) hF10
  refine hy_ireturn (i := 40) rfl rfl ?_
  exact ⟨rfl, hG⟩
theorem c_S_goByOnce_41 (hs : st_ok 41 t) (hk : lc_ok t) : hy_Ct sc hm_S_goByOnce 4 [.inr (some 41), .inr (some 11)] t (fun r t' => r = some (t 41 3 - sp_dayN 41 (t 41 3).toNat t 0 41 3) ∧ hy_F eX (sp_dayN 41 (t 41 3).toNat t 0) t') := by
  refine hy_mk_ct ok_S_goByOnce ck_S_goByOnce (Nat.le_of_ble_eq_true rfl) ?_
  have hc := hs.c
  have loop : ∀ (n : Nat), ∀ (k : Nat) (i : Int) (p t1 : hy_T), n + k = (t 41 3).toNat → st_ok 41 p → lc_ok p → hy_F eX p t1 → 0 ≤ i → i + n = p 41 3 → p 41 3 ≤ t 41 3 → sp_dayN 41 n p i = sp_dayN 41 (t 41 3).toNat t 0 → hy_W sc hm_S_goByOnce 4 7 [.inr (some 41), .inr (some 11), .inl (t 41 3), .inl i, .inl (k : Int)] [] t1 (fun r t' => r = some (t 41 3 - sp_dayN 41 (t 41 3).toNat t 0 41 3) ∧ hy_F eX (sp_dayN 41 (t 41 3).toNat t 0) t') := by
    intro n
    induction n with
    | zero =>
      intro k i p t1 hn h1 hl hF hi hp hpt he
      rw [← he]
      have e3 : t1 41 3 = p 41 3 := hF 41 3 rfl
      have hpc := h1.c
      refine hy_iload (i := 7) rfl rfl ?_
      refine hy_iload (i := 8) rfl rfl ?_
      refine hy_ic_ge (i := 9) (tt := 36) rfl (fun zc1 => ?_) (fun zc1 => ?_)
      · refine hy_iload (i := 36) rfl rfl ?_
        refine hy_aload (i := 37) rfl rfl ?_
        refine hy_get (i := 38) (fk := 3) rfl rfl rfl ?_
        rw [e3]
        refine hy_isub (i := 39) rfl (by omega) ?_
        refine hy_ireturn (i := 40) rfl rfl ?_
        exact ⟨rfl, hF⟩
      · omega
    | succ n ih =>
      intro k i p t1 hn h1 hl hF hi hp hpt he
      have mid : ∀ (p2 t2 : hy_T), st_ok 41 p2 → lc_ok p2 → hy_F eX p2 t2 → p2 41 3 = p 41 3 → (if p2 41 5 % 10 < sp_chance 41 p2 i then sp_dayN 41 n (sp_broken 41 p2 i) i else sp_dayN 41 n p2 (i + 1)) = sp_dayN 41 (t 41 3).toNat t 0 → hy_W sc hm_S_goByOnce 4 20 [.inr (some 41), .inr (some 11), .inl (t 41 3), .inl i, .inl (k : Int)] [] t2 (fun r t' => r = some (t 41 3 - sp_dayN 41 (t 41 3).toNat t 0 41 3) ∧ hy_F eX (sp_dayN 41 (t 41 3).toNat t 0) t') := by
        intro p2 t2 h2 hl2 hF2 e3 he2
        have hs2 := st_ok_E (b := 41) (by decide) hF2 h2
        have hk2 := lc_ok_same (eX_law hF2) hl2
        have h5 := hs2.w
        have e5 : t2 41 5 = p2 41 5 := hF2 41 5 rfl
        have e3' : t2 41 3 = p2 41 3 := hF2 41 3 rfl
        have ec : sp_chance 41 t2 i = sp_chance 41 p2 i := sp_chance_E (b := 41) (by decide) hF2 i
        by_cases hq : p2 41 5 % 10 < sp_chance 41 p2 i
        · rw [if_pos hq] at he2
          obtain ⟨b1, b2⟩ := sp_broken_ok h2 (i := i) (by omega)
          refine hy_aload (i := 20) rfl rfl ?_
          refine hy_get (i := 21) (fk := 5) rfl rfl rfl ?_
          refine hy_const (i := 22) rfl (by decide) ?_
          refine hy_irem (i := 23) rfl (by omega) (by omega) ?_
          refine hy_aload (i := 24) rfl rfl ?_
          refine hy_aload (i := 25) rfl rfl ?_
          refine hy_iload (i := 26) rfl rfl ?_
          refine hy_cV2 (i := 27) rfl mj_S_chance (by decide) rfl (Nat.le_of_ble_eq_true rfl) rfl rfl rfl (c_S_chance_41 hs2 hk2) (fun r1_ t1_ h1 => ?_)
          obtain ⟨rfl, hF1⟩ := h1
          dsimp only [hy_st, List.cons_append, List.nil_append]
          have hG := hF2.tr' hF1
          have eG : t1_ 41 3 = p2 41 3 := hG 41 3 rfl
          refine hy_ic_ge (i := 28) (tt := 33) rfl (fun zc1 => ?_) (fun zc1 => ?_)
          · omega
          · refine hy_aload (i := 29) rfl rfl ?_
            refine hy_iload (i := 30) rfl rfl ?_
            refine hy_cV1v (i := 31) rfl mj_S_breakTreaty (by decide) rfl (Nat.le_of_ble_eq_true rfl) rfl rfl rfl (c_S_breakTreaty_41 (by rw [eG]; exact h2.c) (by rw [eG]; omega)) ?_
            refine hy_goto (i := 32) (tt := 34) rfl ?_
            refine hy_iinc (i := 34) rfl rfl (by omega) ?_
            refine hy_goto (i := 35) (tt := 7) rfl ?_
            exact ih (k + 1) i _ _ (by omega) b1 (lc_ok_dy (b := 41) (by decide) (sp_broken_F 41 p2 i) hl2) (sp_broken_E (b := 41) (by decide) hG i) hi (by omega) (by omega) he2
        · rw [if_neg hq] at he2
          refine hy_aload (i := 20) rfl rfl ?_
          refine hy_get (i := 21) (fk := 5) rfl rfl rfl ?_
          refine hy_const (i := 22) rfl (by decide) ?_
          refine hy_irem (i := 23) rfl (by omega) (by omega) ?_
          refine hy_aload (i := 24) rfl rfl ?_
          refine hy_aload (i := 25) rfl rfl ?_
          refine hy_iload (i := 26) rfl rfl ?_
          refine hy_cV2 (i := 27) rfl mj_S_chance (by decide) rfl (Nat.le_of_ble_eq_true rfl) rfl rfl rfl (c_S_chance_41 hs2 hk2) (fun r1_ t1_ h1 => ?_)
          obtain ⟨rfl, hF1⟩ := h1
          dsimp only [hy_st, List.cons_append, List.nil_append]
          have hG := hF2.tr' hF1
          refine hy_ic_ge (i := 28) (tt := 33) rfl (fun zc1 => ?_) (fun zc1 => ?_)
          · refine hy_iinc (i := 33) rfl rfl (by omega) ?_
            refine hy_iinc (i := 34) rfl rfl (by omega) ?_
            refine hy_goto (i := 35) (tt := 7) rfl ?_
            exact ih (k + 1) (i + 1) _ _ (by omega) h2 hl2 hG (by omega) (by omega) (by omega) he2
          · omega
      have h5 := (st_ok_E (b := 41) (by decide) hF h1).w
      have e5 : t1 41 5 = p 41 5 := hF 41 5 rfl
      have hpc := h1.c
      refine hy_iload (i := 7) rfl rfl ?_
      refine hy_iload (i := 8) rfl rfl ?_
      refine hy_ic_ge (i := 9) (tt := 36) rfl (fun zc1 => ?_) (fun zc1 => ?_)
      · omega
      · refine hy_aload (i := 10) rfl rfl ?_
        refine hy_const (i := 11) rfl (by decide) ?_
        refine hy_aload (i := 12) rfl rfl ?_
        refine hy_get (i := 13) (fk := 5) rfl rfl rfl ?_
        refine hy_imul (i := 14) rfl (by omega) ?_
        refine hy_const (i := 15) rfl (by decide) ?_
        refine hy_iadd (i := 16) rfl (by omega) ?_
        refine hy_const (i := 17) rfl (by decide) ?_
        refine hy_iand (i := 18) rfl ?_
        refine hy_put (i := 19) (fk := 5) rfl rfl rfl rfl ?_
        rw [e5]
        exact mid (hy_up p 41 5 (sp_draw (p 41 5))) _ (sp_drawn_ok h1) (lc_ok_dy (b := 41) (by decide) (hy_F.rf.up rfl) hl) (hE_up hF _ _ _) rfl he
  refine hy_aload (i := 0) rfl rfl ?_
  refine hy_get (i := 1) (fk := 3) rfl rfl rfl ?_
  refine hy_istore (i := 2) rfl ?_
  refine hy_const (i := 3) rfl (by decide) ?_
  refine hy_istore (i := 4) rfl ?_
  refine hy_const (i := 5) rfl (by decide) ?_
  refine hy_istore (i := 6) rfl ?_
  exact loop (t 41 3).toNat 0 0 t t rfl hs hk hy_F.rf (by decide) (by omega) (Int.le_refl _) rfl
theorem c_S_goBy_41 {n : Int} (hn : n ≤ 2147483647) (hs : st_ok 41 t) (hk : lc_ok t) : hy_Ct sc hm_S_goBy 5 [.inr (some 41), .inr (some 11), .inl n] t (fun r t' => r = some (t 41 3 - sp_days 41 t n 41 3) ∧ hy_F eX (sp_days 41 t n) t') := by
  refine hy_mk_ct ok_S_goBy ck_S_goBy (Nat.le_of_ble_eq_true rfl) ?_
  have loop : ∀ (m : Nat), ∀ (k : Nat) (s : Int) (p t1 : hy_T), m + k = n.toNat → st_ok 41 p → lc_ok p → hy_F eX p t1 → s + p 41 3 = t 41 3 → sp_daysN 41 m p = sp_days 41 t n → hy_W sc hm_S_goBy 5 10 [.inr (some 41), .inr (some 11), .inl n, .inl s, .inl (k : Int)] [] t1 (fun r t' => r = some (t 41 3 - sp_days 41 t n 41 3) ∧ hy_F eX (sp_days 41 t n) t') := by
    intro m
    induction m with
    | zero =>
      intro k s p t1 hm h1 hl hF hsum he
      rw [← he]
      refine hy_iload (i := 10) rfl rfl ?_
      refine hy_iload (i := 11) rfl rfl ?_
      refine hy_ic_ge (i := 12) (tt := 31) rfl (fun zc1 => ?_) (fun zc1 => ?_)
      · refine hy_iload (i := 31) rfl rfl ?_
        refine hy_ireturn (i := 32) rfl rfl ?_
        exact ⟨congrArg some (by show s = t 41 3 - p 41 3; omega), hF⟩
      · omega
    | succ m ih =>
      intro k s p t1 hm h1 hl hF hsum he
      have hs1 := st_ok_E (b := 41) (by decide) hF h1
      have hk1 := lc_ok_same (eX_law hF) hl
      have e4 : t1 41 4 = p 41 4 := hF 41 4 rfl
      have e3 : t1 41 3 = p 41 3 := hF 41 3 rfl
      have hd := h1.d
      have hc := h1.c
      have hct := hs.c
      by_cases h4 : p 41 4 < 9999
      · have e : sp_daysN 41 (m + 1) p = sp_daysN 41 m (hy_up (sp_dayN 41 (p 41 3).toNat p 0) 41 4 (p 41 4 + 1)) := by simp only [sp_daysN]; rw [if_pos h4]
        rw [e] at he
        obtain ⟨a1, a2, a3⟩ := sp_dayN_s 41 (p 41 3).toNat (i := 0) h1 (by omega) (by omega)
        have ha := a1.c
        have eE := sp_dayN_E (b := 41) (by decide) (p 41 3).toNat 0 hF
        obtain ⟨b1, b2⟩ := st_next_ok h1 h4
        have eE3 : sp_dayN 41 (p 41 3).toNat t1 0 41 3 = sp_dayN 41 (p 41 3).toNat p 0 41 3 := eE 41 3 rfl
        have lk2 : lc_ok (hy_up (sp_dayN 41 (p 41 3).toNat p 0) 41 4 (p 41 4 + 1)) := lc_ok_same (lc_same_of (hy_F.rf.up rfl : hy_F (fun r j => r == 41 && j == 4) _ _) (fun r j q => by revert q; simp [lawX]; omega)) (lc_ok_dy (b := 41) (by decide) a2 hl)
        refine hy_iload (i := 10) rfl rfl ?_
        refine hy_iload (i := 11) rfl rfl ?_
        refine hy_ic_ge (i := 12) (tt := 31) rfl (fun zc1 => ?_) (fun zc1 => ?_)
        · omega
        · refine hy_aload (i := 13) rfl rfl ?_
          refine hy_get (i := 14) (fk := 4) rfl rfl rfl ?_
          refine hy_const (i := 15) rfl (by decide) ?_
          refine hy_ic_ge (i := 16) (tt := 31) rfl (fun zc2 => ?_) (fun zc2 => ?_)
          · omega
          · refine hy_iload (i := 17) rfl rfl ?_
            refine hy_aload (i := 18) rfl rfl ?_
            refine hy_aload (i := 19) rfl rfl ?_
            refine hy_cV1 (i := 20) rfl mj_S_goByOnce (by decide) rfl (Nat.le_of_ble_eq_true rfl) rfl rfl rfl (c_S_goByOnce_41 hs1 hk1) (fun r1_ t1_ h1 => ?_)
            obtain ⟨rfl, hF1⟩ := h1
            dsimp only [hy_st, List.cons_append, List.nil_append]
            rw [e3] at hF1
            rw [e3, eE3]
            have hG := eE.tr' hF1
            have eD : t1_ 41 4 = p 41 4 := (hG 41 4 rfl).trans (a2 41 4 rfl)
            refine hy_iadd (i := 21) rfl (by omega) ?_
            refine hy_istore (i := 22) rfl ?_
            refine hy_aload (i := 23) rfl rfl ?_
            refine hy_dup (i := 24) rfl ?_
            refine hy_get (i := 25) (fk := 4) rfl rfl rfl ?_
            rw [eD]
            refine hy_const (i := 26) rfl (by decide) ?_
            refine hy_iadd (i := 27) rfl (by omega) ?_
            refine hy_put (i := 28) (fk := 4) rfl rfl rfl rfl ?_
            refine hy_iinc (i := 29) rfl rfl (by omega) ?_
            refine hy_goto (i := 30) (tt := 10) rfl ?_
            exact ih (k + 1) _ _ _ (by omega) b1 lk2 (hE_up hG _ _ _) (by rw [b2]; omega) he
      · have e : sp_daysN 41 (m + 1) p = p := by simp only [sp_daysN]; rw [if_neg h4]
        rw [e] at he
        rw [← he]
        refine hy_iload (i := 10) rfl rfl ?_
        refine hy_iload (i := 11) rfl rfl ?_
        refine hy_ic_ge (i := 12) (tt := 31) rfl (fun zc1 => ?_) (fun zc1 => ?_)
        · omega
        · refine hy_aload (i := 13) rfl rfl ?_
          refine hy_get (i := 14) (fk := 4) rfl rfl rfl ?_
          refine hy_const (i := 15) rfl (by decide) ?_
          refine hy_ic_ge (i := 16) (tt := 31) rfl (fun zc2 => ?_) (fun zc2 => ?_)
          · refine hy_iload (i := 31) rfl rfl ?_
            refine hy_ireturn (i := 32) rfl rfl ?_
            exact ⟨congrArg some (by show s = t 41 3 - p 41 3; omega), hF⟩
          · omega
  have h0 : st_ok 41 (hy_up (hy_up t 41 6 (-2)) 41 7 (-2)) := ⟨hs.c, hs.d, hs.w, hs.t⟩
  have hk0 : lc_ok (hy_up (hy_up t 41 6 (-2)) 41 7 (-2)) := lc_ok_dy (b := 41) (by decide) ((hy_F.rf.up rfl).up rfl) hk
  refine hy_aload (i := 0) rfl rfl ?_
  refine hy_const (i := 1) rfl (by decide) ?_
  refine hy_put (i := 2) (fk := 6) rfl rfl rfl rfl ?_
  refine hy_aload (i := 3) rfl rfl ?_
  refine hy_const (i := 4) rfl (by decide) ?_
  refine hy_put (i := 5) (fk := 7) rfl rfl rfl rfl ?_
  refine hy_const (i := 6) rfl (by decide) ?_
  refine hy_istore (i := 7) rfl ?_
  refine hy_const (i := 8) rfl (by decide) ?_
  refine hy_istore (i := 9) rfl ?_
  exact loop n.toNat 0 0 _ _ rfl h0 hk0 hy_F.rf (by show 0 + t 41 3 = t 41 3; omega) rfl
end SG41
/-! the class's own methods: what is told, seen, kept -/
section WA
variable {sc : List Int32} {t : hy_T}
abbrev wf_plain (t : hy_T) (c : Int) : Bool := sp_told (t 5 2) c && !sp_told (t 5 3) c
theorem c_W_colour {c f s : Int} : hy_Ct sc hm_W_colour 3 [.inr (some 2), .inl c, .inl f, .inl s] t (hy_e (some (hy_b (sp_tellable (t 5 2) c f s))) (if sp_tellable (t 5 2) c f s = true then sp_tellC t c f s else t)) := by
  refine hy_mk_ct ok_W_colour ck_W_colour (Nat.le_of_ble_eq_true rfl) ?_
  refine hy_aload (i := 0) rfl rfl ?_
  refine hy_getr (i := 1) rfl rfl ?_
  refine hy_iload (i := 2) rfl rfl ?_
  refine hy_iload (i := 3) rfl rfl ?_
  refine hy_iload (i := 4) rfl rfl ?_
  refine hy_cV3e (i := 5) rfl mj_P_tell (by decide) rfl (Nat.le_of_ble_eq_true rfl) rfl rfl rfl (c_P_tell) ?_
  refine hy_zreturn (i := 6) rfl rfl (by first | decide | exact hy_b01 _) ?_
  exact ⟨rfl, rfl⟩
def wf_have (t : hy_T) (c q e : Int) : Bool := wf_plain t c && decide ((0 ≤ q ∧ q < 4) ∧ 0 ≤ e ∧ e < 64)
theorem c_W_have {c q e : Int} : hy_Ct sc hm_W_have 3 [.inr (some 2), .inl c, .inl q, .inl e] t (hy_e (some (hy_b (wf_have t c q e))) (if wf_have t c q e = true then sp_setH 33 t c q e else t)) := by
  refine hy_mk_ct ok_W_have ck_W_have (Nat.le_of_ble_eq_true rfl) ?_
  by_cases hq : wf_have t c q e = true
  · have h2 := hq
    simp only [wf_have, Bool.and_eq_true, decide_eq_true_eq] at h2
    rw [hq, if_pos rfl]
    refine hy_aload (i := 0) rfl rfl ?_
    refine hy_getr (i := 1) rfl rfl ?_
    refine hy_iload (i := 2) rfl rfl ?_
    refine hy_cV1e (i := 3) rfl mj_P_isPlain (by decide) rfl (Nat.le_of_ble_eq_true rfl) rfl rfl rfl (c_P_isPlain) ?_
    refine hy_ib_eq (i := 4) (tt := 13) rfl (fun zc1 => ?_) (fun zc1 => ?_)
    · simp_all
    · refine hy_iload (i := 5) rfl rfl ?_
      refine hy_cS1e (i := 6) rfl (by decide) mj_W_isQuarter (by decide) rfl (Nat.le_of_ble_eq_true rfl) (c_W_isQuarter) ?_
      refine hy_ib_eq (i := 7) (tt := 13) rfl (fun zc2 => ?_) (fun zc2 => ?_)
      · simp at zc2; omega
      · refine hy_iload (i := 8) rfl rfl ?_
        refine hy_if_lt (i := 9) (tt := 13) rfl (fun zc3 => ?_) (fun zc3 => ?_)
        · omega
        · refine hy_iload (i := 10) rfl rfl ?_
          refine hy_const (i := 11) rfl (by decide) ?_
          refine hy_ic_lt (i := 12) (tt := 15) rfl (fun zc4 => ?_) (fun zc4 => ?_)
          · refine hy_aload (i := 15) rfl rfl ?_
            refine hy_getr (i := 16) rfl rfl ?_
            refine hy_iload (i := 17) rfl rfl ?_
            refine hy_iload (i := 18) rfl rfl ?_
            refine hy_iload (i := 19) rfl rfl ?_
            refine hy_cV3v (i := 20) rfl mj_S_setHavers (by decide) rfl (Nat.le_of_ble_eq_true rfl) rfl rfl rfl (c_S_setHavers_33) ?_
            refine hy_const (i := 21) rfl (by decide) ?_
            refine hy_zreturn (i := 22) rfl rfl (by first | decide | exact hy_b01 _) ?_
            exact ⟨rfl, rfl⟩
          · omega
  · rw [Bool.not_eq_true] at hq
    have h2 := hq
    rw [hq, if_neg (by decide)]
    refine hy_aload (i := 0) rfl rfl ?_
    refine hy_getr (i := 1) rfl rfl ?_
    refine hy_iload (i := 2) rfl rfl ?_
    refine hy_cV1e (i := 3) rfl mj_P_isPlain (by decide) rfl (Nat.le_of_ble_eq_true rfl) rfl rfl rfl (c_P_isPlain) ?_
    refine hy_ib_eq (i := 4) (tt := 13) rfl (fun zc1 => ?_) (fun zc1 => ?_)
    · refine hy_const (i := 13) rfl (by decide) ?_
      refine hy_zreturn (i := 14) rfl rfl (by first | decide | exact hy_b01 _) ?_
      exact ⟨rfl, rfl⟩
    · refine hy_iload (i := 5) rfl rfl ?_
      refine hy_cS1e (i := 6) rfl (by decide) mj_W_isQuarter (by decide) rfl (Nat.le_of_ble_eq_true rfl) (c_W_isQuarter) ?_
      refine hy_ib_eq (i := 7) (tt := 13) rfl (fun zc2 => ?_) (fun zc2 => ?_)
      · refine hy_const (i := 13) rfl (by decide) ?_
        refine hy_zreturn (i := 14) rfl rfl (by first | decide | exact hy_b01 _) ?_
        exact ⟨rfl, rfl⟩
      · refine hy_iload (i := 8) rfl rfl ?_
        refine hy_if_lt (i := 9) (tt := 13) rfl (fun zc3 => ?_) (fun zc3 => ?_)
        · refine hy_const (i := 13) rfl (by decide) ?_
          refine hy_zreturn (i := 14) rfl rfl (by first | decide | exact hy_b01 _) ?_
          exact ⟨rfl, rfl⟩
        · refine hy_iload (i := 10) rfl rfl ?_
          refine hy_const (i := 11) rfl (by decide) ?_
          refine hy_ic_lt (i := 12) (tt := 15) rfl (fun zc4 => ?_) (fun zc4 => ?_)
          · exfalso; simp only [wf_have, wf_plain] at h2; rw [zc1, Bool.true_and] at h2; simp at h2 zc2; omega
          · refine hy_const (i := 13) rfl (by decide) ?_
            refine hy_zreturn (i := 14) rfl rfl (by first | decide | exact hy_b01 _) ?_
            exact ⟨rfl, rfl⟩
def wf_owner (x y e : Int) : Bool := decide (((0 ≤ x ∧ x < 8) ∧ 0 ≤ y ∧ y < 8) ∧ 0 ≤ e ∧ e ≤ 6)
theorem c_W_owner {x y e : Int} : hy_Ct sc hm_W_owner 2 [.inr (some 2), .inl x, .inl y, .inl e] t (hy_e (some (hy_b (wf_owner x y e))) (if wf_owner x y e = true then hy_up t 35 (8 * y + x).toNat e else t)) := by
  refine hy_mk_ct ok_W_owner ck_W_owner (Nat.le_of_ble_eq_true rfl) ?_
  by_cases hq : wf_owner x y e = true
  · have h2 := hq
    simp only [wf_owner, decide_eq_true_eq] at h2
    rw [hq, if_pos rfl]
    refine hy_iload (i := 0) rfl rfl ?_
    refine hy_iload (i := 1) rfl rfl ?_
    refine hy_cS2e (i := 2) rfl (by decide) mj_W_isPlace (by decide) rfl (Nat.le_of_ble_eq_true rfl) (c_W_isPlace) ?_
    refine hy_ib_eq (i := 3) (tt := 9) rfl (fun zc1 => ?_) (fun zc1 => ?_)
    · simp at zc1; omega
    · refine hy_iload (i := 4) rfl rfl ?_
      refine hy_if_lt (i := 5) (tt := 9) rfl (fun zc2 => ?_) (fun zc2 => ?_)
      · omega
      · refine hy_iload (i := 6) rfl rfl ?_
        refine hy_const (i := 7) rfl (by decide) ?_
        refine hy_ic_le (i := 8) (tt := 11) rfl (fun zc3 => ?_) (fun zc3 => ?_)
        · refine hy_aload (i := 11) rfl rfl ?_
          refine hy_getr (i := 12) rfl rfl ?_
          refine hy_const (i := 13) rfl (by decide) ?_
          refine hy_iload (i := 14) rfl rfl ?_
          refine hy_imul (i := 15) rfl (by omega) ?_
          refine hy_iload (i := 16) rfl rfl ?_
          refine hy_iadd (i := 17) rfl (by omega) ?_
          refine hy_iload (i := 18) rfl rfl ?_
          refine hy_cV2v (i := 19) rfl mj_S_setOwner (by decide) rfl (Nat.le_of_ble_eq_true rfl) rfl rfl rfl (c_S_setOwner_33) ?_
          refine hy_const (i := 20) rfl (by decide) ?_
          refine hy_zreturn (i := 21) rfl rfl (by first | decide | exact hy_b01 _) ?_
          exact ⟨rfl, by rw [if_pos (by omega)]⟩
        · omega
  · rw [Bool.not_eq_true] at hq
    have h2 := hq
    simp only [wf_owner, decide_eq_false_iff_not] at h2
    rw [hq, if_neg (by decide)]
    refine hy_iload (i := 0) rfl rfl ?_
    refine hy_iload (i := 1) rfl rfl ?_
    refine hy_cS2e (i := 2) rfl (by decide) mj_W_isPlace (by decide) rfl (Nat.le_of_ble_eq_true rfl) (c_W_isPlace) ?_
    refine hy_ib_eq (i := 3) (tt := 9) rfl (fun zc1 => ?_) (fun zc1 => ?_)
    · refine hy_const (i := 9) rfl (by decide) ?_
      refine hy_zreturn (i := 10) rfl rfl (by first | decide | exact hy_b01 _) ?_
      exact ⟨rfl, rfl⟩
    · refine hy_iload (i := 4) rfl rfl ?_
      refine hy_if_lt (i := 5) (tt := 9) rfl (fun zc2 => ?_) (fun zc2 => ?_)
      · refine hy_const (i := 9) rfl (by decide) ?_
        refine hy_zreturn (i := 10) rfl rfl (by first | decide | exact hy_b01 _) ?_
        exact ⟨rfl, rfl⟩
      · refine hy_iload (i := 6) rfl rfl ?_
        refine hy_const (i := 7) rfl (by decide) ?_
        refine hy_ic_le (i := 8) (tt := 11) rfl (fun zc3 => ?_) (fun zc3 => ?_)
        · simp at zc1; omega
        · refine hy_const (i := 9) rfl (by decide) ?_
          refine hy_zreturn (i := 10) rfl rfl (by first | decide | exact hy_b01 _) ?_
          exact ⟨rfl, rfl⟩
def wf_feed (t : hy_T) (a b c d e : Int) : hy_T := tp_add (tp_add (tp_add (tp_add (tp_add t a) b) c) d) e
theorem tp_add1_l {t : hy_T} {v : Int} (h : t 3 1 < 260) : tp_add1 t v 3 1 = t 3 1 + 1 := by
  unfold tp_add1
  rw [if_pos h]
  rfl
theorem tp_add_l {t : hy_T} {w : Int} (h : t 3 1 ≤ 256) : tp_add t w 3 1 = t 3 1 + 4 := by
  unfold tp_add
  have h1 := tp_add1_l (t := t) (v := tp_byte w 24) (by omega)
  have h2 := tp_add1_l (t := tp_add1 t (tp_byte w 24)) (v := tp_byte w 16) (by omega)
  have h3 := tp_add1_l (t := tp_add1 (tp_add1 t (tp_byte w 24)) (tp_byte w 16)) (v := tp_byte w 8) (by omega)
  have h4 := tp_add1_l (t := tp_add1 (tp_add1 (tp_add1 t (tp_byte w 24)) (tp_byte w 16)) (tp_byte w 8)) (v := tp_byte w 0) (by omega)
  omega
theorem c_W_feed {a b c d e : Int} (hl : 0 ≤ t 3 1 ∧ t 3 1 ≤ 260) : hy_Ct sc hm_W_feed 1 [.inr (some 2), .inl a, .inl b, .inl c, .inl d, .inl e] t (hy_e (some (if t 3 1 ≤ 240 then t 3 1 + 20 else -1)) (if t 3 1 ≤ 240 then wf_feed t a b c d e else t)) := by
  refine hy_mk_ct ok_W_feed ck_W_feed (Nat.le_of_ble_eq_true rfl) ?_
  by_cases hq : t 3 1 ≤ 240
  · rw [if_pos hq, if_pos hq]
    have h1 := tp_add_l (t := t) (w := a) (by omega)
    have h2 := tp_add_l (t := tp_add t a) (w := b) (by omega)
    have h3 := tp_add_l (t := tp_add (tp_add t a) b) (w := c) (by omega)
    have h4 := tp_add_l (t := tp_add (tp_add (tp_add t a) b) c) (w := d) (by omega)
    have h5 := tp_add_l (t := tp_add (tp_add (tp_add (tp_add t a) b) c) d) (w := e) (by omega)
    refine hy_aload (i := 0) rfl rfl ?_
    refine hy_getr (i := 1) rfl rfl ?_
    refine hy_cV0e (i := 2) rfl mj_T_length (by decide) rfl (Nat.le_of_ble_eq_true rfl) rfl rfl rfl (c_T_length) ?_
    refine hy_const (i := 3) rfl (by decide) ?_
    refine hy_iadd (i := 4) rfl (by omega) ?_
    refine hy_const (i := 5) rfl (by decide) ?_
    refine hy_ic_le (i := 6) (tt := 9) rfl (fun zc1 => ?_) (fun zc1 => ?_)
    · refine hy_aload (i := 9) rfl rfl ?_
      refine hy_getr (i := 10) rfl rfl ?_
      refine hy_iload (i := 11) rfl rfl ?_
      refine hy_cV1v (i := 12) rfl mj_T_add (by decide) rfl (Nat.le_of_ble_eq_true rfl) rfl rfl rfl (c_T_add (by omega)) ?_
      refine hy_aload (i := 13) rfl rfl ?_
      refine hy_getr (i := 14) rfl rfl ?_
      refine hy_iload (i := 15) rfl rfl ?_
      refine hy_cV1v (i := 16) rfl mj_T_add (by decide) rfl (Nat.le_of_ble_eq_true rfl) rfl rfl rfl (c_T_add (by omega)) ?_
      refine hy_aload (i := 17) rfl rfl ?_
      refine hy_getr (i := 18) rfl rfl ?_
      refine hy_iload (i := 19) rfl rfl ?_
      refine hy_cV1v (i := 20) rfl mj_T_add (by decide) rfl (Nat.le_of_ble_eq_true rfl) rfl rfl rfl (c_T_add (by omega)) ?_
      refine hy_aload (i := 21) rfl rfl ?_
      refine hy_getr (i := 22) rfl rfl ?_
      refine hy_iload (i := 23) rfl rfl ?_
      refine hy_cV1v (i := 24) rfl mj_T_add (by decide) rfl (Nat.le_of_ble_eq_true rfl) rfl rfl rfl (c_T_add (by omega)) ?_
      refine hy_aload (i := 25) rfl rfl ?_
      refine hy_getr (i := 26) rfl rfl ?_
      refine hy_iload (i := 27) rfl rfl ?_
      refine hy_cV1v (i := 28) rfl mj_T_add (by decide) rfl (Nat.le_of_ble_eq_true rfl) rfl rfl rfl (c_T_add (by omega)) ?_
      refine hy_aload (i := 29) rfl rfl ?_
      refine hy_getr (i := 30) rfl rfl ?_
      refine hy_cV0e (i := 31) rfl mj_T_length (by decide) rfl (Nat.le_of_ble_eq_true rfl) rfl rfl rfl (c_T_length) ?_
      refine hy_ireturn (i := 32) rfl rfl ?_
      exact ⟨congrArg some (by omega), rfl⟩
    · omega
  · rw [if_neg hq, if_neg hq]
    refine hy_aload (i := 0) rfl rfl ?_
    refine hy_getr (i := 1) rfl rfl ?_
    refine hy_cV0e (i := 2) rfl mj_T_length (by decide) rfl (Nat.le_of_ble_eq_true rfl) rfl rfl rfl (c_T_length) ?_
    refine hy_const (i := 3) rfl (by decide) ?_
    refine hy_iadd (i := 4) rfl (by omega) ?_
    refine hy_const (i := 5) rfl (by decide) ?_
    refine hy_ic_le (i := 6) (tt := 9) rfl (fun zc1 => ?_) (fun zc1 => ?_)
    · omega
    · refine hy_const (i := 7) rfl (by decide) ?_
      refine hy_ireturn (i := 8) rfl rfl ?_
      exact ⟨rfl, rfl⟩
theorem c_W_isOnTape {n m : Int} : hy_Ct sc hm_W_isOnTape 1 [.inr (some 2), .inl n, .inl m] t (hy_e (some (hy_b (decide (1 ≤ n ∧ n ≤ m ∧ n ≤ t 3 1)))) t) := by
  refine hy_mk_ct ok_W_isOnTape ck_W_isOnTape (Nat.le_of_ble_eq_true rfl) ?_
  refine hy_iload (i := 0) rfl rfl ?_
  refine hy_const (i := 1) rfl (by decide) ?_
  refine hy_ic_lt (i := 2) (tt := 13) rfl (fun zc1 => ?_) (fun zc1 => ?_)
  · refine hy_const (i := 13) rfl (by decide) ?_
    refine hy_zreturn (i := 14) rfl rfl (by first | decide | exact hy_b01 _) ?_
    exact ⟨congrArg some (by first | (rw [decide_eq_true (by omega)]; rfl) | (rw [decide_eq_false (by omega)]; rfl)), rfl⟩
  · refine hy_iload (i := 3) rfl rfl ?_
    refine hy_iload (i := 4) rfl rfl ?_
    refine hy_ic_gt (i := 5) (tt := 13) rfl (fun zc2 => ?_) (fun zc2 => ?_)
    · refine hy_const (i := 13) rfl (by decide) ?_
      refine hy_zreturn (i := 14) rfl rfl (by first | decide | exact hy_b01 _) ?_
      exact ⟨congrArg some (by first | (rw [decide_eq_true (by omega)]; rfl) | (rw [decide_eq_false (by omega)]; rfl)), rfl⟩
    · refine hy_iload (i := 6) rfl rfl ?_
      refine hy_aload (i := 7) rfl rfl ?_
      refine hy_getr (i := 8) rfl rfl ?_
      refine hy_cV0e (i := 9) rfl mj_T_length (by decide) rfl (Nat.le_of_ble_eq_true rfl) rfl rfl rfl (c_T_length) ?_
      refine hy_ic_gt (i := 10) (tt := 13) rfl (fun zc3 => ?_) (fun zc3 => ?_)
      · refine hy_const (i := 13) rfl (by decide) ?_
        refine hy_zreturn (i := 14) rfl rfl (by first | decide | exact hy_b01 _) ?_
        exact ⟨congrArg some (by first | (rw [decide_eq_true (by omega)]; rfl) | (rw [decide_eq_false (by omega)]; rfl)), rfl⟩
      · refine hy_const (i := 11) rfl (by decide) ?_
        refine hy_goto (i := 12) (tt := 14) rfl ?_
        refine hy_zreturn (i := 14) rfl rfl (by first | decide | exact hy_b01 _) ?_
        exact ⟨congrArg some (by first | (rw [decide_eq_true (by omega)]; rfl) | (rw [decide_eq_false (by omega)]; rfl)), rfl⟩
def wf_law (t : hy_T) (n : Int) : Int × hy_T :=
  if 1 ≤ n ∧ n ≤ 240 ∧ n ≤ t 3 1 then (if rk_read t n 3 4 = 0 then (lp_lawcp (hy_up (rk_read t n) 3 1 0) 11 7, lp_lawcp (hy_up (rk_read t n) 3 1 0)) else (rk_read t n 3 4, hy_up (rk_read t n) 3 1 0)) else (-1, t)
theorem c_W_law {n : Int} (h : tp_ok t) : hy_Ct sc hm_W_law 63 [.inr (some 2), .inl n] t (hy_e (some (wf_law t n).1) (wf_law t n).2) := by
  refine hy_mk_ct ok_W_law ck_W_law (Nat.le_of_ble_eq_true rfl) ?_
  by_cases hq : 1 ≤ n ∧ n ≤ 240 ∧ n ≤ t 3 1
  · by_cases hf : rk_read t n 3 4 = 0
    · have e : wf_law t n = (lp_lawcp (hy_up (rk_read t n) 3 1 0) 11 7, lp_lawcp (hy_up (rk_read t n) 3 1 0)) := by unfold wf_law; rw [if_pos hq, if_pos hf]
      rw [e]
      refine hy_aload (i := 0) rfl rfl ?_
      refine hy_iload (i := 1) rfl rfl ?_
      refine hy_const (i := 2) rfl (by decide) ?_
      refine hy_cV2e (i := 3) rfl mj_W_isOnTape (by decide) rfl (Nat.le_of_ble_eq_true rfl) rfl rfl rfl (c_W_isOnTape) ?_
      refine hy_ib_ne (i := 4) (tt := 7) rfl (fun zc1 => ?_) (fun zc1 => ?_)
      · refine hy_aload (i := 7) rfl rfl ?_
        refine hy_getr (i := 8) rfl rfl ?_
        refine hy_iload (i := 9) rfl rfl ?_
        refine hy_cV1e (i := 10) rfl mj_L_read (by decide) rfl (Nat.le_of_ble_eq_true rfl) rfl rfl rfl (c_L_read (by assumption)) ?_
        refine hy_istore (i := 11) rfl ?_
        refine hy_aload (i := 12) rfl rfl ?_
        refine hy_getr (i := 13) rfl rfl ?_
        refine hy_cV0v (i := 14) rfl mj_T_clear (by decide) rfl (Nat.le_of_ble_eq_true rfl) rfl rfl rfl (c_T_clear) ?_
        refine hy_iload (i := 15) rfl rfl ?_
        refine hy_if_eq (i := 16) (tt := 19) rfl (fun zc2 => ?_) (fun zc2 => ?_)
        · refine hy_aload (i := 19) rfl rfl ?_
          refine hy_getr (i := 20) rfl rfl ?_
          refine hy_aload (i := 21) rfl rfl ?_
          refine hy_getr (i := 22) rfl rfl ?_
          refine hy_cV1v (i := 23) rfl mj_L_copyFrom (by decide) rfl (Nat.le_of_ble_eq_true rfl) rfl rfl rfl (c_L_copyFrom) ?_
          refine hy_aload (i := 24) rfl rfl ?_
          refine hy_getr (i := 25) rfl rfl ?_
          refine hy_cV0e (i := 26) rfl mj_L_clauses (by decide) rfl (Nat.le_of_ble_eq_true rfl) rfl rfl rfl (c_L_clauses) ?_
          refine hy_ireturn (i := 27) rfl rfl ?_
          exact ⟨rfl, rfl⟩
        · omega
      · simp at zc1; omega
    · have e : wf_law t n = (rk_read t n 3 4, hy_up (rk_read t n) 3 1 0) := by unfold wf_law; rw [if_pos hq, if_neg hf]
      rw [e]
      refine hy_aload (i := 0) rfl rfl ?_
      refine hy_iload (i := 1) rfl rfl ?_
      refine hy_const (i := 2) rfl (by decide) ?_
      refine hy_cV2e (i := 3) rfl mj_W_isOnTape (by decide) rfl (Nat.le_of_ble_eq_true rfl) rfl rfl rfl (c_W_isOnTape) ?_
      refine hy_ib_ne (i := 4) (tt := 7) rfl (fun zc1 => ?_) (fun zc1 => ?_)
      · refine hy_aload (i := 7) rfl rfl ?_
        refine hy_getr (i := 8) rfl rfl ?_
        refine hy_iload (i := 9) rfl rfl ?_
        refine hy_cV1e (i := 10) rfl mj_L_read (by decide) rfl (Nat.le_of_ble_eq_true rfl) rfl rfl rfl (c_L_read (by assumption)) ?_
        refine hy_istore (i := 11) rfl ?_
        refine hy_aload (i := 12) rfl rfl ?_
        refine hy_getr (i := 13) rfl rfl ?_
        refine hy_cV0v (i := 14) rfl mj_T_clear (by decide) rfl (Nat.le_of_ble_eq_true rfl) rfl rfl rfl (c_T_clear) ?_
        refine hy_iload (i := 15) rfl rfl ?_
        refine hy_if_eq (i := 16) (tt := 19) rfl (fun zc2 => ?_) (fun zc2 => ?_)
        · omega
        · refine hy_iload (i := 17) rfl rfl ?_
          refine hy_ireturn (i := 18) rfl rfl ?_
          exact ⟨rfl, rfl⟩
      · simp at zc1; omega
  · have e : wf_law t n = (-1, t) := by unfold wf_law; rw [if_neg hq]
    rw [e]
    refine hy_aload (i := 0) rfl rfl ?_
    refine hy_iload (i := 1) rfl rfl ?_
    refine hy_const (i := 2) rfl (by decide) ?_
    refine hy_cV2e (i := 3) rfl mj_W_isOnTape (by decide) rfl (Nat.le_of_ble_eq_true rfl) rfl rfl rfl (c_W_isOnTape) ?_
    refine hy_ib_ne (i := 4) (tt := 7) rfl (fun zc1 => ?_) (fun zc1 => ?_)
    · simp at zc1; omega
    · refine hy_const (i := 5) rfl (by decide) ?_
      refine hy_ireturn (i := 6) rfl rfl ?_
      exact ⟨rfl, rfl⟩
def wf_land (t : hy_T) (n : Int) : Int × hy_T :=
  if 1 ≤ n ∧ n ≤ 160 ∧ n ≤ t 3 1 then (if gd_read t n 3 4 = 0 then (sp_paintedN (hy_up (gd_read t n) 3 1 0) 64, hy_up (gd_read t n) 3 1 0) else (gd_read t n 3 4, hy_up (gd_read t n) 3 1 0)) else (-1, t)
theorem c_W_land {n : Int} (h : tp_ok t) : hy_Ct sc hm_W_land 5 [.inr (some 2), .inl n] t (hy_e (some (wf_land t n).1) (wf_land t n).2) := by
  refine hy_mk_ct ok_W_land ck_W_land (Nat.le_of_ble_eq_true rfl) ?_
  by_cases hq : 1 ≤ n ∧ n ≤ 160 ∧ n ≤ t 3 1
  · by_cases hf : gd_read t n 3 4 = 0
    · have e : wf_land t n = (sp_paintedN (hy_up (gd_read t n) 3 1 0) 64, hy_up (gd_read t n) 3 1 0) := by unfold wf_land; rw [if_pos hq, if_pos hf]
      rw [e]
      refine hy_aload (i := 0) rfl rfl ?_
      refine hy_iload (i := 1) rfl rfl ?_
      refine hy_const (i := 2) rfl (by decide) ?_
      refine hy_cV2e (i := 3) rfl mj_W_isOnTape (by decide) rfl (Nat.le_of_ble_eq_true rfl) rfl rfl rfl (c_W_isOnTape) ?_
      refine hy_ib_ne (i := 4) (tt := 7) rfl (fun zc1 => ?_) (fun zc1 => ?_)
      · refine hy_aload (i := 7) rfl rfl ?_
        refine hy_getr (i := 8) rfl rfl ?_
        refine hy_iload (i := 9) rfl rfl ?_
        refine hy_cV1e (i := 10) rfl mj_G_read (by decide) rfl (Nat.le_of_ble_eq_true rfl) rfl rfl rfl (c_G_read (by assumption)) ?_
        refine hy_istore (i := 11) rfl ?_
        refine hy_aload (i := 12) rfl rfl ?_
        refine hy_getr (i := 13) rfl rfl ?_
        refine hy_cV0v (i := 14) rfl mj_T_clear (by decide) rfl (Nat.le_of_ble_eq_true rfl) rfl rfl rfl (c_T_clear) ?_
        refine hy_iload (i := 15) rfl rfl ?_
        refine hy_if_eq (i := 16) (tt := 19) rfl (fun zc2 => ?_) (fun zc2 => ?_)
        · refine hy_aload (i := 19) rfl rfl ?_
          refine hy_getr (i := 20) rfl rfl ?_
          refine hy_cV0e (i := 21) rfl mj_G_painted (by decide) rfl (Nat.le_of_ble_eq_true rfl) rfl rfl rfl (c_G_painted) ?_
          refine hy_ireturn (i := 22) rfl rfl ?_
          exact ⟨rfl, rfl⟩
        · omega
      · simp at zc1; omega
    · have e : wf_land t n = (gd_read t n 3 4, hy_up (gd_read t n) 3 1 0) := by unfold wf_land; rw [if_pos hq, if_neg hf]
      rw [e]
      refine hy_aload (i := 0) rfl rfl ?_
      refine hy_iload (i := 1) rfl rfl ?_
      refine hy_const (i := 2) rfl (by decide) ?_
      refine hy_cV2e (i := 3) rfl mj_W_isOnTape (by decide) rfl (Nat.le_of_ble_eq_true rfl) rfl rfl rfl (c_W_isOnTape) ?_
      refine hy_ib_ne (i := 4) (tt := 7) rfl (fun zc1 => ?_) (fun zc1 => ?_)
      · refine hy_aload (i := 7) rfl rfl ?_
        refine hy_getr (i := 8) rfl rfl ?_
        refine hy_iload (i := 9) rfl rfl ?_
        refine hy_cV1e (i := 10) rfl mj_G_read (by decide) rfl (Nat.le_of_ble_eq_true rfl) rfl rfl rfl (c_G_read (by assumption)) ?_
        refine hy_istore (i := 11) rfl ?_
        refine hy_aload (i := 12) rfl rfl ?_
        refine hy_getr (i := 13) rfl rfl ?_
        refine hy_cV0v (i := 14) rfl mj_T_clear (by decide) rfl (Nat.le_of_ble_eq_true rfl) rfl rfl rfl (c_T_clear) ?_
        refine hy_iload (i := 15) rfl rfl ?_
        refine hy_if_eq (i := 16) (tt := 19) rfl (fun zc2 => ?_) (fun zc2 => ?_)
        · omega
        · refine hy_iload (i := 17) rfl rfl ?_
          refine hy_goto (i := 18) (tt := 22) rfl ?_
          refine hy_ireturn (i := 22) rfl rfl ?_
          exact ⟨rfl, rfl⟩
      · simp at zc1; omega
  · have e : wf_land t n = (-1, t) := by unfold wf_land; rw [if_neg hq]
    rw [e]
    refine hy_aload (i := 0) rfl rfl ?_
    refine hy_iload (i := 1) rfl rfl ?_
    refine hy_const (i := 2) rfl (by decide) ?_
    refine hy_cV2e (i := 3) rfl mj_W_isOnTape (by decide) rfl (Nat.le_of_ble_eq_true rfl) rfl rfl rfl (c_W_isOnTape) ?_
    refine hy_ib_ne (i := 4) (tt := 7) rfl (fun zc1 => ?_) (fun zc1 => ?_)
    · simp at zc1; omega
    · refine hy_const (i := 5) rfl (by decide) ?_
      refine hy_ireturn (i := 6) rfl rfl ?_
      exact ⟨rfl, rfl⟩
def wf_seed (x : Int) : Bool := decide (0 ≤ x ∧ x ≤ 65535)
theorem c_W_seed {x : Int} : hy_Ct sc hm_W_seed 1 [.inr (some 2), .inl x] t (hy_e (some (hy_b (wf_seed x))) (if wf_seed x = true then hy_up t 33 5 x else t)) := by
  refine hy_mk_ct ok_W_seed ck_W_seed (Nat.le_of_ble_eq_true rfl) ?_
  by_cases hq : wf_seed x = true
  · have h2 := hq
    simp only [wf_seed, decide_eq_true_eq] at h2
    rw [hq, if_pos rfl]
    refine hy_iload (i := 0) rfl rfl ?_
    refine hy_if_lt (i := 1) (tt := 5) rfl (fun zc1 => ?_) (fun zc1 => ?_)
    · omega
    · refine hy_iload (i := 2) rfl rfl ?_
      refine hy_const (i := 3) rfl (by decide) ?_
      refine hy_ic_le (i := 4) (tt := 7) rfl (fun zc2 => ?_) (fun zc2 => ?_)
      · refine hy_aload (i := 7) rfl rfl ?_
        refine hy_getr (i := 8) rfl rfl ?_
        refine hy_iload (i := 9) rfl rfl ?_
        refine hy_cV1v (i := 10) rfl mj_S_setDraw (by decide) rfl (Nat.le_of_ble_eq_true rfl) rfl rfl rfl (c_S_setDraw_33) ?_
        refine hy_const (i := 11) rfl (by decide) ?_
        refine hy_zreturn (i := 12) rfl rfl (by first | decide | exact hy_b01 _) ?_
        exact ⟨rfl, rfl⟩
      · omega
  · rw [Bool.not_eq_true] at hq
    have h2 := hq
    simp only [wf_seed, decide_eq_false_iff_not] at h2
    rw [hq, if_neg (by decide)]
    refine hy_iload (i := 0) rfl rfl ?_
    refine hy_if_lt (i := 1) (tt := 5) rfl (fun zc1 => ?_) (fun zc1 => ?_)
    · refine hy_const (i := 5) rfl (by decide) ?_
      refine hy_zreturn (i := 6) rfl rfl (by first | decide | exact hy_b01 _) ?_
      exact ⟨rfl, rfl⟩
    · refine hy_iload (i := 2) rfl rfl ?_
      refine hy_const (i := 3) rfl (by decide) ?_
      refine hy_ic_le (i := 4) (tt := 7) rfl (fun zc2 => ?_) (fun zc2 => ?_)
      · omega
      · refine hy_const (i := 5) rfl (by decide) ?_
        refine hy_zreturn (i := 6) rfl rfl (by first | decide | exact hy_b01 _) ?_
        exact ⟨rfl, rfl⟩
theorem c_W_treatyIs {i w : Int} (hc : 0 ≤ t 33 3 ∧ t 33 3 ≤ 16) : hy_Ct sc hm_W_treatyIs 2 [.inr (some 2), .inl i, .inl w] t (hy_e (some (if (0 ≤ i ∧ i < t 33 3) ∧ 0 ≤ w ∧ w < 6 then t 36 (6 * i + w).toNat else -1)) t) := by
  refine hy_mk_ct ok_W_treatyIs ck_W_treatyIs (Nat.le_of_ble_eq_true rfl) ?_
  by_cases hq : (0 ≤ i ∧ i < t 33 3) ∧ 0 ≤ w ∧ w < 6
  · rw [if_pos hq]
    refine hy_iload (i := 0) rfl rfl ?_
    refine hy_if_lt (i := 1) (tt := 11) rfl (fun zc1 => ?_) (fun zc1 => ?_)
    · omega
    · refine hy_iload (i := 2) rfl rfl ?_
      refine hy_aload (i := 3) rfl rfl ?_
      refine hy_getr (i := 4) rfl rfl ?_
      refine hy_cV0e (i := 5) rfl mj_S_treatyCount (by decide) rfl (Nat.le_of_ble_eq_true rfl) rfl rfl rfl (c_S_treatyCount_33) ?_
      refine hy_ic_ge (i := 6) (tt := 11) rfl (fun zc2 => ?_) (fun zc2 => ?_)
      · omega
      · refine hy_iload (i := 7) rfl rfl ?_
        refine hy_const (i := 8) rfl (by decide) ?_
        refine hy_cS2e (i := 9) rfl (by decide) mj_W_isAmong (by decide) rfl (Nat.le_of_ble_eq_true rfl) (c_W_isAmong) ?_
        refine hy_ib_ne (i := 10) (tt := 13) rfl (fun zc3 => ?_) (fun zc3 => ?_)
        · refine hy_aload (i := 13) rfl rfl ?_
          refine hy_getr (i := 14) rfl rfl ?_
          refine hy_iload (i := 15) rfl rfl ?_
          refine hy_iload (i := 16) rfl rfl ?_
          refine hy_cV2e (i := 17) rfl mj_S_part (by decide) rfl (Nat.le_of_ble_eq_true rfl) rfl rfl rfl (c_S_part_33 (by assumption)) ?_
          refine hy_ireturn (i := 18) rfl rfl ?_
          exact ⟨congrArg some (by unfold sp_part; rw [if_pos hq]), rfl⟩
        · simp at zc3; omega
  · rw [if_neg hq]
    refine hy_iload (i := 0) rfl rfl ?_
    refine hy_if_lt (i := 1) (tt := 11) rfl (fun zc1 => ?_) (fun zc1 => ?_)
    · refine hy_const (i := 11) rfl (by decide) ?_
      refine hy_ireturn (i := 12) rfl rfl ?_
      exact ⟨rfl, rfl⟩
    · refine hy_iload (i := 2) rfl rfl ?_
      refine hy_aload (i := 3) rfl rfl ?_
      refine hy_getr (i := 4) rfl rfl ?_
      refine hy_cV0e (i := 5) rfl mj_S_treatyCount (by decide) rfl (Nat.le_of_ble_eq_true rfl) rfl rfl rfl (c_S_treatyCount_33) ?_
      refine hy_ic_ge (i := 6) (tt := 11) rfl (fun zc2 => ?_) (fun zc2 => ?_)
      · refine hy_const (i := 11) rfl (by decide) ?_
        refine hy_ireturn (i := 12) rfl rfl ?_
        exact ⟨rfl, rfl⟩
      · refine hy_iload (i := 7) rfl rfl ?_
        refine hy_const (i := 8) rfl (by decide) ?_
        refine hy_cS2e (i := 9) rfl (by decide) mj_W_isAmong (by decide) rfl (Nat.le_of_ble_eq_true rfl) (c_W_isAmong) ?_
        refine hy_ib_ne (i := 10) (tt := 13) rfl (fun zc3 => ?_) (fun zc3 => ?_)
        · simp at zc3; omega
        · refine hy_const (i := 11) rfl (by decide) ?_
          refine hy_ireturn (i := 12) rfl rfl ?_
          exact ⟨rfl, rfl⟩
theorem c_W_keep : hy_Ct sc hm_W_keep 1 [.inr (some 2)] t (hy_e (some (t 33 3)) (hy_up (sp_scopy t 33 37) 2 9 1)) := by
  refine hy_mk_ct ok_W_keep ck_W_keep (Nat.le_of_ble_eq_true rfl) ?_
  refine hy_aload (i := 0) rfl rfl ?_
  refine hy_getr (i := 1) rfl rfl ?_
  refine hy_aload (i := 2) rfl rfl ?_
  refine hy_getr (i := 3) rfl rfl ?_
  refine hy_cV1v (i := 4) rfl mj_S_copyFrom (by decide) rfl (Nat.le_of_ble_eq_true rfl) rfl rfl rfl (c_S_copyFrom_33_37) ?_
  refine hy_aload (i := 5) rfl rfl ?_
  refine hy_const (i := 6) rfl (by decide) ?_
  refine hy_putz (i := 7) (fk := 9) rfl rfl rfl rfl (by decide) ?_
  refine hy_aload (i := 8) rfl rfl ?_
  refine hy_getr (i := 9) rfl rfl ?_
  refine hy_cV0e (i := 10) rfl mj_S_treatyCount (by decide) rfl (Nat.le_of_ble_eq_true rfl) rfl rfl rfl (c_S_treatyCount_33) ?_
  refine hy_ireturn (i := 11) rfl rfl ?_
  exact ⟨rfl, rfl⟩
theorem c_W_undo : hy_Ct sc hm_W_undo 1 [.inr (some 2)] t (hy_e (some (if t 2 9 = 0 then 0 else 1)) (if t 2 9 = 0 then t else sp_scopy t 37 33)) := by
  refine hy_mk_ct ok_W_undo ck_W_undo (Nat.le_of_ble_eq_true rfl) ?_
  refine hy_aload (i := 0) rfl rfl ?_
  refine hy_get (i := 1) (fk := 9) rfl rfl rfl ?_
  refine hy_if_ne (i := 2) (tt := 5) rfl (fun zc1 => ?_) (fun zc1 => ?_)
  · refine hy_aload (i := 5) rfl rfl ?_
    refine hy_getr (i := 6) rfl rfl ?_
    refine hy_aload (i := 7) rfl rfl ?_
    refine hy_getr (i := 8) rfl rfl ?_
    refine hy_cV1v (i := 9) rfl mj_S_copyFrom (by decide) rfl (Nat.le_of_ble_eq_true rfl) rfl rfl rfl (c_S_copyFrom_37_33) ?_
    refine hy_const (i := 10) rfl (by decide) ?_
    refine hy_zreturn (i := 11) rfl rfl (by first | decide | exact hy_b01 _) ?_
    first | (rw [if_neg zc1, if_neg zc1]; exact ⟨rfl, rfl⟩) | (rw [if_pos (by omega), if_pos (by omega)]; exact ⟨rfl, rfl⟩)
  · refine hy_const (i := 3) rfl (by decide) ?_
    refine hy_zreturn (i := 4) rfl rfl (by first | decide | exact hy_b01 _) ?_
    first | (rw [if_neg zc1, if_neg zc1]; exact ⟨rfl, rfl⟩) | (rw [if_pos (by omega), if_pos (by omega)]; exact ⟨rfl, rfl⟩)
theorem c_W_days {n : Int} (hs : st_ok 33 t) (hk : lc_ok t) : hy_Ct sc hm_W_days 6 [.inr (some 2), .inl n] t (fun r t' => if 1 ≤ n ∧ n ≤ 99 then r = some (t 33 3 - sp_days 33 t n 33 3) ∧ hy_F eX (sp_days 33 t n) t' else r = some (-1) ∧ t' = t) := by
  refine hy_mk_ct ok_W_days ck_W_days (Nat.le_of_ble_eq_true rfl) ?_
  by_cases hq : 1 ≤ n ∧ n ≤ 99
  · simp only [if_pos hq]
    refine hy_iload (i := 0) rfl rfl ?_
    refine hy_cS1e (i := 1) rfl (by decide) mj_W_isDays (by decide) rfl (Nat.le_of_ble_eq_true rfl) (c_W_isDays) ?_
    refine hy_ib_eq (i := 2) (tt := 10) rfl (fun zc1 => ?_) (fun zc1 => ?_)
    · simp at zc1; omega
    · refine hy_aload (i := 3) rfl rfl ?_
      refine hy_getr (i := 4) rfl rfl ?_
      refine hy_aload (i := 5) rfl rfl ?_
      refine hy_getr (i := 6) rfl rfl ?_
      refine hy_iload (i := 7) rfl rfl ?_
      refine hy_cV2 (i := 8) rfl mj_S_goBy (by decide) rfl (Nat.le_of_ble_eq_true rfl) rfl rfl rfl (c_S_goBy_33 (by omega) hs hk) (fun r2_ t2_ h2 => ?_)
      obtain ⟨rfl, hF2⟩ := h2
      dsimp only [hy_st, List.cons_append, List.nil_append]
      refine hy_goto (i := 9) (tt := 11) rfl ?_
      refine hy_ireturn (i := 11) rfl rfl ?_
      exact ⟨rfl, hF2⟩
  · simp only [if_neg hq]
    refine hy_iload (i := 0) rfl rfl ?_
    refine hy_cS1e (i := 1) rfl (by decide) mj_W_isDays (by decide) rfl (Nat.le_of_ble_eq_true rfl) (c_W_isDays) ?_
    refine hy_ib_eq (i := 2) (tt := 10) rfl (fun zc1 => ?_) (fun zc1 => ?_)
    · refine hy_const (i := 10) rfl (by decide) ?_
      refine hy_ireturn (i := 11) rfl rfl ?_
      exact ⟨rfl, rfl⟩
    · simp at zc1; omega
end WA
/-! the class's own methods: what is seen and worth, tried, checked -/
section WB
variable {sc : List Int32} {t : hy_T}
def wf_sees (t : hy_T) (e c q : Int) : Int := if (0 ≤ e ∧ e < 6) ∧ sp_told (t 5 2) c = true ∧ 0 ≤ q ∧ q < 4 then hy_b (hz_b (sp_seen t e q) c) else -1
theorem c_W_sees {e c q : Int} (hk : lc_ok t) : hy_Ct sc hm_W_sees 5 [.inr (some 2), .inl e, .inl c, .inl q] t (fun r t' => r = some (wf_sees t e c q) ∧ hy_F eX t t') := by
  refine hy_mk_ct ok_W_sees ck_W_sees (Nat.le_of_ble_eq_true rfl) ?_
  by_cases hq : (0 ≤ e ∧ e < 6) ∧ sp_told (t 5 2) c = true ∧ 0 ≤ q ∧ q < 4
  · have ea : wf_sees t e c q = hy_b (hz_b (sp_seen t e q) c) := if_pos hq
    rw [ea]
    refine hy_iload (i := 0) rfl rfl ?_
    refine hy_cS1e (i := 1) rfl (by decide) mj_W_isEmpire (by decide) rfl (Nat.le_of_ble_eq_true rfl) (c_W_isEmpire) ?_
    refine hy_ib_eq (i := 2) (tt := 11) rfl (fun zc1 => ?_) (fun zc1 => ?_)
    · simp at zc1; omega
    · refine hy_aload (i := 3) rfl rfl ?_
      refine hy_getr (i := 4) rfl rfl ?_
      refine hy_iload (i := 5) rfl rfl ?_
      refine hy_cV1e (i := 6) rfl mj_P_isTold (by decide) rfl (Nat.le_of_ble_eq_true rfl) rfl rfl rfl (c_P_isTold) ?_
      refine hy_ib_eq (i := 7) (tt := 11) rfl (fun zc2 => ?_) (fun zc2 => ?_)
      · rw [hq.2.1] at zc2; cases zc2
      · refine hy_iload (i := 8) rfl rfl ?_
        refine hy_cS1e (i := 9) rfl (by decide) mj_W_isQuarter (by decide) rfl (Nat.le_of_ble_eq_true rfl) (c_W_isQuarter) ?_
        refine hy_ib_ne (i := 10) (tt := 13) rfl (fun zc3 => ?_) (fun zc3 => ?_)
        · refine hy_aload (i := 13) rfl rfl ?_
          refine hy_getr (i := 14) rfl rfl ?_
          refine hy_iload (i := 15) rfl rfl ?_
          refine hy_iload (i := 16) rfl rfl ?_
          refine hy_cV2 (i := 17) rfl mj_E_seen (by decide) rfl (Nat.le_of_ble_eq_true rfl) rfl rfl rfl (c_E_seen (by assumption)) (fun r4_ t4_ h4 => ?_)
          obtain ⟨rfl, hF4⟩ := h4
          dsimp only [hy_st, List.cons_append, List.nil_append]
          refine hy_iload (i := 18) rfl rfl ?_
          refine hy_cS2e (i := 19) rfl (by decide) mj_W_bit (by decide) rfl (Nat.le_of_ble_eq_true rfl) (c_W_bit) ?_
          refine hy_ireturn (i := 20) rfl rfl ?_
          exact ⟨rfl, hF4⟩
        · simp at zc3; omega
  · have ea : wf_sees t e c q = -1 := if_neg hq
    rw [ea]
    refine hy_iload (i := 0) rfl rfl ?_
    refine hy_cS1e (i := 1) rfl (by decide) mj_W_isEmpire (by decide) rfl (Nat.le_of_ble_eq_true rfl) (c_W_isEmpire) ?_
    refine hy_ib_eq (i := 2) (tt := 11) rfl (fun zc1 => ?_) (fun zc1 => ?_)
    · refine hy_const (i := 11) rfl (by decide) ?_
      refine hy_ireturn (i := 12) rfl rfl ?_
      exact ⟨rfl, hy_F.rf⟩
    · refine hy_aload (i := 3) rfl rfl ?_
      refine hy_getr (i := 4) rfl rfl ?_
      refine hy_iload (i := 5) rfl rfl ?_
      refine hy_cV1e (i := 6) rfl mj_P_isTold (by decide) rfl (Nat.le_of_ble_eq_true rfl) rfl rfl rfl (c_P_isTold) ?_
      refine hy_ib_eq (i := 7) (tt := 11) rfl (fun zc2 => ?_) (fun zc2 => ?_)
      · refine hy_const (i := 11) rfl (by decide) ?_
        refine hy_ireturn (i := 12) rfl rfl ?_
        exact ⟨rfl, hy_F.rf⟩
      · refine hy_iload (i := 8) rfl rfl ?_
        refine hy_cS1e (i := 9) rfl (by decide) mj_W_isQuarter (by decide) rfl (Nat.le_of_ble_eq_true rfl) (c_W_isQuarter) ?_
        refine hy_ib_ne (i := 10) (tt := 13) rfl (fun zc3 => ?_) (fun zc3 => ?_)
        · exfalso; simp at zc1 zc3; exact hq ⟨zc1, zc2, zc3⟩
        · refine hy_const (i := 11) rfl (by decide) ?_
          refine hy_ireturn (i := 12) rfl rfl ?_
          exact ⟨rfl, hy_F.rf⟩
def wf_as (t : hy_T) (e q : Int) : Nat → Int := sp_asN t (sp_seen t e q) (t 46) 12
def wf_appears (t : hy_T) (e c q : Int) : Int := if (0 ≤ e ∧ e < 6) ∧ (sp_told (t 5 2) c = true ∨ c = 12) ∧ 0 ≤ q ∧ q < 4 then lk (wf_as t e q) c else -1
theorem c_W_appears {e c q : Int} (hk : lc_ok t) : hy_Ct sc hm_W_appears 5 [.inr (some 2), .inl e, .inl c, .inl q] t (fun r t' => r = some (wf_appears t e c q) ∧ hy_F lX t t') := by
  refine hy_mk_ct ok_W_appears ck_W_appears (Nat.le_of_ble_eq_true rfl) ?_
  by_cases hq : (0 ≤ e ∧ e < 6) ∧ (sp_told (t 5 2) c = true ∨ c = 12) ∧ 0 ≤ q ∧ q < 4
  · have ea : wf_appears t e c q = lk (wf_as t e q) c := if_pos hq
    rw [ea]
    refine hy_iload (i := 0) rfl rfl ?_
    refine hy_cS1e (i := 1) rfl (by decide) mj_W_isEmpire (by decide) rfl (Nat.le_of_ble_eq_true rfl) (c_W_isEmpire) ?_
    refine hy_ib_eq (i := 2) (tt := 14) rfl (fun zc1 => ?_) (fun zc1 => ?_)
    · simp at zc1; omega
    · refine hy_aload (i := 3) rfl rfl ?_
      refine hy_getr (i := 4) rfl rfl ?_
      refine hy_iload (i := 5) rfl rfl ?_
      refine hy_cV1e (i := 6) rfl mj_P_isTold (by decide) rfl (Nat.le_of_ble_eq_true rfl) rfl rfl rfl (c_P_isTold) ?_
      refine hy_ib_ne (i := 7) (tt := 11) rfl (fun zc2 => ?_) (fun zc2 => ?_)
      · refine hy_iload (i := 11) rfl rfl ?_
        refine hy_cS1e (i := 12) rfl (by decide) mj_W_isQuarter (by decide) rfl (Nat.le_of_ble_eq_true rfl) (c_W_isQuarter) ?_
        refine hy_ib_ne (i := 13) (tt := 16) rfl (fun zc3 => ?_) (fun zc3 => ?_)
        · refine hy_aload (i := 16) rfl rfl ?_
          refine hy_getr (i := 17) rfl rfl ?_
          refine hy_iload (i := 18) rfl rfl ?_
          refine hy_iload (i := 19) rfl rfl ?_
          refine hy_cV2 (i := 20) rfl mj_E_look (by decide) rfl (Nat.le_of_ble_eq_true rfl) rfl rfl rfl (c_E_look (by assumption)) (fun r4_ t4_ h4 => ?_)
          obtain ⟨rfl, hL4, hF4⟩ := h4
          dsimp only [hy_st, List.nil_append]
          refine hy_aload (i := 21) rfl rfl ?_
          refine hy_getr (i := 22) rfl rfl ?_
          refine hy_iload (i := 23) rfl rfl ?_
          refine hy_cV1e (i := 24) rfl mj_E_looks (by decide) rfl (Nat.le_of_ble_eq_true rfl) rfl rfl rfl (c_E_looks) ?_
          refine hy_ireturn (i := 25) rfl rfl ?_
          exact ⟨by rw [hL4]; rfl, hF4⟩
        · simp only [decide_eq_false_iff_not] at *; omega
      · refine hy_iload (i := 8) rfl rfl ?_
        refine hy_const (i := 9) rfl (by decide) ?_
        refine hy_ic_ne (i := 10) (tt := 14) rfl (fun zc3 => ?_) (fun zc3 => ?_)
        · rcases hq.2.1 with h | h
          · rw [h] at zc2; cases zc2
          · omega
        · refine hy_iload (i := 11) rfl rfl ?_
          refine hy_cS1e (i := 12) rfl (by decide) mj_W_isQuarter (by decide) rfl (Nat.le_of_ble_eq_true rfl) (c_W_isQuarter) ?_
          refine hy_ib_ne (i := 13) (tt := 16) rfl (fun zc4 => ?_) (fun zc4 => ?_)
          · refine hy_aload (i := 16) rfl rfl ?_
            refine hy_getr (i := 17) rfl rfl ?_
            refine hy_iload (i := 18) rfl rfl ?_
            refine hy_iload (i := 19) rfl rfl ?_
            refine hy_cV2 (i := 20) rfl mj_E_look (by decide) rfl (Nat.le_of_ble_eq_true rfl) rfl rfl rfl (c_E_look (by assumption)) (fun r4_ t4_ h4 => ?_)
            obtain ⟨rfl, hL4, hF4⟩ := h4
            dsimp only [hy_st, List.nil_append]
            refine hy_aload (i := 21) rfl rfl ?_
            refine hy_getr (i := 22) rfl rfl ?_
            refine hy_iload (i := 23) rfl rfl ?_
            refine hy_cV1e (i := 24) rfl mj_E_looks (by decide) rfl (Nat.le_of_ble_eq_true rfl) rfl rfl rfl (c_E_looks) ?_
            refine hy_ireturn (i := 25) rfl rfl ?_
            exact ⟨by rw [hL4]; rfl, hF4⟩
          · simp only [decide_eq_false_iff_not] at *; omega
  · have ea : wf_appears t e c q = -1 := if_neg hq
    rw [ea]
    refine hy_iload (i := 0) rfl rfl ?_
    refine hy_cS1e (i := 1) rfl (by decide) mj_W_isEmpire (by decide) rfl (Nat.le_of_ble_eq_true rfl) (c_W_isEmpire) ?_
    refine hy_ib_eq (i := 2) (tt := 14) rfl (fun zc1 => ?_) (fun zc1 => ?_)
    · refine hy_const (i := 14) rfl (by decide) ?_
      refine hy_ireturn (i := 15) rfl rfl ?_
      exact ⟨rfl, hy_F.rf⟩
    · refine hy_aload (i := 3) rfl rfl ?_
      refine hy_getr (i := 4) rfl rfl ?_
      refine hy_iload (i := 5) rfl rfl ?_
      refine hy_cV1e (i := 6) rfl mj_P_isTold (by decide) rfl (Nat.le_of_ble_eq_true rfl) rfl rfl rfl (c_P_isTold) ?_
      refine hy_ib_ne (i := 7) (tt := 11) rfl (fun zc2 => ?_) (fun zc2 => ?_)
      · refine hy_iload (i := 11) rfl rfl ?_
        refine hy_cS1e (i := 12) rfl (by decide) mj_W_isQuarter (by decide) rfl (Nat.le_of_ble_eq_true rfl) (c_W_isQuarter) ?_
        refine hy_ib_ne (i := 13) (tt := 16) rfl (fun zc3 => ?_) (fun zc3 => ?_)
        · exfalso; simp only [decide_eq_true_eq] at *; first | exact hq ⟨zc1, .inl zc2, zc3⟩ | exact hq ⟨zc1, .inr zc3, zc4⟩
        · refine hy_const (i := 14) rfl (by decide) ?_
          refine hy_ireturn (i := 15) rfl rfl ?_
          exact ⟨rfl, hy_F.rf⟩
      · refine hy_iload (i := 8) rfl rfl ?_
        refine hy_const (i := 9) rfl (by decide) ?_
        refine hy_ic_ne (i := 10) (tt := 14) rfl (fun zc3 => ?_) (fun zc3 => ?_)
        · refine hy_const (i := 14) rfl (by decide) ?_
          refine hy_ireturn (i := 15) rfl rfl ?_
          exact ⟨rfl, hy_F.rf⟩
        · refine hy_iload (i := 11) rfl rfl ?_
          refine hy_cS1e (i := 12) rfl (by decide) mj_W_isQuarter (by decide) rfl (Nat.le_of_ble_eq_true rfl) (c_W_isQuarter) ?_
          refine hy_ib_ne (i := 13) (tt := 16) rfl (fun zc4 => ?_) (fun zc4 => ?_)
          · exfalso; simp only [decide_eq_true_eq] at *; first | exact hq ⟨zc1, .inl zc2, zc3⟩ | exact hq ⟨zc1, .inr zc3, zc4⟩
          · refine hy_const (i := 14) rfl (by decide) ?_
            refine hy_ireturn (i := 15) rfl rfl ?_
            exact ⟨rfl, hy_F.rf⟩
def wf_child (t : hy_T) (a b c q : Int) : Int := if ((0 ≤ a ∧ a < 6) ∧ 0 ≤ b ∧ b < 6) ∧ sp_told (t 5 2) c = true ∧ 0 ≤ q ∧ q < 4 then hy_b (sp_child t a b c q) else -1
theorem c_W_child {a b c q : Int} (hk : lc_ok t) : hy_Ct sc hm_W_child 6 [.inr (some 2), .inl a, .inl b, .inl c, .inl q] t (fun r t' => r = some (wf_child t a b c q) ∧ hy_F eX t t') := by
  refine hy_mk_ct ok_W_child ck_W_child (Nat.le_of_ble_eq_true rfl) ?_
  by_cases hq : ((0 ≤ a ∧ a < 6) ∧ 0 ≤ b ∧ b < 6) ∧ sp_told (t 5 2) c = true ∧ 0 ≤ q ∧ q < 4
  · have ea : wf_child t a b c q = hy_b (sp_child t a b c q) := if_pos hq
    rw [ea]
    refine hy_iload (i := 0) rfl rfl ?_
    refine hy_cS1e (i := 1) rfl (by decide) mj_W_isEmpire (by decide) rfl (Nat.le_of_ble_eq_true rfl) (c_W_isEmpire) ?_
    refine hy_ib_eq (i := 2) (tt := 14) rfl (fun zc1 => ?_) (fun zc1 => ?_)
    · simp at zc1; omega
    · refine hy_iload (i := 3) rfl rfl ?_
      refine hy_cS1e (i := 4) rfl (by decide) mj_W_isEmpire (by decide) rfl (Nat.le_of_ble_eq_true rfl) (c_W_isEmpire) ?_
      refine hy_ib_eq (i := 5) (tt := 14) rfl (fun zc2 => ?_) (fun zc2 => ?_)
      · simp at zc2; omega
      · refine hy_aload (i := 6) rfl rfl ?_
        refine hy_getr (i := 7) rfl rfl ?_
        refine hy_iload (i := 8) rfl rfl ?_
        refine hy_cV1e (i := 9) rfl mj_P_isTold (by decide) rfl (Nat.le_of_ble_eq_true rfl) rfl rfl rfl (c_P_isTold) ?_
        refine hy_ib_eq (i := 10) (tt := 14) rfl (fun zc3 => ?_) (fun zc3 => ?_)
        · rw [hq.2.1] at zc3; cases zc3
        · refine hy_iload (i := 11) rfl rfl ?_
          refine hy_cS1e (i := 12) rfl (by decide) mj_W_isQuarter (by decide) rfl (Nat.le_of_ble_eq_true rfl) (c_W_isQuarter) ?_
          refine hy_ib_ne (i := 13) (tt := 16) rfl (fun zc4 => ?_) (fun zc4 => ?_)
          · refine hy_aload (i := 16) rfl rfl ?_
            refine hy_getr (i := 17) rfl rfl ?_
            refine hy_iload (i := 18) rfl rfl ?_
            refine hy_iload (i := 19) rfl rfl ?_
            refine hy_iload (i := 20) rfl rfl ?_
            refine hy_iload (i := 21) rfl rfl ?_
            refine hy_cV4 (i := 22) rfl mj_E_childSees (by decide) rfl (Nat.le_of_ble_eq_true rfl) rfl rfl rfl (c_E_childSees (by assumption)) (fun r5_ t5_ h5 => ?_)
            obtain ⟨rfl, hF5⟩ := h5
            dsimp only [hy_st, List.cons_append, List.nil_append]
            refine hy_if_eq (i := 23) (tt := 26) rfl (fun zc5 => ?_) (fun zc5 => ?_)
            · refine hy_const (i := 26) rfl (by decide) ?_
              refine hy_ireturn (i := 27) rfl rfl ?_
              exact ⟨by cases hv : sp_child t a b c q <;> simp_all [hy_b], hF5⟩
            · refine hy_const (i := 24) rfl (by decide) ?_
              refine hy_goto (i := 25) (tt := 27) rfl ?_
              refine hy_ireturn (i := 27) rfl rfl ?_
              exact ⟨by cases hv : sp_child t a b c q <;> simp_all [hy_b], hF5⟩
          · simp at zc4; omega
  · have ea : wf_child t a b c q = -1 := if_neg hq
    rw [ea]
    refine hy_iload (i := 0) rfl rfl ?_
    refine hy_cS1e (i := 1) rfl (by decide) mj_W_isEmpire (by decide) rfl (Nat.le_of_ble_eq_true rfl) (c_W_isEmpire) ?_
    refine hy_ib_eq (i := 2) (tt := 14) rfl (fun zc1 => ?_) (fun zc1 => ?_)
    · refine hy_const (i := 14) rfl (by decide) ?_
      refine hy_ireturn (i := 15) rfl rfl ?_
      exact ⟨rfl, hy_F.rf⟩
    · refine hy_iload (i := 3) rfl rfl ?_
      refine hy_cS1e (i := 4) rfl (by decide) mj_W_isEmpire (by decide) rfl (Nat.le_of_ble_eq_true rfl) (c_W_isEmpire) ?_
      refine hy_ib_eq (i := 5) (tt := 14) rfl (fun zc2 => ?_) (fun zc2 => ?_)
      · refine hy_const (i := 14) rfl (by decide) ?_
        refine hy_ireturn (i := 15) rfl rfl ?_
        exact ⟨rfl, hy_F.rf⟩
      · refine hy_aload (i := 6) rfl rfl ?_
        refine hy_getr (i := 7) rfl rfl ?_
        refine hy_iload (i := 8) rfl rfl ?_
        refine hy_cV1e (i := 9) rfl mj_P_isTold (by decide) rfl (Nat.le_of_ble_eq_true rfl) rfl rfl rfl (c_P_isTold) ?_
        refine hy_ib_eq (i := 10) (tt := 14) rfl (fun zc3 => ?_) (fun zc3 => ?_)
        · refine hy_const (i := 14) rfl (by decide) ?_
          refine hy_ireturn (i := 15) rfl rfl ?_
          exact ⟨rfl, hy_F.rf⟩
        · refine hy_iload (i := 11) rfl rfl ?_
          refine hy_cS1e (i := 12) rfl (by decide) mj_W_isQuarter (by decide) rfl (Nat.le_of_ble_eq_true rfl) (c_W_isQuarter) ?_
          refine hy_ib_ne (i := 13) (tt := 16) rfl (fun zc4 => ?_) (fun zc4 => ?_)
          · exfalso; simp at zc1 zc2 zc4; exact hq ⟨⟨zc1, zc2⟩, zc3, zc4⟩
          · refine hy_const (i := 14) rfl (by decide) ?_
            refine hy_ireturn (i := 15) rfl rfl ?_
            exact ⟨rfl, hy_F.rf⟩
def wf_worth (t : hy_T) (e q : Int) : Int := if (0 ≤ e ∧ e < 6) ∧ 0 ≤ q ∧ q < 4 then sp_worth t e q else -1
theorem c_W_worth {e q : Int} (hk : lc_ok t) : hy_Ct sc hm_W_worth 6 [.inr (some 2), .inl e, .inl q] t (fun r t' => r = some (wf_worth t e q) ∧ hy_F pX t t') := by
  refine hy_mk_ct ok_W_worth ck_W_worth (Nat.le_of_ble_eq_true rfl) ?_
  by_cases hq : (0 ≤ e ∧ e < 6) ∧ 0 ≤ q ∧ q < 4
  · have ea : wf_worth t e q = sp_worth t e q := if_pos hq
    rw [ea]
    refine hy_iload (i := 0) rfl rfl ?_
    refine hy_cS1e (i := 1) rfl (by decide) mj_W_isEmpire (by decide) rfl (Nat.le_of_ble_eq_true rfl) (c_W_isEmpire) ?_
    refine hy_ib_eq (i := 2) (tt := 6) rfl (fun zc1 => ?_) (fun zc1 => ?_)
    · simp at zc1; omega
    · refine hy_iload (i := 3) rfl rfl ?_
      refine hy_cS1e (i := 4) rfl (by decide) mj_W_isQuarter (by decide) rfl (Nat.le_of_ble_eq_true rfl) (c_W_isQuarter) ?_
      refine hy_ib_ne (i := 5) (tt := 8) rfl (fun zc2 => ?_) (fun zc2 => ?_)
      · refine hy_aload (i := 8) rfl rfl ?_
        refine hy_getr (i := 9) rfl rfl ?_
        refine hy_iload (i := 10) rfl rfl ?_
        refine hy_iload (i := 11) rfl rfl ?_
        refine hy_cV2 (i := 12) rfl mj_U_worthTo (by decide) rfl (Nat.le_of_ble_eq_true rfl) rfl rfl rfl (c_U_worthTo (by assumption)) (fun r3_ t3_ h3 => ?_)
        obtain ⟨rfl, hF3⟩ := h3
        dsimp only [hy_st, List.cons_append, List.nil_append]
        refine hy_ireturn (i := 13) rfl rfl ?_
        exact ⟨rfl, hF3⟩
      · simp at zc2; omega
  · have ea : wf_worth t e q = -1 := if_neg hq
    rw [ea]
    refine hy_iload (i := 0) rfl rfl ?_
    refine hy_cS1e (i := 1) rfl (by decide) mj_W_isEmpire (by decide) rfl (Nat.le_of_ble_eq_true rfl) (c_W_isEmpire) ?_
    refine hy_ib_eq (i := 2) (tt := 6) rfl (fun zc1 => ?_) (fun zc1 => ?_)
    · refine hy_const (i := 6) rfl (by decide) ?_
      refine hy_ireturn (i := 7) rfl rfl ?_
      exact ⟨rfl, hy_F.rf⟩
    · refine hy_iload (i := 3) rfl rfl ?_
      refine hy_cS1e (i := 4) rfl (by decide) mj_W_isQuarter (by decide) rfl (Nat.le_of_ble_eq_true rfl) (c_W_isQuarter) ?_
      refine hy_ib_ne (i := 5) (tt := 8) rfl (fun zc2 => ?_) (fun zc2 => ?_)
      · exfalso; simp at zc1 zc2; exact hq ⟨zc1, zc2⟩
      · refine hy_const (i := 6) rfl (by decide) ?_
        refine hy_ireturn (i := 7) rfl rfl ?_
        exact ⟨rfl, hy_F.rf⟩
def wf_hid (t : hy_T) (L : Nat → Int) (f u : Int) : Bool := decide (lk L (if 0 ≤ f ∧ f < 64 then t 9 f.toNat else 12) = lk L u)
theorem c_W_isHidden {f u : Int} : hy_Ct sc hm_W_isHidden 2 [.inr (some 2), .inl f, .inl u] t (hy_e (some (hy_b (wf_hid t (t 46) f u))) t) := by
  refine hy_mk_ct ok_W_isHidden ck_W_isHidden (Nat.le_of_ble_eq_true rfl) ?_
  refine hy_aload (i := 0) rfl rfl ?_
  refine hy_getr (i := 1) rfl rfl ?_
  refine hy_aload (i := 2) rfl rfl ?_
  refine hy_getr (i := 3) rfl rfl ?_
  refine hy_iload (i := 4) rfl rfl ?_
  refine hy_cV1e (i := 5) rfl mj_G_at (by decide) rfl (Nat.le_of_ble_eq_true rfl) rfl rfl rfl (c_G_at) ?_
  refine hy_cV1e (i := 6) rfl mj_E_looks (by decide) rfl (Nat.le_of_ble_eq_true rfl) rfl rfl rfl (c_E_looks) ?_
  refine hy_aload (i := 7) rfl rfl ?_
  refine hy_getr (i := 8) rfl rfl ?_
  refine hy_iload (i := 9) rfl rfl ?_
  refine hy_cV1e (i := 10) rfl mj_E_looks (by decide) rfl (Nat.le_of_ble_eq_true rfl) rfl rfl rfl (c_E_looks) ?_
  refine hy_ic_ne (i := 11) (tt := 14) rfl (fun zc1 => ?_) (fun zc1 => ?_)
  · refine hy_const (i := 14) rfl (by decide) ?_
    refine hy_zreturn (i := 15) rfl rfl (by first | decide | exact hy_b01 _) ?_
    exact ⟨congrArg some (by unfold wf_hid; first | (rw [decide_eq_true (by assumption)]; rfl) | (rw [decide_eq_false (by assumption)]; rfl)), rfl⟩
  · refine hy_const (i := 12) rfl (by decide) ?_
    refine hy_goto (i := 13) (tt := 15) rfl ?_
    refine hy_zreturn (i := 15) rfl rfl (by first | decide | exact hy_b01 _) ?_
    exact ⟨congrArg some (by unfold wf_hid; first | (rw [decide_eq_true (by assumption)]; rfl) | (rw [decide_eq_false (by assumption)]; rfl)), rfl⟩
def wf_unseen (t : hy_T) (x y u e q : Int) : Int := if ((0 ≤ x ∧ x < 8) ∧ 0 ≤ y ∧ y < 8) ∧ sp_told (t 5 2) u = true ∧ (0 ≤ e ∧ e < 6) ∧ 0 ≤ q ∧ q < 4 then hy_b (wf_hid t (wf_as t e q) (8 * y + x) u) else -1
theorem c_W_unseen {x y u e q : Int} (hk : lc_ok t) : hy_Ct sc hm_W_unseen 5 [.inr (some 2), .inl x, .inl y, .inl u, .inl e, .inl q] t (fun r t' => r = some (wf_unseen t x y u e q) ∧ hy_F lX t t') := by
  refine hy_mk_ct ok_W_unseen ck_W_unseen (Nat.le_of_ble_eq_true rfl) ?_
  by_cases hq : ((0 ≤ x ∧ x < 8) ∧ 0 ≤ y ∧ y < 8) ∧ sp_told (t 5 2) u = true ∧ (0 ≤ e ∧ e < 6) ∧ 0 ≤ q ∧ q < 4
  · have ea : wf_unseen t x y u e q = hy_b (wf_hid t (wf_as t e q) (8 * y + x) u) := if_pos hq
    rw [ea]
    refine hy_iload (i := 0) rfl rfl ?_
    refine hy_iload (i := 1) rfl rfl ?_
    refine hy_cS2e (i := 2) rfl (by decide) mj_W_isPlace (by decide) rfl (Nat.le_of_ble_eq_true rfl) (c_W_isPlace) ?_
    refine hy_ib_eq (i := 3) (tt := 15) rfl (fun zc1 => ?_) (fun zc1 => ?_)
    · simp at zc1; omega
    · refine hy_aload (i := 4) rfl rfl ?_
      refine hy_getr (i := 5) rfl rfl ?_
      refine hy_iload (i := 6) rfl rfl ?_
      refine hy_cV1e (i := 7) rfl mj_P_isTold (by decide) rfl (Nat.le_of_ble_eq_true rfl) rfl rfl rfl (c_P_isTold) ?_
      refine hy_ib_eq (i := 8) (tt := 15) rfl (fun zc2 => ?_) (fun zc2 => ?_)
      · rw [hq.2.1] at zc2; cases zc2
      · refine hy_iload (i := 9) rfl rfl ?_
        refine hy_cS1e (i := 10) rfl (by decide) mj_W_isEmpire (by decide) rfl (Nat.le_of_ble_eq_true rfl) (c_W_isEmpire) ?_
        refine hy_ib_eq (i := 11) (tt := 15) rfl (fun zc3 => ?_) (fun zc3 => ?_)
        · simp at zc3; omega
        · refine hy_iload (i := 12) rfl rfl ?_
          refine hy_cS1e (i := 13) rfl (by decide) mj_W_isQuarter (by decide) rfl (Nat.le_of_ble_eq_true rfl) (c_W_isQuarter) ?_
          refine hy_ib_ne (i := 14) (tt := 17) rfl (fun zc4 => ?_) (fun zc4 => ?_)
          · refine hy_aload (i := 17) rfl rfl ?_
            refine hy_getr (i := 18) rfl rfl ?_
            refine hy_iload (i := 19) rfl rfl ?_
            refine hy_iload (i := 20) rfl rfl ?_
            refine hy_cV2 (i := 21) rfl mj_E_look (by decide) rfl (Nat.le_of_ble_eq_true rfl) rfl rfl rfl (c_E_look (by assumption)) (fun r5_ t5_ h5 => ?_)
            obtain ⟨rfl, hL5, hF5⟩ := h5
            dsimp only [hy_st, List.nil_append]
            refine hy_aload (i := 22) rfl rfl ?_
            refine hy_const (i := 23) rfl (by decide) ?_
            refine hy_iload (i := 24) rfl rfl ?_
            refine hy_imul (i := 25) rfl (by omega) ?_
            refine hy_iload (i := 26) rfl rfl ?_
            refine hy_iadd (i := 27) rfl (by omega) ?_
            refine hy_iload (i := 28) rfl rfl ?_
            refine hy_cV2e (i := 29) rfl mj_W_isHidden (by decide) rfl (Nat.le_of_ble_eq_true rfl) rfl rfl rfl (c_W_isHidden) ?_
            rw [show wf_hid t5_ (t5_ 46) (8 * y + x) u = wf_hid t (wf_as t e q) (8 * y + x) u by unfold wf_hid; rw [hL5, show t5_ 9 = t 9 from funext fun j => hF5 9 j rfl]; rfl]
            refine hy_if_eq (i := 30) (tt := 33) rfl (fun zc5 => ?_) (fun zc5 => ?_)
            · refine hy_const (i := 33) rfl (by decide) ?_
              refine hy_ireturn (i := 34) rfl rfl ?_
              exact ⟨by cases hv : wf_hid t (wf_as t e q) (8 * y + x) u <;> simp_all [hy_b], hF5⟩
            · refine hy_const (i := 31) rfl (by decide) ?_
              refine hy_goto (i := 32) (tt := 34) rfl ?_
              refine hy_ireturn (i := 34) rfl rfl ?_
              exact ⟨by cases hv : wf_hid t (wf_as t e q) (8 * y + x) u <;> simp_all [hy_b], hF5⟩
          · simp at zc4; omega
  · have ea : wf_unseen t x y u e q = -1 := if_neg hq
    rw [ea]
    refine hy_iload (i := 0) rfl rfl ?_
    refine hy_iload (i := 1) rfl rfl ?_
    refine hy_cS2e (i := 2) rfl (by decide) mj_W_isPlace (by decide) rfl (Nat.le_of_ble_eq_true rfl) (c_W_isPlace) ?_
    refine hy_ib_eq (i := 3) (tt := 15) rfl (fun zc1 => ?_) (fun zc1 => ?_)
    · refine hy_const (i := 15) rfl (by decide) ?_
      refine hy_ireturn (i := 16) rfl rfl ?_
      exact ⟨rfl, hy_F.rf⟩
    · refine hy_aload (i := 4) rfl rfl ?_
      refine hy_getr (i := 5) rfl rfl ?_
      refine hy_iload (i := 6) rfl rfl ?_
      refine hy_cV1e (i := 7) rfl mj_P_isTold (by decide) rfl (Nat.le_of_ble_eq_true rfl) rfl rfl rfl (c_P_isTold) ?_
      refine hy_ib_eq (i := 8) (tt := 15) rfl (fun zc2 => ?_) (fun zc2 => ?_)
      · refine hy_const (i := 15) rfl (by decide) ?_
        refine hy_ireturn (i := 16) rfl rfl ?_
        exact ⟨rfl, hy_F.rf⟩
      · refine hy_iload (i := 9) rfl rfl ?_
        refine hy_cS1e (i := 10) rfl (by decide) mj_W_isEmpire (by decide) rfl (Nat.le_of_ble_eq_true rfl) (c_W_isEmpire) ?_
        refine hy_ib_eq (i := 11) (tt := 15) rfl (fun zc3 => ?_) (fun zc3 => ?_)
        · refine hy_const (i := 15) rfl (by decide) ?_
          refine hy_ireturn (i := 16) rfl rfl ?_
          exact ⟨rfl, hy_F.rf⟩
        · refine hy_iload (i := 12) rfl rfl ?_
          refine hy_cS1e (i := 13) rfl (by decide) mj_W_isQuarter (by decide) rfl (Nat.le_of_ble_eq_true rfl) (c_W_isQuarter) ?_
          refine hy_ib_ne (i := 14) (tt := 17) rfl (fun zc4 => ?_) (fun zc4 => ?_)
          · exfalso; simp only [decide_eq_true_eq] at zc1 zc3 zc4; exact hq ⟨zc1, zc2, zc3, zc4⟩
          · refine hy_const (i := 15) rfl (by decide) ?_
            refine hy_ireturn (i := 16) rfl rfl ?_
            exact ⟨rfl, hy_F.rf⟩
/-- how many numbers of the tape are owners -/
def wf_rightN (t : hy_T) : Nat → Int → Int
  | 0, k => k
  | n + 1, k => if tp_number t (4 * k) = (if 0 ≤ k ∧ k < 64 then t 35 k.toNat else 6) then wf_rightN t n (k + 1) else k
theorem wf_rightN_in (t : hy_T) : ∀ (n : Nat) (k : Int), k ≤ wf_rightN t n k ∧ wf_rightN t n k ≤ k + n
  | 0, k => by simp [wf_rightN]
  | n + 1, k => by
    simp only [wf_rightN]
    by_cases hx : tp_number t (4 * k) = (if 0 ≤ k ∧ k < 64 then t 35 k.toNat else 6)
    · rw [if_pos hx]; have := wf_rightN_in t n (k + 1); omega
    · rw [if_neg hx]; omega
def wf_check (t : hy_T) (n : Int) : Int := if wf_rightN t n.toNat 0 = n then -1 else wf_rightN t n.toNat 0
theorem c_W_check {n : Int} (hl : 0 ≤ t 3 1 ∧ t 3 1 ≤ 260) : hy_Ct sc hm_W_check 2 [.inr (some 2), .inl n] t (hy_e (some (if (0 ≤ n ∧ n ≤ 8) ∧ 4 * n ≤ t 3 1 then wf_check t n else -2)) (if (0 ≤ n ∧ n ≤ 8) ∧ 4 * n ≤ t 3 1 then hy_up t 3 1 0 else t)) := by
  refine hy_mk_ct ok_W_check ck_W_check (Nat.le_of_ble_eq_true rfl) ?_
  by_cases hq : (0 ≤ n ∧ n ≤ 8) ∧ 4 * n ≤ t 3 1
  · rw [if_pos hq, if_pos hq]
    have fin : ∀ k : Int, k = wf_rightN t n.toNat 0 → hy_W sc hm_W_check 2 32 [.inr (some 2), .inl n, .inl k] [] t (hy_e (some (wf_check t n)) (hy_up t 3 1 0)) := by
      intro k hk
      have ek : wf_check t n = if k = n then -1 else k := by unfold wf_check; rw [hk]
      rw [ek]
      refine hy_aload (i := 32) rfl rfl ?_
      refine hy_getr (i := 33) rfl rfl ?_
      refine hy_cV0v (i := 34) rfl mj_T_clear (by decide) rfl (Nat.le_of_ble_eq_true rfl) rfl rfl rfl (c_T_clear) ?_
      refine hy_iload (i := 35) rfl rfl ?_
      refine hy_iload (i := 36) rfl rfl ?_
      refine hy_ic_ne (i := 37) (tt := 40) rfl (fun zc1 => ?_) (fun zc1 => ?_)
      · refine hy_iload (i := 40) rfl rfl ?_
        refine hy_ireturn (i := 41) rfl rfl ?_
        exact ⟨congrArg some (by first | (rw [if_pos (by omega)]; done) | (rw [if_neg (by omega)]; done)), rfl⟩
      · refine hy_const (i := 38) rfl (by decide) ?_
        refine hy_goto (i := 39) (tt := 41) rfl ?_
        refine hy_ireturn (i := 41) rfl rfl ?_
        exact ⟨congrArg some (by first | (rw [if_pos (by omega)]; done) | (rw [if_neg (by omega)]; done)), rfl⟩
    have loop : ∀ (m : Nat), ∀ (k : Nat), m + k = n.toNat → wf_rightN t m k = wf_rightN t n.toNat 0 → hy_W sc hm_W_check 2 16 [.inr (some 2), .inl n, .inl (k : Int)] [] t (hy_e (some (wf_check t n)) (hy_up t 3 1 0)) := by
      intro m
      induction m with
      | zero =>
        intro k hm he
        refine hy_iload (i := 16) rfl rfl ?_
        refine hy_iload (i := 17) rfl rfl ?_
        refine hy_ic_ge (i := 18) (tt := 32) rfl (fun zc1 => ?_) (fun zc1 => ?_)
        · exact fin _ he
        · omega
      | succ m ih =>
        intro k hm he
        by_cases hx : tp_number t (4 * k) = (if 0 ≤ (k : Int) ∧ (k : Int) < 64 then t 35 (k : Int).toNat else 6)
        · have e : wf_rightN t (m + 1) k = wf_rightN t m (k + 1) := by simp only [wf_rightN]; rw [if_pos hx]
          rw [e] at he
          refine hy_iload (i := 16) rfl rfl ?_
          refine hy_iload (i := 17) rfl rfl ?_
          refine hy_ic_ge (i := 18) (tt := 32) rfl (fun zc1 => ?_) (fun zc1 => ?_)
          · omega
          · refine hy_aload (i := 19) rfl rfl ?_
            refine hy_getr (i := 20) rfl rfl ?_
            refine hy_const (i := 21) rfl (by decide) ?_
            refine hy_iload (i := 22) rfl rfl ?_
            refine hy_imul (i := 23) rfl (by omega) ?_
            refine hy_cV1e (i := 24) rfl mj_T_number (by decide) rfl (Nat.le_of_ble_eq_true rfl) rfl rfl rfl (c_T_number hl.2 (by omega)) ?_
            refine hy_aload (i := 25) rfl rfl ?_
            refine hy_getr (i := 26) rfl rfl ?_
            refine hy_iload (i := 27) rfl rfl ?_
            refine hy_cV1e (i := 28) rfl mj_S_ownerOf (by decide) rfl (Nat.le_of_ble_eq_true rfl) rfl rfl rfl (c_S_ownerOf_33) ?_
            refine hy_ic_ne (i := 29) (tt := 32) rfl (fun zc2 => ?_) (fun zc2 => ?_)
            · exact absurd hx (by assumption)
            · refine hy_iinc (i := 30) rfl rfl (by omega) ?_
              refine hy_goto (i := 31) (tt := 16) rfl ?_
              exact ih (k + 1) (by omega) he
        · have e : wf_rightN t (m + 1) k = k := by simp only [wf_rightN]; rw [if_neg hx]
          rw [e] at he
          refine hy_iload (i := 16) rfl rfl ?_
          refine hy_iload (i := 17) rfl rfl ?_
          refine hy_ic_ge (i := 18) (tt := 32) rfl (fun zc1 => ?_) (fun zc1 => ?_)
          · omega
          · refine hy_aload (i := 19) rfl rfl ?_
            refine hy_getr (i := 20) rfl rfl ?_
            refine hy_const (i := 21) rfl (by decide) ?_
            refine hy_iload (i := 22) rfl rfl ?_
            refine hy_imul (i := 23) rfl (by omega) ?_
            refine hy_cV1e (i := 24) rfl mj_T_number (by decide) rfl (Nat.le_of_ble_eq_true rfl) rfl rfl rfl (c_T_number hl.2 (by omega)) ?_
            refine hy_aload (i := 25) rfl rfl ?_
            refine hy_getr (i := 26) rfl rfl ?_
            refine hy_iload (i := 27) rfl rfl ?_
            refine hy_cV1e (i := 28) rfl mj_S_ownerOf (by decide) rfl (Nat.le_of_ble_eq_true rfl) rfl rfl rfl (c_S_ownerOf_33) ?_
            refine hy_ic_ne (i := 29) (tt := 32) rfl (fun zc2 => ?_) (fun zc2 => ?_)
            · exact fin _ he
            · exact absurd (by first | assumption | omega) hx
    refine hy_iload (i := 0) rfl rfl ?_
    refine hy_if_lt (i := 1) (tt := 12) rfl (fun zc1 => ?_) (fun zc1 => ?_)
    · omega
    · refine hy_iload (i := 2) rfl rfl ?_
      refine hy_const (i := 3) rfl (by decide) ?_
      refine hy_ic_gt (i := 4) (tt := 12) rfl (fun zc2 => ?_) (fun zc2 => ?_)
      · omega
      · refine hy_aload (i := 5) rfl rfl ?_
        refine hy_getr (i := 6) rfl rfl ?_
        refine hy_cV0e (i := 7) rfl mj_T_length (by decide) rfl (Nat.le_of_ble_eq_true rfl) rfl rfl rfl (c_T_length) ?_
        refine hy_const (i := 8) rfl (by decide) ?_
        refine hy_iload (i := 9) rfl rfl ?_
        refine hy_imul (i := 10) rfl (by omega) ?_
        refine hy_ic_ge (i := 11) (tt := 14) rfl (fun zc3 => ?_) (fun zc3 => ?_)
        · refine hy_const (i := 14) rfl (by decide) ?_
          refine hy_istore (i := 15) rfl ?_
          exact loop n.toNat 0 rfl rfl
        · omega
  · rw [if_neg hq, if_neg hq]
    refine hy_iload (i := 0) rfl rfl ?_
    refine hy_if_lt (i := 1) (tt := 12) rfl (fun zc1 => ?_) (fun zc1 => ?_)
    · refine hy_const (i := 12) rfl (by decide) ?_
      refine hy_ireturn (i := 13) rfl rfl ?_
      exact ⟨rfl, rfl⟩
    · refine hy_iload (i := 2) rfl rfl ?_
      refine hy_const (i := 3) rfl (by decide) ?_
      refine hy_ic_gt (i := 4) (tt := 12) rfl (fun zc2 => ?_) (fun zc2 => ?_)
      · refine hy_const (i := 12) rfl (by decide) ?_
        refine hy_ireturn (i := 13) rfl rfl ?_
        exact ⟨rfl, rfl⟩
      · refine hy_aload (i := 5) rfl rfl ?_
        refine hy_getr (i := 6) rfl rfl ?_
        refine hy_cV0e (i := 7) rfl mj_T_length (by decide) rfl (Nat.le_of_ble_eq_true rfl) rfl rfl rfl (c_T_length) ?_
        refine hy_const (i := 8) rfl (by decide) ?_
        refine hy_iload (i := 9) rfl rfl ?_
        refine hy_imul (i := 10) rfl (by omega) ?_
        refine hy_ic_ge (i := 11) (tt := 14) rfl (fun zc3 => ?_) (fun zc3 => ?_)
        · omega
        · refine hy_const (i := 12) rfl (by decide) ?_
          refine hy_ireturn (i := 13) rfl rfl ?_
          exact ⟨rfl, rfl⟩
end WB
/-! the class's own methods: tried, painting, battle, count, and refusals -/
abbrev dzX (b : Nat) : Nat → Nat → Bool := fun r j => r == b + 1 || r == b + 3 || (r == b && (j == 3 || j == 4 || j == 5 || j == 6 || j == 7))
theorem dzX_dy {b : Nat} {t t1 : hy_T} (h : hy_F (dyX b) t t1) : hy_F (dzX b) t t1 := h.w (fun r j q => by revert q; simp [dyX, dzX]; omega)
theorem sp_daysN_s (b : Nat) : ∀ (n : Nat) {t : hy_T}, st_ok b t → st_ok b (sp_daysN b n t) ∧ hy_F (dzX b) t (sp_daysN b n t) ∧ sp_daysN b n t b 3 ≤ t b 3
  | 0, t, h => ⟨h, hy_F.rf, Int.le_refl _⟩
  | n + 1, t, h => by
    have hc := h.c
    simp only [sp_daysN]
    split
    · next h4 =>
      obtain ⟨a1, a2, a3⟩ := sp_dayN_s b (t b 3).toNat (i := 0) h (by omega) (by omega)
      obtain ⟨b1, b2⟩ := st_next_ok h h4
      obtain ⟨c1, c2, c3⟩ := sp_daysN_s b n b1
      exact ⟨c1, ((dzX_dy a2).up (by simp [dzX])).tr' c2, by omega⟩
    · exact ⟨h, hy_F.rf, Int.le_refl _⟩
theorem sp_days_s (b : Nat) {t : hy_T} (h : st_ok b t) (n : Int) : st_ok b (sp_days b t n) ∧ hy_F (dzX b) t (sp_days b t n) ∧ sp_days b t n b 3 ≤ t b 3 := by
  have h0 : st_ok b (hy_up (hy_up t b 6 (-2)) b 7 (-2)) := by
    refine ⟨by simpa [hy_up] using h.c, by simpa [hy_up] using h.d, by simpa [hy_up] using h.w, fun j hj => ?_⟩
    have := h.t j hj
    simpa [hy_up] using this
  obtain ⟨a1, a2, a3⟩ := sp_daysN_s b n.toNat h0
  exact ⟨a1, ((hy_F.rf.up (by simp [dzX])).up (by simp [dzX])).tr' a2, by unfold sp_days; simpa [hy_up] using a3⟩
abbrev trX : Nat → Nat → Bool := fun r _ => r == 17 || r == 18 || r == 41 || r == 42 || r == 43 || r == 44
theorem sp_scopy41_F (t : hy_T) : hy_F trX t (sp_scopy t 33 41) := by
  intro r j q
  simp only [trX, Bool.or_eq_false_iff, beq_eq_false_iff_ne] at q
  simp only [sp_scopy, hy_up, hy_cp]
  repeat (rw [if_neg (by omega)])
theorem sp_scopy41_ok {t : hy_T} (h : st_ok 33 t) : st_ok 41 (sp_scopy t 33 41) := by
  refine ⟨h.c, h.d, h.w, fun j hj => ?_⟩
  have := h.t j hj
  simpa [sp_scopy, hy_up, hy_cp, hj] using this
theorem lc_ok_tr {t t1 : hy_T} (h : hy_F trX t t1) (hk : lc_ok t) : lc_ok t1 := lc_ok_same (lc_same_of h (fun r j q => by revert q; simp [lawX, trX]; omega)) hk
abbrev wf_w10 (w : Int) : Int := (Int32.ofInt (w - 10)).toInt
abbrev wf_tryable (t : hy_T) (n w : Int) : Prop := (1 ≤ n ∧ n ≤ 99) ∧ ((0 ≤ w ∧ w < 3) ∨ wf_plain t (wf_w10 w) = true)
def wf_told (p : hy_T) (n w : Int) : Int :=
  if w = 0 then p 41 3 - sp_days 41 p n 41 3 else if w = 1 then sp_days 41 p n 41 6 else if w = 2 then sp_days 41 p n 41 7 else sp_qh (sp_days 41 p n 42) (wf_w10 w) 4
def wf_tried (t : hy_T) (n w : Int) : Int := if wf_tryable t n w then wf_told (sp_scopy t 33 41) n w else -1
section WCC
variable {sc : List Int32} {t : hy_T}
theorem c_D_twos : hy_Ct sc hm_D_twos 0 [.inr (some 49)] t (hy_e (some (t 49 6)) t) := by
  refine hy_mk_ct ok_D_twos ck_D_twos (Nat.le_of_ble_eq_true rfl) ?_
  refine hy_aload (i := 0) rfl rfl ?_
  refine hy_get (i := 1) (fk := 6) rfl rfl rfl ?_
  refine hy_ireturn (i := 2) rfl rfl ?_
  exact ⟨rfl, rfl⟩
theorem c_D_firstOfA : hy_Ct sc hm_D_firstOfA 0 [.inr (some 49)] t (hy_e (some (t 49 7)) t) := by
  refine hy_mk_ct ok_D_firstOfA ck_D_firstOfA (Nat.le_of_ble_eq_true rfl) ?_
  refine hy_aload (i := 0) rfl rfl ?_
  refine hy_get (i := 1) (fk := 7) rfl rfl rfl ?_
  refine hy_ireturn (i := 2) rfl rfl ?_
  exact ⟨rfl, rfl⟩
theorem c_D_firstOfB : hy_Ct sc hm_D_firstOfB 0 [.inr (some 49)] t (hy_e (some (t 49 8)) t) := by
  refine hy_mk_ct ok_D_firstOfB ck_D_firstOfB (Nat.le_of_ble_eq_true rfl) ?_
  refine hy_aload (i := 0) rfl rfl ?_
  refine hy_get (i := 1) (fk := 8) rfl rfl rfl ?_
  refine hy_ireturn (i := 2) rfl rfl ?_
  exact ⟨rfl, rfl⟩
theorem c_W_tried {n w : Int} (hs : st_ok 33 t) (hk : lc_ok t) : hy_Ct sc hm_W_tried 6 [.inr (some 2), .inl n, .inl w] t (fun r t' => r = some (wf_tried t n w) ∧ hy_F trX t t') := by
  refine hy_mk_ct ok_W_tried ck_W_tried (Nat.le_of_ble_eq_true rfl) ?_
  have hs1 := sp_scopy41_ok hs
  have hF0 := sp_scopy41_F t
  have hk1 := lc_ok_tr hF0 hk
  by_cases hq : wf_tryable t n w
  · have ea : wf_tried t n w = wf_told (sp_scopy t 33 41) n w := if_pos hq
    rw [ea]
    have fin : ∀ v3 : hy_V, hy_W sc hm_W_tried 6 18 [.inr (some 2), .inl n, .inl w, v3, .inr none] [] t (fun r t' => r = some (wf_told (sp_scopy t 33 41) n w) ∧ hy_F trX t t') := by
      intro v3
      have hG : hy_F trX t (sp_days 41 (sp_scopy t 33 41) n) := hF0.tr' ((sp_days_s 41 hs1 n).2.1.w (fun r j q => by revert q; simp [trX, dzX]; omega))
      refine hy_aload (i := 18) rfl rfl ?_
      refine hy_getr (i := 19) rfl rfl ?_
      refine hy_aload (i := 20) rfl rfl ?_
      refine hy_getr (i := 21) rfl rfl ?_
      refine hy_cV1v (i := 22) rfl mj_S_copyFrom (by decide) rfl (Nat.le_of_ble_eq_true rfl) rfl rfl rfl (c_S_copyFrom_33_41) ?_
      refine hy_aload (i := 23) rfl rfl ?_
      refine hy_getr (i := 24) rfl rfl ?_
      refine hy_aload (i := 25) rfl rfl ?_
      refine hy_getr (i := 26) rfl rfl ?_
      refine hy_iload (i := 27) rfl rfl ?_
      refine hy_cV2 (i := 28) rfl mj_S_goBy (by decide) rfl (Nat.le_of_ble_eq_true rfl) rfl rfl rfl (c_S_goBy_41 (by omega) hs1 hk1) (fun r2_ t2_ h2 => ?_)
      obtain ⟨rfl, hF2⟩ := h2
      dsimp only [hy_st, List.cons_append, List.nil_append]
      refine hy_istore (i := 29) rfl ?_
      refine hy_iload (i := 30) rfl rfl ?_
      by_cases zq1 : w = 0
      · refine hy_tsw (i := 31) (tt := 32) rfl (by rw [zq1]; rfl) ?_
        refine hy_iload (i := 32) rfl rfl ?_
        refine hy_ireturn (i := 33) rfl rfl ?_
        refine ⟨congrArg some ?_, hG.tr' (hF2.w (fun r j q => by revert q; simp [trX, eX]; omega))⟩
        unfold wf_told
        rw [if_pos (by assumption)]
      · skip
        by_cases zq1 : w = 1
        · refine hy_tsw (i := 31) (tt := 34) rfl (by rw [zq1]; rfl) ?_
          refine hy_aload (i := 34) rfl rfl ?_
          refine hy_getr (i := 35) rfl rfl ?_
          refine hy_cV0e (i := 36) rfl mj_S_firstBreakDay (by decide) rfl (Nat.le_of_ble_eq_true rfl) rfl rfl rfl (c_S_firstBreakDay_41) ?_
          refine hy_ireturn (i := 37) rfl rfl ?_
          refine ⟨congrArg some ?_, hG.tr' (hF2.w (fun r j q => by revert q; simp [trX, eX]; omega))⟩
          unfold wf_told
          rw [if_neg (by omega), if_pos (by assumption)]
          exact hF2 41 6 rfl
        · skip
          by_cases zq1 : w = 2
          · refine hy_tsw (i := 31) (tt := 38) rfl (by rw [zq1]; rfl) ?_
            refine hy_aload (i := 38) rfl rfl ?_
            refine hy_getr (i := 39) rfl rfl ?_
            refine hy_cV0e (i := 40) rfl mj_S_firstBreaker (by decide) rfl (Nat.le_of_ble_eq_true rfl) rfl rfl rfl (c_S_firstBreaker_41) ?_
            refine hy_ireturn (i := 41) rfl rfl ?_
            refine ⟨congrArg some ?_, hG.tr' (hF2.w (fun r j q => by revert q; simp [trX, eX]; omega))⟩
            unfold wf_told
            rw [if_neg (by omega), if_neg (by omega), if_pos (by assumption)]
            exact hF2 41 7 rfl
          · skip
            refine hy_tsw (i := 31) (tt := 42) rfl (by rcases (show w < 0 ∨ 2 < w by omega) with hh | hh <;> first | (rw [if_pos (by omega)]; rfl) | (rw [hh]; rfl)) ?_
            refine hy_aload (i := 42) rfl rfl ?_
            refine hy_getr (i := 43) rfl rfl ?_
            refine hy_iload (i := 44) rfl rfl ?_
            refine hy_const (i := 45) rfl (by decide) ?_
            refine hy_isubw (i := 46) rfl ?_
            refine hy_cV1e (i := 47) rfl mj_S_quartersHad (by decide) rfl (Nat.le_of_ble_eq_true rfl) rfl rfl rfl (c_S_quartersHad_41) ?_
            refine hy_ireturn (i := 48) rfl rfl ?_
            refine ⟨congrArg some ?_, hG.tr' (hF2.w (fun r j q => by revert q; simp [trX, eX]; omega))⟩
            unfold wf_told
            rw [if_neg (by omega), if_neg (by omega), if_neg (by omega), show t2_ 42 = sp_days 41 (sp_scopy t 33 41) n 42 from funext fun j => hF2 42 j rfl]
    refine hy_aload (i := 0) rfl rfl ?_
    refine hy_getr (i := 1) rfl rfl ?_
    refine hy_iload (i := 2) rfl rfl ?_
    refine hy_const (i := 3) rfl (by decide) ?_
    refine hy_isubw (i := 4) rfl ?_
    refine hy_cV1e (i := 5) rfl mj_P_isPlain (by decide) rfl (Nat.le_of_ble_eq_true rfl) rfl rfl rfl (c_P_isPlain) ?_
    refine hy_istore (i := 6) rfl ?_
    refine hy_iload (i := 7) rfl rfl ?_
    refine hy_cS1e (i := 8) rfl (by decide) mj_W_isDays (by decide) rfl (Nat.le_of_ble_eq_true rfl) (c_W_isDays) ?_
    refine hy_ib_eq (i := 9) (tt := 16) rfl (fun zc1 => ?_) (fun zc1 => ?_)
    · simp at zc1; omega
    · refine hy_iload (i := 10) rfl rfl ?_
      refine hy_const (i := 11) rfl (by decide) ?_
      refine hy_cS2e (i := 12) rfl (by decide) mj_W_isAmong (by decide) rfl (Nat.le_of_ble_eq_true rfl) (c_W_isAmong) ?_
      refine hy_ib_ne (i := 13) (tt := 18) rfl (fun zc2 => ?_) (fun zc2 => ?_)
      · exact fin _
      · refine hy_iload (i := 14) rfl rfl ?_
        refine hy_ib_ne (i := 15) (tt := 18) rfl (fun zc3 => ?_) (fun zc3 => ?_)
        · exact fin _
        · exfalso; rcases hq.2 with h | h
          · simp at zc2; omega
          · simp_all
  · have ea : wf_tried t n w = -1 := if_neg hq
    rw [ea]
    refine hy_aload (i := 0) rfl rfl ?_
    refine hy_getr (i := 1) rfl rfl ?_
    refine hy_iload (i := 2) rfl rfl ?_
    refine hy_const (i := 3) rfl (by decide) ?_
    refine hy_isubw (i := 4) rfl ?_
    refine hy_cV1e (i := 5) rfl mj_P_isPlain (by decide) rfl (Nat.le_of_ble_eq_true rfl) rfl rfl rfl (c_P_isPlain) ?_
    refine hy_istore (i := 6) rfl ?_
    refine hy_iload (i := 7) rfl rfl ?_
    refine hy_cS1e (i := 8) rfl (by decide) mj_W_isDays (by decide) rfl (Nat.le_of_ble_eq_true rfl) (c_W_isDays) ?_
    refine hy_ib_eq (i := 9) (tt := 16) rfl (fun zc1 => ?_) (fun zc1 => ?_)
    · refine hy_const (i := 16) rfl (by decide) ?_
      refine hy_ireturn (i := 17) rfl rfl ?_
      exact ⟨rfl, hy_F.rf⟩
    · refine hy_iload (i := 10) rfl rfl ?_
      refine hy_const (i := 11) rfl (by decide) ?_
      refine hy_cS2e (i := 12) rfl (by decide) mj_W_isAmong (by decide) rfl (Nat.le_of_ble_eq_true rfl) (c_W_isAmong) ?_
      refine hy_ib_ne (i := 13) (tt := 18) rfl (fun zc2 => ?_) (fun zc2 => ?_)
      · exfalso; simp at zc1 zc2; exact hq ⟨zc1, .inl zc2⟩
      · refine hy_iload (i := 14) rfl rfl ?_
        refine hy_ib_ne (i := 15) (tt := 18) rfl (fun zc3 => ?_) (fun zc3 => ?_)
        · exfalso; simp only [decide_eq_true_eq] at zc1; exact hq ⟨zc1, .inr zc3⟩
        · refine hy_const (i := 16) rfl (by decide) ?_
          refine hy_ireturn (i := 17) rfl rfl ?_
          exact ⟨rfl, hy_F.rf⟩
def wf_paintN (t : hy_T) (cs : Int) : Nat → Int × Int
  | 0 => (0, -2)
  | n + 1 => if hz_iand cs (hz_ixor (sp_seen t ((n : Int) / 4) ((n : Int) % 4)) (-1)) = 0 then ((wf_paintN t cs n).1 + 1, if (wf_paintN t cs n).2 < 0 then (n : Int) else (wf_paintN t cs n).2) else wf_paintN t cs n
theorem wf_paintN_in (t : hy_T) (cs : Int) : ∀ n : Nat, (0 ≤ (wf_paintN t cs n).1 ∧ (wf_paintN t cs n).1 ≤ n) ∧ -2 ≤ (wf_paintN t cs n).2 ∧ (wf_paintN t cs n).2 < n + 0
  | 0 => by simp [wf_paintN]
  | n + 1 => by
    have h := wf_paintN_in t cs n
    by_cases hc : hz_iand cs (hz_ixor (sp_seen t ((n : Int) / 4) ((n : Int) % 4)) (-1)) = 0
    · simp only [wf_paintN, if_pos hc]
      refine ⟨by omega, ?_⟩
      split <;> omega
    · simp only [wf_paintN, if_neg hc]
      omega
def wf_painting (t : hy_T) (cs w : Int) : Int :=
  if hz_iand cs (hz_ixor (t 5 2) (-1)) = 0 ∧ 0 ≤ w ∧ w < 3 then (let p := wf_paintN t cs 24; if w = 0 then p.1 else if p.2 < 0 then -2 else if w = 1 then p.2 / 4 else p.2 % 4) else -1
theorem c_W_painting {cs w : Int} (hk : lc_ok t) : hy_Ct sc hm_W_painting 5 [.inr (some 2), .inl cs, .inl w] t (fun r t' => r = some (wf_painting t cs w) ∧ hy_F eX t t') := by
  refine hy_mk_ct ok_W_painting ck_W_painting (Nat.le_of_ble_eq_true rfl) ?_
  by_cases hq : hz_iand cs (hz_ixor (t 5 2) (-1)) = 0 ∧ 0 ≤ w ∧ w < 3
  · have ea : wf_painting t cs w = if w = 0 then (wf_paintN t cs 24).1 else if (wf_paintN t cs 24).2 < 0 then -2 else if w = 1 then (wf_paintN t cs 24).2 / 4 else (wf_paintN t cs 24).2 % 4 := if_pos hq
    rw [ea]
    have loop : ∀ (m : Nat), ∀ (k : Nat) (t1 : hy_T) (a b : Int), m + k = 24 → hy_F eX t t1 → a = (wf_paintN t cs k).1 → b = (wf_paintN t cs k).2 → hy_W sc hm_W_painting 5 17 [.inr (some 2), .inl cs, .inl w, .inl a, .inl b, .inl (k : Int)] [] t1 (fun r t' => r = some (if w = 0 then (wf_paintN t cs 24).1 else if (wf_paintN t cs 24).2 < 0 then -2 else if w = 1 then (wf_paintN t cs 24).2 / 4 else (wf_paintN t cs 24).2 % 4) ∧ hy_F eX t t') := by
      intro m
      induction m with
      | zero =>
        intro k t1 a b hm hF ha hb
        obtain rfl : k = 24 := by omega
        rw [← ha, ← hb]
        refine hy_iload (i := 17) rfl rfl ?_
        refine hy_const (i := 18) rfl (by decide) ?_
        refine hy_ic_ge (i := 19) (tt := 43) rfl (fun zc1 => ?_) (fun zc1 => ?_)
        · refine hy_iload (i := 43) rfl rfl ?_
          refine hy_if_eq (i := 44) (tt := 47) rfl (fun zc2 => ?_) (fun zc2 => ?_)
          · refine hy_iload (i := 47) rfl rfl ?_
            refine hy_if_ne (i := 48) (tt := 51) rfl (fun zc3 => ?_) (fun zc3 => ?_)
            · refine hy_const (i := 51) rfl (by decide) ?_
              refine hy_ireturn (i := 52) rfl rfl ?_
              refine ⟨congrArg some ?_, hF⟩
              first | (rw [if_pos (by omega)]; done) | (rw [if_neg (by omega), if_pos (by omega)]; done) | (rw [if_neg (by omega), if_neg (by omega), if_pos (by omega)]; done) | (rw [if_neg (by omega), if_neg (by omega), if_neg (by omega)]; done)
            · refine hy_iload (i := 49) rfl rfl ?_
              refine hy_goto (i := 50) (tt := 52) rfl ?_
              refine hy_ireturn (i := 52) rfl rfl ?_
              refine ⟨congrArg some ?_, hF⟩
              first | (rw [if_pos (by omega)]; done) | (rw [if_neg (by omega), if_pos (by omega)]; done) | (rw [if_neg (by omega), if_neg (by omega), if_pos (by omega)]; done) | (rw [if_neg (by omega), if_neg (by omega), if_neg (by omega)]; done)
          · refine hy_iload (i := 45) rfl rfl ?_
            refine hy_if_ge (i := 46) (tt := 53) rfl (fun zc3 => ?_) (fun zc3 => ?_)
            · refine hy_iload (i := 53) rfl rfl ?_
              refine hy_const (i := 54) rfl (by decide) ?_
              refine hy_ic_ne (i := 55) (tt := 60) rfl (fun zc4 => ?_) (fun zc4 => ?_)
              · refine hy_iload (i := 60) rfl rfl ?_
                refine hy_const (i := 61) rfl (by decide) ?_
                refine hy_irem (i := 62) rfl (by omega) (by omega) ?_
                refine hy_ireturn (i := 63) rfl rfl ?_
                refine ⟨congrArg some ?_, hF⟩
                first | (rw [if_pos (by omega)]; done) | (rw [if_neg (by omega), if_pos (by omega)]; done) | (rw [if_neg (by omega), if_neg (by omega), if_pos (by omega)]; done) | (rw [if_neg (by omega), if_neg (by omega), if_neg (by omega)]; done)
              · refine hy_iload (i := 56) rfl rfl ?_
                refine hy_const (i := 57) rfl (by decide) ?_
                refine hy_idiv (i := 58) rfl (by omega) (by omega) ?_
                refine hy_goto (i := 59) (tt := 63) rfl ?_
                refine hy_ireturn (i := 63) rfl rfl ?_
                refine ⟨congrArg some ?_, hF⟩
                first | (rw [if_pos (by omega)]; done) | (rw [if_neg (by omega), if_pos (by omega)]; done) | (rw [if_neg (by omega), if_neg (by omega), if_pos (by omega)]; done) | (rw [if_neg (by omega), if_neg (by omega), if_neg (by omega)]; done)
            · refine hy_iload (i := 47) rfl rfl ?_
              refine hy_if_ne (i := 48) (tt := 51) rfl (fun zc4 => ?_) (fun zc4 => ?_)
              · refine hy_const (i := 51) rfl (by decide) ?_
                refine hy_ireturn (i := 52) rfl rfl ?_
                refine ⟨congrArg some ?_, hF⟩
                first | (rw [if_pos (by omega)]; done) | (rw [if_neg (by omega), if_pos (by omega)]; done) | (rw [if_neg (by omega), if_neg (by omega), if_pos (by omega)]; done) | (rw [if_neg (by omega), if_neg (by omega), if_neg (by omega)]; done)
              · refine hy_iload (i := 49) rfl rfl ?_
                refine hy_goto (i := 50) (tt := 52) rfl ?_
                refine hy_ireturn (i := 52) rfl rfl ?_
                refine ⟨congrArg some ?_, hF⟩
                first | (rw [if_pos (by omega)]; done) | (rw [if_neg (by omega), if_pos (by omega)]; done) | (rw [if_neg (by omega), if_neg (by omega), if_pos (by omega)]; done) | (rw [if_neg (by omega), if_neg (by omega), if_neg (by omega)]; done)
        · omega
      | succ m ih =>
        intro k t1 a b hm hF ha hb
        have hin := wf_paintN_in t cs k
        have hk1 := lc_ok_same (eX_law hF) hk
        by_cases hc : hz_iand cs (hz_ixor (sp_seen t ((k : Int) / 4) ((k : Int) % 4)) (-1)) = 0
        · have e1 : (wf_paintN t cs (k + 1)).1 = a + 1 := by simp only [wf_paintN]; rw [if_pos hc, ha]
          by_cases hb0 : b < 0
          · have e2 : (wf_paintN t cs (k + 1)).2 = k := by simp only [wf_paintN]; rw [if_pos hc]; dsimp only; rw [← hb, if_pos hb0]
            refine hy_iload (i := 17) rfl rfl ?_
            refine hy_const (i := 18) rfl (by decide) ?_
            refine hy_ic_ge (i := 19) (tt := 43) rfl (fun zc1 => ?_) (fun zc1 => ?_)
            · omega
            · refine hy_iload (i := 20) rfl rfl ?_
              refine hy_aload (i := 21) rfl rfl ?_
              refine hy_getr (i := 22) rfl rfl ?_
              refine hy_iload (i := 23) rfl rfl ?_
              refine hy_const (i := 24) rfl (by decide) ?_
              refine hy_idiv (i := 25) rfl (by omega) (by omega) ?_
              refine hy_iload (i := 26) rfl rfl ?_
              refine hy_const (i := 27) rfl (by decide) ?_
              refine hy_irem (i := 28) rfl (by omega) (by omega) ?_
              refine hy_cV2 (i := 29) rfl mj_E_seen (by decide) rfl (Nat.le_of_ble_eq_true rfl) rfl rfl rfl (c_E_seen hk1) (fun r1_ t1_ h1 => ?_)
              obtain ⟨rfl, hF1⟩ := h1
              dsimp only [hy_st, List.cons_append, List.nil_append]
              rw [sp_seen_F hF]
              have hG := hF.tr' hF1
              refine hy_const (i := 30) rfl (by decide) ?_
              refine hy_ixor (i := 31) rfl ?_
              refine hy_iand (i := 32) rfl ?_
              refine hy_if_ne (i := 33) (tt := 41) rfl (fun zc2 => ?_) (fun zc2 => ?_)
              · exact absurd hc (by assumption)
              · refine hy_iinc (i := 34) rfl rfl (by omega) ?_
                refine hy_iload (i := 35) rfl rfl ?_
                refine hy_if_ge (i := 36) (tt := 39) rfl (fun zc3 => ?_) (fun zc3 => ?_)
                · omega
                · refine hy_iload (i := 37) rfl rfl ?_
                  refine hy_goto (i := 38) (tt := 40) rfl ?_
                  refine hy_istore (i := 40) rfl ?_
                  refine hy_iinc (i := 41) rfl rfl (by omega) ?_
                  refine hy_goto (i := 42) (tt := 17) rfl ?_
                  exact ih (k + 1) _ _ _ (by omega) hG e1.symm e2.symm
          · have e2 : (wf_paintN t cs (k + 1)).2 = b := by simp only [wf_paintN]; rw [if_pos hc]; dsimp only; rw [← hb, if_neg hb0]
            refine hy_iload (i := 17) rfl rfl ?_
            refine hy_const (i := 18) rfl (by decide) ?_
            refine hy_ic_ge (i := 19) (tt := 43) rfl (fun zc1 => ?_) (fun zc1 => ?_)
            · omega
            · refine hy_iload (i := 20) rfl rfl ?_
              refine hy_aload (i := 21) rfl rfl ?_
              refine hy_getr (i := 22) rfl rfl ?_
              refine hy_iload (i := 23) rfl rfl ?_
              refine hy_const (i := 24) rfl (by decide) ?_
              refine hy_idiv (i := 25) rfl (by omega) (by omega) ?_
              refine hy_iload (i := 26) rfl rfl ?_
              refine hy_const (i := 27) rfl (by decide) ?_
              refine hy_irem (i := 28) rfl (by omega) (by omega) ?_
              refine hy_cV2 (i := 29) rfl mj_E_seen (by decide) rfl (Nat.le_of_ble_eq_true rfl) rfl rfl rfl (c_E_seen hk1) (fun r1_ t1_ h1 => ?_)
              obtain ⟨rfl, hF1⟩ := h1
              dsimp only [hy_st, List.cons_append, List.nil_append]
              rw [sp_seen_F hF]
              have hG := hF.tr' hF1
              refine hy_const (i := 30) rfl (by decide) ?_
              refine hy_ixor (i := 31) rfl ?_
              refine hy_iand (i := 32) rfl ?_
              refine hy_if_ne (i := 33) (tt := 41) rfl (fun zc2 => ?_) (fun zc2 => ?_)
              · exact absurd hc (by assumption)
              · refine hy_iinc (i := 34) rfl rfl (by omega) ?_
                refine hy_iload (i := 35) rfl rfl ?_
                refine hy_if_ge (i := 36) (tt := 39) rfl (fun zc3 => ?_) (fun zc3 => ?_)
                · refine hy_iload (i := 39) rfl rfl ?_
                  refine hy_istore (i := 40) rfl ?_
                  refine hy_iinc (i := 41) rfl rfl (by omega) ?_
                  refine hy_goto (i := 42) (tt := 17) rfl ?_
                  exact ih (k + 1) _ _ _ (by omega) hG e1.symm e2.symm
                · omega
        · have e : wf_paintN t cs (k + 1) = wf_paintN t cs k := by simp only [wf_paintN]; rw [if_neg hc]
          refine hy_iload (i := 17) rfl rfl ?_
          refine hy_const (i := 18) rfl (by decide) ?_
          refine hy_ic_ge (i := 19) (tt := 43) rfl (fun zc1 => ?_) (fun zc1 => ?_)
          · omega
          · refine hy_iload (i := 20) rfl rfl ?_
            refine hy_aload (i := 21) rfl rfl ?_
            refine hy_getr (i := 22) rfl rfl ?_
            refine hy_iload (i := 23) rfl rfl ?_
            refine hy_const (i := 24) rfl (by decide) ?_
            refine hy_idiv (i := 25) rfl (by omega) (by omega) ?_
            refine hy_iload (i := 26) rfl rfl ?_
            refine hy_const (i := 27) rfl (by decide) ?_
            refine hy_irem (i := 28) rfl (by omega) (by omega) ?_
            refine hy_cV2 (i := 29) rfl mj_E_seen (by decide) rfl (Nat.le_of_ble_eq_true rfl) rfl rfl rfl (c_E_seen hk1) (fun r1_ t1_ h1 => ?_)
            obtain ⟨rfl, hF1⟩ := h1
            dsimp only [hy_st, List.cons_append, List.nil_append]
            rw [sp_seen_F hF]
            have hG := hF.tr' hF1
            refine hy_const (i := 30) rfl (by decide) ?_
            refine hy_ixor (i := 31) rfl ?_
            refine hy_iand (i := 32) rfl ?_
            refine hy_if_ne (i := 33) (tt := 41) rfl (fun zc2 => ?_) (fun zc2 => ?_)
            · refine hy_iinc (i := 41) rfl rfl (by omega) ?_
              refine hy_goto (i := 42) (tt := 17) rfl ?_
              exact ih (k + 1) _ _ _ (by omega) hG (by rw [e, ha]) (by rw [e, hb])
            · exact absurd (by first | assumption | omega) hc
    refine hy_aload (i := 0) rfl rfl ?_
    refine hy_getr (i := 1) rfl rfl ?_
    refine hy_iload (i := 2) rfl rfl ?_
    refine hy_cV1e (i := 3) rfl mj_P_areTold (by decide) rfl (Nat.le_of_ble_eq_true rfl) rfl rfl rfl (c_P_areTold) ?_
    refine hy_ib_eq (i := 4) (tt := 9) rfl (fun zc1 => ?_) (fun zc1 => ?_)
    · simp at zc1; omega
    · refine hy_iload (i := 5) rfl rfl ?_
      refine hy_const (i := 6) rfl (by decide) ?_
      refine hy_cS2e (i := 7) rfl (by decide) mj_W_isAmong (by decide) rfl (Nat.le_of_ble_eq_true rfl) (c_W_isAmong) ?_
      refine hy_ib_ne (i := 8) (tt := 11) rfl (fun zc2 => ?_) (fun zc2 => ?_)
      · refine hy_const (i := 11) rfl (by decide) ?_
        refine hy_istore (i := 12) rfl ?_
        refine hy_const (i := 13) rfl (by decide) ?_
        refine hy_istore (i := 14) rfl ?_
        refine hy_const (i := 15) rfl (by decide) ?_
        refine hy_istore (i := 16) rfl ?_
        exact loop 24 0 t _ _ rfl hy_F.rf rfl rfl
      · simp at zc2; omega
  · have ea : wf_painting t cs w = -1 := if_neg hq
    rw [ea]
    refine hy_aload (i := 0) rfl rfl ?_
    refine hy_getr (i := 1) rfl rfl ?_
    refine hy_iload (i := 2) rfl rfl ?_
    refine hy_cV1e (i := 3) rfl mj_P_areTold (by decide) rfl (Nat.le_of_ble_eq_true rfl) rfl rfl rfl (c_P_areTold) ?_
    refine hy_ib_eq (i := 4) (tt := 9) rfl (fun zc1 => ?_) (fun zc1 => ?_)
    · refine hy_const (i := 9) rfl (by decide) ?_
      refine hy_ireturn (i := 10) rfl rfl ?_
      exact ⟨rfl, hy_F.rf⟩
    · refine hy_iload (i := 5) rfl rfl ?_
      refine hy_const (i := 6) rfl (by decide) ?_
      refine hy_cS2e (i := 7) rfl (by decide) mj_W_isAmong (by decide) rfl (Nat.le_of_ble_eq_true rfl) (c_W_isAmong) ?_
      refine hy_ib_ne (i := 8) (tt := 11) rfl (fun zc2 => ?_) (fun zc2 => ?_)
      · exfalso; simp at zc1 zc2; exact hq ⟨zc1, zc2⟩
      · refine hy_const (i := 9) rfl (by decide) ?_
        refine hy_ireturn (i := 10) rfl rfl ?_
        exact ⟨rfl, hy_F.rf⟩
/-- the battle's twos, where no one has anything -/
theorem c_W_battle0 {a b q w : Int} (hk : lc_ok t) (h0 : ∀ e, sp_hadN (t 34) e q 12 = 0) : hy_Ct sc hm_W_battle 6 [.inr (some 2), .inl a, .inl b, .inl q, .inl w] t (fun r t' => r = some (if (((0 ≤ a ∧ a < 6) ∧ 0 ≤ b ∧ b < 6) ∧ a ≠ b) ∧ (0 ≤ q ∧ q < 4) ∧ 0 ≤ w ∧ w < 3 then (if w = 0 then 0 else -2) else -1) ∧ hy_F fX t t') := by
  refine hy_mk_ct ok_W_battle ck_W_battle (Nat.le_of_ble_eq_true rfl) ?_
  by_cases hq : (((0 ≤ a ∧ a < 6) ∧ 0 ≤ b ∧ b < 6) ∧ a ≠ b) ∧ (0 ≤ q ∧ q < 4) ∧ 0 ≤ w ∧ w < 3
  · rw [if_pos hq]
    have nog : ∀ (t2 : hy_T), t2 49 4 = 0 → ∀ n : Nat, dl_twos t2 n = 0 := by
      intro t2 h4 n
      induction n with
      | zero => rfl
      | succ n ih =>
        simp only [dl_twos]
        rw [if_neg (by
          unfold dl_good dl_chosen
          rw [h4, show ∀ x, hz_iand 0 x = 0 from fun x => by unfold hz_iand; rw [show Int32.ofInt 0 = 0 from rfl, Int32.zero_and]; rfl]
          simp)]
        exact ih
    refine hy_iload (i := 0) rfl rfl ?_
    refine hy_cS1e (i := 1) rfl (by decide) mj_W_isEmpire (by decide) rfl (Nat.le_of_ble_eq_true rfl) (c_W_isEmpire) ?_
    refine hy_ib_eq (i := 2) (tt := 16) rfl (fun zc1 => ?_) (fun zc1 => ?_)
    · simp at zc1; omega
    · refine hy_iload (i := 3) rfl rfl ?_
      refine hy_cS1e (i := 4) rfl (by decide) mj_W_isEmpire (by decide) rfl (Nat.le_of_ble_eq_true rfl) (c_W_isEmpire) ?_
      refine hy_ib_eq (i := 5) (tt := 16) rfl (fun zc2 => ?_) (fun zc2 => ?_)
      · simp at zc2; omega
      · refine hy_iload (i := 6) rfl rfl ?_
        refine hy_iload (i := 7) rfl rfl ?_
        refine hy_ic_eq (i := 8) (tt := 16) rfl (fun zc3 => ?_) (fun zc3 => ?_)
        · omega
        · refine hy_iload (i := 9) rfl rfl ?_
          refine hy_cS1e (i := 10) rfl (by decide) mj_W_isQuarter (by decide) rfl (Nat.le_of_ble_eq_true rfl) (c_W_isQuarter) ?_
          refine hy_ib_eq (i := 11) (tt := 16) rfl (fun zc4 => ?_) (fun zc4 => ?_)
          · simp at zc4; omega
          · refine hy_iload (i := 12) rfl rfl ?_
            refine hy_const (i := 13) rfl (by decide) ?_
            refine hy_cS2e (i := 14) rfl (by decide) mj_W_isAmong (by decide) rfl (Nat.le_of_ble_eq_true rfl) (c_W_isAmong) ?_
            refine hy_ib_ne (i := 15) (tt := 18) rfl (fun zc5 => ?_) (fun zc5 => ?_)
            · refine hy_aload (i := 18) rfl rfl ?_
              refine hy_getr (i := 19) rfl rfl ?_
              refine hy_iload (i := 20) rfl rfl ?_
              refine hy_iload (i := 21) rfl rfl ?_
              refine hy_iload (i := 22) rfl rfl ?_
              refine hy_cV3 (i := 23) rfl mj_D_fight (by decide) rfl (Nat.le_of_ble_eq_true rfl) rfl rfl rfl (c_D_fight hk) (fun r5_ t5_ h5 => ?_)
              obtain ⟨rfl, hF5, t2, e4, e5, hw, w6, w7, w8⟩ := h5
              dsimp only [hy_st, List.nil_append]
              rw [h0, show hz_iand 0 (hz_ixor (sp_hadN (t 34) a q 12) (-1)) = 0 by unfold hz_iand; rw [show Int32.ofInt 0 = 0 from rfl, Int32.zero_and]; rfl] at e4
              have hn := nog t2 e4 144
              have hf := (dl_first_none t2 144).mpr hn
              rw [hn] at w6
              rw [hf] at w7 w8
              refine hy_iload (i := 24) rfl rfl ?_
              by_cases zq6 : w = 0
              · refine hy_lsw (i := 25) (tt := 26) rfl (by rw [zq6]; rfl) ?_
                refine hy_aload (i := 26) rfl rfl ?_
                refine hy_getr (i := 27) rfl rfl ?_
                refine hy_cV0e (i := 28) rfl mj_D_twos (by decide) rfl (Nat.le_of_ble_eq_true rfl) rfl rfl rfl (c_D_twos) ?_
                refine hy_ireturn (i := 29) rfl rfl ?_
                exact ⟨by rw [if_pos (by assumption)]; exact congrArg some w6, hF5⟩
              · skip
                by_cases zq6 : w = 1
                · refine hy_lsw (i := 25) (tt := 30) rfl (by rw [zq6]; rfl) ?_
                  refine hy_aload (i := 30) rfl rfl ?_
                  refine hy_getr (i := 31) rfl rfl ?_
                  refine hy_cV0e (i := 32) rfl mj_D_firstOfA (by decide) rfl (Nat.le_of_ble_eq_true rfl) rfl rfl rfl (c_D_firstOfA) ?_
                  refine hy_ireturn (i := 33) rfl rfl ?_
                  exact ⟨by rw [if_neg (by omega)]; exact congrArg some w7, hF5⟩
                · skip
                  refine hy_lsw (i := 25) (tt := 34) rfl (by simp [hx_look]; omega) ?_
                  refine hy_aload (i := 34) rfl rfl ?_
                  refine hy_getr (i := 35) rfl rfl ?_
                  refine hy_cV0e (i := 36) rfl mj_D_firstOfB (by decide) rfl (Nat.le_of_ble_eq_true rfl) rfl rfl rfl (c_D_firstOfB) ?_
                  refine hy_ireturn (i := 37) rfl rfl ?_
                  exact ⟨by rw [if_neg (by omega)]; exact congrArg some w8, hF5⟩
            · simp at zc5; omega
  · rw [if_neg hq]
    refine hy_iload (i := 0) rfl rfl ?_
    refine hy_cS1e (i := 1) rfl (by decide) mj_W_isEmpire (by decide) rfl (Nat.le_of_ble_eq_true rfl) (c_W_isEmpire) ?_
    refine hy_ib_eq (i := 2) (tt := 16) rfl (fun zc1 => ?_) (fun zc1 => ?_)
    · refine hy_const (i := 16) rfl (by decide) ?_
      refine hy_ireturn (i := 17) rfl rfl ?_
      exact ⟨rfl, hy_F.rf⟩
    · refine hy_iload (i := 3) rfl rfl ?_
      refine hy_cS1e (i := 4) rfl (by decide) mj_W_isEmpire (by decide) rfl (Nat.le_of_ble_eq_true rfl) (c_W_isEmpire) ?_
      refine hy_ib_eq (i := 5) (tt := 16) rfl (fun zc2 => ?_) (fun zc2 => ?_)
      · refine hy_const (i := 16) rfl (by decide) ?_
        refine hy_ireturn (i := 17) rfl rfl ?_
        exact ⟨rfl, hy_F.rf⟩
      · refine hy_iload (i := 6) rfl rfl ?_
        refine hy_iload (i := 7) rfl rfl ?_
        refine hy_ic_eq (i := 8) (tt := 16) rfl (fun zc3 => ?_) (fun zc3 => ?_)
        · refine hy_const (i := 16) rfl (by decide) ?_
          refine hy_ireturn (i := 17) rfl rfl ?_
          exact ⟨rfl, hy_F.rf⟩
        · refine hy_iload (i := 9) rfl rfl ?_
          refine hy_cS1e (i := 10) rfl (by decide) mj_W_isQuarter (by decide) rfl (Nat.le_of_ble_eq_true rfl) (c_W_isQuarter) ?_
          refine hy_ib_eq (i := 11) (tt := 16) rfl (fun zc4 => ?_) (fun zc4 => ?_)
          · refine hy_const (i := 16) rfl (by decide) ?_
            refine hy_ireturn (i := 17) rfl rfl ?_
            exact ⟨rfl, hy_F.rf⟩
          · refine hy_iload (i := 12) rfl rfl ?_
            refine hy_const (i := 13) rfl (by decide) ?_
            refine hy_cS2e (i := 14) rfl (by decide) mj_W_isAmong (by decide) rfl (Nat.le_of_ble_eq_true rfl) (c_W_isAmong) ?_
            refine hy_ib_ne (i := 15) (tt := 18) rfl (fun zc5 => ?_) (fun zc5 => ?_)
            · exfalso; simp at zc1 zc2 zc4 zc5; exact hq ⟨⟨⟨zc1, zc2⟩, zc3⟩, zc4, zc5⟩
            · refine hy_const (i := 16) rfl (by decide) ?_
              refine hy_ireturn (i := 17) rfl rfl ?_
              exact ⟨rfl, hy_F.rf⟩
end WCC
