/-! the class's lines: a line, and all of them -/
theorem hz_08 : (0 : Int) ≤ 0 ∧ (0 : Int) ≤ 8 := by decide
abbrev lnX : Nat → Nat → Bool := fun r j => (r == 3 && (j == 2 || j == 3 || j == 4)) || r == 28 || r == 29 || r == 30 || r == 31 || r == 32 || (r == 27 && j == 6)
theorem lnX_tp {t t1 : hy_T} (h : hy_F tpX t t1) : hy_F lnX t t1 := h.w (fun r j q => by revert q; simp [tpX, lnX]; omega)
def rd_g2 (t : hy_T) : hy_T := tp_take (hy_up (rd_colour t).1 28 (t 27 6).toNat (rd_colour t).2) 64
def rd_g3 (t : hy_T) : hy_T := hy_up (rd_quarters t).1 29 (t 27 6).toNat (rd_quarters t).2
def rd_g4 (t : hy_T) : hy_T := hy_up (rd_sign t).1 30 (t 27 6).toNat (rd_sign t).2
def rd_g5 (t : hy_T) : hy_T := hy_up (rd_empire t (-1)).1 31 (t 27 6).toNat (rd_empire t (-1)).2
def rd_g6 (t : hy_T) : hy_T := hy_up (hy_up (rd_empire t (t 31 (t 27 6).toNat)).1 32 (t 27 6).toNat (rd_empire t (t 31 (t 27 6).toNat)).2) 27 6 (t 27 6 + 1)
def rd_line (t : hy_T) : hy_T :=
  if 48 ≤ tp_next t ∧ tp_next t ≤ 57 then
    (if t 27 6 < 8 then rd_g6 (rd_g5 (rd_g4 (rd_g3 (rd_g2 t)))) else tp_fail t 4 (t 3 3))
  else tp_fail t 1 (t 3 3)
theorem tp_ok_up {t : hy_T} (h : tp_ok t) {r j : Nat} {v : Int} (hr : (r == 3 || r == 4) = false) : tp_ok (hy_up t r j v) :=
  tp_ok_F (X := fun x _ => x == r) (hy_F.rf.up (by simp)) (fun _ => by simp at hr ⊢; omega) (fun _ => by simp at hr ⊢; omega) h
theorem rd_g2_s {t : hy_T} (h : tp_ok t) : tp_ok (rd_g2 t) ∧ hy_F lnX t (rd_g2 t) ∧ rd_g2 t 27 6 = t 27 6 := by
  obtain ⟨h1, h2⟩ := rd_colour_s h
  refine ⟨tp_take_ok (tp_ok_up h1 rfl) (by decide), ((lnX_tp h2).up rfl).tr' (lnX_tp (tp_take_F _ _)), ?_⟩
  show tp_take (hy_up (rd_colour t).1 28 (t 27 6).toNat (rd_colour t).2) 64 27 6 = _
  rw [tp_take_F _ _ 27 6 rfl]
  exact h2 27 6 rfl
theorem rd_g3_s {t : hy_T} (h : tp_ok t) : tp_ok (rd_g3 t) ∧ hy_F lnX t (rd_g3 t) ∧ rd_g3 t 27 6 = t 27 6 := by
  obtain ⟨h1, h2⟩ := rd_quartersN_s 5 (b := 0) h
  exact ⟨tp_ok_up h1 rfl, (lnX_tp h2).up rfl, h2 27 6 rfl⟩
theorem rd_g4_s {t : hy_T} (h : tp_ok t) : tp_ok (rd_g4 t) ∧ hy_F lnX t (rd_g4 t) ∧ rd_g4 t 27 6 = t 27 6 := by
  obtain ⟨h1, h2⟩ := rd_sign_s h
  exact ⟨tp_ok_up h1 rfl, (lnX_tp h2).up rfl, h2 27 6 rfl⟩
theorem rd_g5_s {t : hy_T} (h : tp_ok t) : tp_ok (rd_g5 t) ∧ hy_F lnX t (rd_g5 t) ∧ rd_g5 t 27 6 = t 27 6 := by
  obtain ⟨h1, h2⟩ := rd_empire_s h (-1)
  exact ⟨tp_ok_up h1 rfl, (lnX_tp h2).up rfl, h2 27 6 rfl⟩
theorem rd_g6_s {t : hy_T} (h : tp_ok t) : tp_ok (rd_g6 t) ∧ hy_F lnX t (rd_g6 t) ∧ rd_g6 t 27 6 = t 27 6 + 1 := by
  obtain ⟨h1, h2⟩ := rd_empire_s h (t 31 (t 27 6).toNat)
  exact ⟨tp_ok_up (tp_ok_up h1 rfl) rfl, ((lnX_tp h2).up rfl).up rfl, rfl⟩
theorem rd_line_s {t : hy_T} (h : tp_ok t) (hl : 0 ≤ t 27 6 ∧ t 27 6 ≤ 8) : tp_ok (rd_line t) ∧ hy_F lnX t (rd_line t) ∧ 0 ≤ rd_line t 27 6 ∧ rd_line t 27 6 ≤ 8 := by
  unfold rd_line
  split
  · split
    · obtain ⟨a1, a2, a3⟩ := rd_g2_s h
      obtain ⟨b1, b2, b3⟩ := rd_g3_s a1
      obtain ⟨c1, c2, c3⟩ := rd_g4_s b1
      obtain ⟨d1, d2, d3⟩ := rd_g5_s c1
      obtain ⟨e1, e2, e3⟩ := rd_g6_s d1
      exact ⟨e1, (((a2.tr' b2).tr' c2).tr' d2).tr' e2, by omega, by omega⟩
    · have f := tp_fail_G t 4 (t 3 3)
      exact ⟨tp_fail_ok h _ _, lnX_tp f, by rw [f 27 6 rfl]; exact hl.1, by rw [f 27 6 rfl]; exact hl.2⟩
  · have f := tp_fail_G t 1 (t 3 3)
    exact ⟨tp_fail_ok h _ _, lnX_tp f, by rw [f 27 6 rfl]; exact hl.1, by rw [f 27 6 rfl]; exact hl.2⟩
def rd_linesN : Nat → hy_T → hy_T
  | 0, t => t
  | n + 1, t => if tp_next t = 44 then rd_linesN n (rd_line (tp_step t)) else t
def tp_start (t : hy_T) (n : Int) : hy_T := hy_up (hy_up (hy_up t 3 2 (if t 3 1 < n then t 3 1 else n)) 3 3 0) 3 4 0
def rd_lines (t : hy_T) (n : Int) : hy_T := tp_finish (rd_linesN 8 (rd_line (hy_up (tp_start t n) 27 6 0)))
theorem tp_start_ok {t : hy_T} (h : tp_ok t) (n : Int) : tp_ok (tp_start t n) := by
  have h1 := h.l
  refine ⟨h.b, h.l, ?_, by simp [tp_start, hy_up]⟩
  show (if t 3 1 < n then t 3 1 else n) ≤ 260
  split <;> omega
theorem rd_linesN_s : ∀ (n : Nat) {t : hy_T}, tp_ok t → (0 ≤ t 27 6 ∧ t 27 6 ≤ 8) → tp_ok (rd_linesN n t) ∧ hy_F lnX t (rd_linesN n t) ∧ 0 ≤ rd_linesN n t 27 6 ∧ rd_linesN n t 27 6 ≤ 8
  | 0, t, h, hl => ⟨h, hy_F.rf, hl⟩
  | n + 1, t, h, hl => by
    simp only [rd_linesN]
    split
    · obtain ⟨a1, a2, a3⟩ := rd_line_s (tp_step_ok h (by omega)) (show 0 ≤ tp_step t 27 6 ∧ tp_step t 27 6 ≤ 8 from hl)
      obtain ⟨b1, b2, b3⟩ := rd_linesN_s n a1 a3
      exact ⟨b1, ((lnX_tp (tp_step_F t)).tr' a2).tr' b2, b3⟩
    · exact ⟨h, hy_F.rf, hl⟩
theorem rd_lines_s {t : hy_T} (h : tp_ok t) (n : Int) : tp_ok (rd_lines t n) ∧ hy_F lnX t (rd_lines t n) ∧ 0 ≤ rd_lines t n 27 6 ∧ rd_lines t n 27 6 ≤ 8 := by
  obtain ⟨a1, a2, a3⟩ := rd_line_s (t := hy_up (tp_start t n) 27 6 0) (tp_ok_up (tp_start_ok h n) rfl) hz_08
  obtain ⟨b1, b2, b3⟩ := rd_linesN_s 8 a1 a3
  have f := tp_finish_F (rd_linesN 8 (rd_line (hy_up (tp_start t n) 27 6 0)))
  refine ⟨tp_finish_ok b1, ((((((hy_F.rf.up rfl).up rfl).up rfl).up rfl : hy_F lnX t (hy_up (tp_start t n) 27 6 0)).tr' a2).tr' b2).tr' (lnX_tp f), ?_⟩
  unfold rd_lines
  rw [f 27 6 rfl]
  exact b3
section RM
variable {sc : List Int32} {t : hy_T}
theorem c_N_readLine (h : tp_ok t) (hl : 0 ≤ t 27 6 ∧ t 27 6 ≤ 8) : hy_Ct sc hm_N_readLine 3 [.inr (some 27)] t (hy_e none (rd_line t)) := by
  refine hy_mk_ct ok_N_readLine ck_N_readLine (Nat.le_of_ble_eq_true rfl) ?_
  have s6 : ∀ t1 : hy_T, tp_ok t1 → (0 ≤ t1 27 6 ∧ t1 27 6 < 8) → rd_g6 t1 = rd_line t → hy_W sc hm_N_readLine 3 52 [.inr (some 27)] [] t1 (hy_e none (rd_line t)) := by
    intro t1 h1 hl1 he
    rw [← he]
    have hE : ∀ v, hy_up (rd_empire t1 (t1 31 (t1 27 6).toNat)).1 32 (t1 27 6).toNat v 27 6 = t1 27 6 := fun v => (rd_empire_s h1 _).2 27 6 rfl
    refine hy_aload (i := 52) rfl rfl ?_
    refine hy_getr (i := 53) rfl rfl ?_
    refine hy_aload (i := 54) rfl rfl ?_
    refine hy_get (i := 55) (fk := 6) rfl rfl rfl ?_
    refine hy_aload (i := 56) rfl rfl ?_
    refine hy_aload (i := 57) rfl rfl ?_
    refine hy_getr (i := 58) rfl rfl ?_
    refine hy_aload (i := 59) rfl rfl ?_
    refine hy_get (i := 60) (fk := 6) rfl rfl rfl ?_
    refine hy_iald (i := 61) rfl rfl (by omega) rfl ?_
    refine hy_cV1e (i := 62) rfl mj_N_readEmpire (by decide) rfl (Nat.le_of_ble_eq_true rfl) rfl rfl rfl (c_N_readEmpire (by assumption)) ?_
    refine hy_iast (i := 63) rfl rfl (by omega) rfl ?_
    refine hy_aload (i := 64) rfl rfl ?_
    refine hy_dup (i := 65) rfl ?_
    refine hy_get (i := 66) (fk := 6) rfl rfl rfl ?_
    refine hy_const (i := 67) rfl (by decide) ?_
    rw [hE]
    refine hy_iadd (i := 68) rfl (by omega) ?_
    refine hy_put (i := 69) (fk := 6) rfl rfl rfl rfl ?_
    refine hy_return (i := 70) rfl rfl ?_
    exact ⟨rfl, rfl⟩
  have s5 : ∀ t1 : hy_T, tp_ok t1 → (0 ≤ t1 27 6 ∧ t1 27 6 < 8) → rd_g6 (rd_g5 t1) = rd_line t → hy_W sc hm_N_readLine 3 44 [.inr (some 27)] [] t1 (hy_e none (rd_line t)) := by
    intro t1 h1 hl1 he
    obtain ⟨a1, a2, a3⟩ := rd_g5_s h1
    refine hy_aload (i := 44) rfl rfl ?_
    refine hy_getr (i := 45) rfl rfl ?_
    refine hy_aload (i := 46) rfl rfl ?_
    refine hy_get (i := 47) (fk := 6) rfl rfl rfl ?_
    refine hy_aload (i := 48) rfl rfl ?_
    refine hy_const (i := 49) rfl (by decide) ?_
    refine hy_cV1e (i := 50) rfl mj_N_readEmpire (by decide) rfl (Nat.le_of_ble_eq_true rfl) rfl rfl rfl (c_N_readEmpire (by assumption)) ?_
    refine hy_iast (i := 51) rfl rfl (by omega) rfl ?_
    exact s6 (rd_g5 t1) a1 (by omega) he
  have s4 : ∀ t1 : hy_T, tp_ok t1 → (0 ≤ t1 27 6 ∧ t1 27 6 < 8) → rd_g6 (rd_g5 (rd_g4 t1)) = rd_line t → hy_W sc hm_N_readLine 3 37 [.inr (some 27)] [] t1 (hy_e none (rd_line t)) := by
    intro t1 h1 hl1 he
    obtain ⟨a1, a2, a3⟩ := rd_g4_s h1
    refine hy_aload (i := 37) rfl rfl ?_
    refine hy_getr (i := 38) rfl rfl ?_
    refine hy_aload (i := 39) rfl rfl ?_
    refine hy_get (i := 40) (fk := 6) rfl rfl rfl ?_
    refine hy_aload (i := 41) rfl rfl ?_
    refine hy_cV0e (i := 42) rfl mj_N_readSign (by decide) rfl (Nat.le_of_ble_eq_true rfl) rfl rfl rfl (c_N_readSign (by assumption)) ?_
    refine hy_iast (i := 43) rfl rfl (by omega) rfl ?_
    exact s5 (rd_g4 t1) a1 (by omega) he
  have s3 : ∀ t1 : hy_T, tp_ok t1 → (0 ≤ t1 27 6 ∧ t1 27 6 < 8) → rd_g6 (rd_g5 (rd_g4 (rd_g3 t1))) = rd_line t → hy_W sc hm_N_readLine 3 30 [.inr (some 27)] [] t1 (hy_e none (rd_line t)) := by
    intro t1 h1 hl1 he
    obtain ⟨a1, a2, a3⟩ := rd_g3_s h1
    refine hy_aload (i := 30) rfl rfl ?_
    refine hy_getr (i := 31) rfl rfl ?_
    refine hy_aload (i := 32) rfl rfl ?_
    refine hy_get (i := 33) (fk := 6) rfl rfl rfl ?_
    refine hy_aload (i := 34) rfl rfl ?_
    refine hy_cV0e (i := 35) rfl mj_N_readQuarters (by decide) rfl (Nat.le_of_ble_eq_true rfl) rfl rfl rfl (c_N_readQuarters (by assumption)) ?_
    refine hy_iast (i := 36) rfl rfl (by omega) rfl ?_
    exact s4 (rd_g3 t1) a1 (by omega) he
  have hc1 : tp_ok (hy_up (rd_colour t).1 28 (t 27 6).toNat (rd_colour t).2) := tp_ok_up (rd_colour_s h).1 rfl
  obtain ⟨a1, a2, a3⟩ := rd_g2_s h
  refine hy_aload (i := 0) rfl rfl ?_
  refine hy_getr (i := 1) rfl rfl ?_
  refine hy_cV0e (i := 2) rfl mj_T_next (by decide) rfl (Nat.le_of_ble_eq_true rfl) rfl rfl rfl (c_T_next (tp_ok.e (by assumption))) ?_
  refine hy_cS1e (i := 3) rfl (by decide) mj_W_isDigit (by decide) rfl (Nat.le_of_ble_eq_true rfl) (c_W_isDigit) ?_
  refine hy_ib_ne (i := 4) (tt := 10) rfl (fun zc1 => ?_) (fun zc1 => ?_)
  · refine hy_aload (i := 10) rfl rfl ?_
    refine hy_get (i := 11) (fk := 6) rfl rfl rfl ?_
    refine hy_const (i := 12) rfl (by decide) ?_
    refine hy_ic_lt (i := 13) (tt := 19) rfl (fun zc2 => ?_) (fun zc2 => ?_)
    · refine hy_aload (i := 19) rfl rfl ?_
      refine hy_getr (i := 20) rfl rfl ?_
      refine hy_aload (i := 21) rfl rfl ?_
      refine hy_get (i := 22) (fk := 6) rfl rfl rfl ?_
      refine hy_aload (i := 23) rfl rfl ?_
      refine hy_cV0e (i := 24) rfl mj_N_readColour (by decide) rfl (Nat.le_of_ble_eq_true rfl) rfl rfl rfl (c_N_readColour (by assumption)) ?_
      refine hy_iast (i := 25) rfl rfl (by omega) rfl ?_
      refine hy_aload (i := 26) rfl rfl ?_
      refine hy_getr (i := 27) rfl rfl ?_
      refine hy_const (i := 28) rfl (by decide) ?_
      refine hy_cV1v (i := 29) rfl mj_T_take (by decide) rfl (Nat.le_of_ble_eq_true rfl) rfl rfl rfl (c_T_take hc1.e (by have := hc1.p; omega)) ?_
      exact s3 (rd_g2 t) a1 (by omega) (by simp at zc1; unfold rd_line; rw [if_pos zc1, if_pos (by omega)])
    · refine hy_aload (i := 14) rfl rfl ?_
      refine hy_getr (i := 15) rfl rfl ?_
      refine hy_const (i := 16) rfl (by decide) ?_
      refine hy_cV1v (i := 17) rfl mj_T_fail (by decide) rfl (Nat.le_of_ble_eq_true rfl) rfl rfl rfl (c_T_fail (by decide) (by have := tp_ok.p (by assumption); omega)) ?_
      refine hy_return (i := 18) rfl rfl ?_
      refine ⟨rfl, ?_⟩
      simp at zc1
      unfold rd_line
      first | (rw [if_neg (show ¬ (48 ≤ tp_next t ∧ tp_next t ≤ 57) by omega)]; done) | (rw [if_pos (show 48 ≤ tp_next t ∧ tp_next t ≤ 57 by omega), if_neg (by omega)]; done)
  · refine hy_aload (i := 5) rfl rfl ?_
    refine hy_getr (i := 6) rfl rfl ?_
    refine hy_const (i := 7) rfl (by decide) ?_
    refine hy_cV1v (i := 8) rfl mj_T_fail (by decide) rfl (Nat.le_of_ble_eq_true rfl) rfl rfl rfl (c_T_fail (by decide) (by have := tp_ok.p (by assumption); omega)) ?_
    refine hy_return (i := 9) rfl rfl ?_
    refine ⟨rfl, ?_⟩
    simp at zc1
    unfold rd_line
    first | (rw [if_neg (show ¬ (48 ≤ tp_next t ∧ tp_next t ≤ 57) by omega)]; done) | (rw [if_pos (show 48 ≤ tp_next t ∧ tp_next t ≤ 57 by omega), if_neg (by omega)]; done)
theorem c_N_read {n : Int} (h : tp_ok t) : hy_Ct sc hm_N_read 4 [.inr (some 27), .inl n] t (hy_e (some (rd_lines t n 3 4)) (rd_lines t n)) := by
  refine hy_mk_ct ok_N_read ck_N_read (Nat.le_of_ble_eq_true rfl) ?_
  have loop : ∀ (m : Nat), ∀ (k : Nat) (t1 : hy_T), m + k = 8 → tp_ok t1 → (0 ≤ t1 27 6 ∧ t1 27 6 ≤ 8) → tp_finish (rd_linesN m t1) = rd_lines t n → hy_W sc hm_N_read 4 11 [.inr (some 27), .inl n, .inl (k : Int)] [] t1 (hy_e (some (rd_lines t n 3 4)) (rd_lines t n)) := by
    intro m
    induction m with
    | zero =>
      intro k t1 hn h1 hl1 he
      obtain rfl : k = 8 := by omega
      rw [← he]
      refine hy_iload (i := 11) rfl rfl ?_
      refine hy_const (i := 12) rfl (by decide) ?_
      refine hy_ic_ge (i := 13) (tt := 26) rfl (fun zc1 => ?_) (fun zc1 => ?_)
      · refine hy_aload (i := 26) rfl rfl ?_
        refine hy_getr (i := 27) rfl rfl ?_
        refine hy_cV0v (i := 28) rfl mj_T_finish (by decide) rfl (Nat.le_of_ble_eq_true rfl) rfl rfl rfl (c_T_finish (by have := tp_ok.p (by assumption); omega)) ?_
        refine hy_aload (i := 29) rfl rfl ?_
        refine hy_getr (i := 30) rfl rfl ?_
        refine hy_cV0e (i := 31) rfl mj_T_fault (by decide) rfl (Nat.le_of_ble_eq_true rfl) rfl rfl rfl (c_T_fault) ?_
        refine hy_ireturn (i := 32) rfl rfl ?_
        exact ⟨rfl, rfl⟩
      · omega
    | succ m ih =>
      intro k t1 hn h1 hl1 he
      by_cases hd : tp_next t1 = 44
      · obtain ⟨a1, a2, a3⟩ := rd_line_s (tp_step_ok h1 (by omega)) (show 0 ≤ tp_step t1 27 6 ∧ tp_step t1 27 6 ≤ 8 from hl1)
        have e : rd_linesN (m + 1) t1 = rd_linesN m (rd_line (tp_step t1)) := by simp only [rd_linesN]; rw [if_pos hd]
        rw [e] at he
        refine hy_iload (i := 11) rfl rfl ?_
        refine hy_const (i := 12) rfl (by decide) ?_
        refine hy_ic_ge (i := 13) (tt := 26) rfl (fun zc1 => ?_) (fun zc1 => ?_)
        · omega
        · refine hy_aload (i := 14) rfl rfl ?_
          refine hy_getr (i := 15) rfl rfl ?_
          refine hy_cV0e (i := 16) rfl mj_T_next (by decide) rfl (Nat.le_of_ble_eq_true rfl) rfl rfl rfl (c_T_next (tp_ok.e (by assumption))) ?_
          refine hy_const (i := 17) rfl (by decide) ?_
          refine hy_ic_ne (i := 18) (tt := 26) rfl (fun zc2 => ?_) (fun zc2 => ?_)
          · omega
          · refine hy_aload (i := 19) rfl rfl ?_
            refine hy_getr (i := 20) rfl rfl ?_
            refine hy_cV0v (i := 21) rfl mj_T_step (by decide) rfl (Nat.le_of_ble_eq_true rfl) rfl rfl rfl (c_T_step (by have := tp_ok.p (by assumption); omega)) ?_
            refine hy_aload (i := 22) rfl rfl ?_
            refine hy_cV0v (i := 23) rfl mj_N_readLine (by decide) rfl (Nat.le_of_ble_eq_true rfl) rfl rfl rfl (c_N_readLine (tp_step_ok h1 (by omega)) hl1) ?_
            refine hy_iinc (i := 24) rfl rfl (by omega) ?_
            refine hy_goto (i := 25) (tt := 11) rfl ?_
            exact ih (k + 1) _ (by omega) a1 a3 he
      · have e : rd_linesN (m + 1) t1 = t1 := by simp only [rd_linesN]; rw [if_neg hd]
        rw [e] at he
        rw [← he]
        refine hy_iload (i := 11) rfl rfl ?_
        refine hy_const (i := 12) rfl (by decide) ?_
        refine hy_ic_ge (i := 13) (tt := 26) rfl (fun zc1 => ?_) (fun zc1 => ?_)
        · omega
        · refine hy_aload (i := 14) rfl rfl ?_
          refine hy_getr (i := 15) rfl rfl ?_
          refine hy_cV0e (i := 16) rfl mj_T_next (by decide) rfl (Nat.le_of_ble_eq_true rfl) rfl rfl rfl (c_T_next (tp_ok.e (by assumption))) ?_
          refine hy_const (i := 17) rfl (by decide) ?_
          refine hy_ic_ne (i := 18) (tt := 26) rfl (fun zc2 => ?_) (fun zc2 => ?_)
          · refine hy_aload (i := 26) rfl rfl ?_
            refine hy_getr (i := 27) rfl rfl ?_
            refine hy_cV0v (i := 28) rfl mj_T_finish (by decide) rfl (Nat.le_of_ble_eq_true rfl) rfl rfl rfl (c_T_finish (by have := tp_ok.p (by assumption); omega)) ?_
            refine hy_aload (i := 29) rfl rfl ?_
            refine hy_getr (i := 30) rfl rfl ?_
            refine hy_cV0e (i := 31) rfl mj_T_fault (by decide) rfl (Nat.le_of_ble_eq_true rfl) rfl rfl rfl (c_T_fault) ?_
            refine hy_ireturn (i := 32) rfl rfl ?_
            exact ⟨rfl, rfl⟩
          · omega
  have h0 : tp_ok (hy_up (tp_start t n) 27 6 0) := tp_ok_up (tp_start_ok h n) rfl
  obtain ⟨a1, a2, a3⟩ := rd_line_s h0 hz_08
  refine hy_aload (i := 0) rfl rfl ?_
  refine hy_getr (i := 1) rfl rfl ?_
  refine hy_iload (i := 2) rfl rfl ?_
  refine hy_cV1v (i := 3) rfl mj_T_start (by decide) rfl (Nat.le_of_ble_eq_true rfl) rfl rfl rfl (c_T_start) ?_
  refine hy_aload (i := 4) rfl rfl ?_
  refine hy_const (i := 5) rfl (by decide) ?_
  refine hy_put (i := 6) (fk := 6) rfl rfl rfl rfl ?_
  refine hy_aload (i := 7) rfl rfl ?_
  refine hy_cV0v (i := 8) rfl mj_N_readLine (by decide) rfl (Nat.le_of_ble_eq_true rfl) rfl rfl rfl (c_N_readLine h0 hz_08) ?_
  refine hy_const (i := 9) rfl (by decide) ?_
  refine hy_istore (i := 10) rfl ?_
  exact loop 8 0 _ rfl a1 a3 rfl
end RM
