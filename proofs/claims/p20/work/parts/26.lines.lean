/-! the class's lines, as they are read -/
def rd_colourN : Nat → hy_T → Int → hy_T × Int
  | 0, t, c => (t, c)
  | n + 1, t, c => if 48 ≤ tp_next t ∧ tp_next t ≤ 57 then rd_colourN n (tp_step t) (10 * c + tp_next t - 48) else (t, c)
def rd_colour (t : hy_T) : hy_T × Int := (if (rd_colourN 2 t 0).2 < 12 then (rd_colourN 2 t 0).1 else tp_fail (rd_colourN 2 t 0).1 3 (t 3 3), (rd_colourN 2 t 0).2)
def rd_quartersE (t : hy_T) (b : Int) : hy_T × Int := (if b = 0 then tp_fail t 1 (t 3 3) else t, b)
def rd_quartersN : Nat → hy_T → Int → hy_T × Int
  | 0, t, b => rd_quartersE t b
  | n + 1, t, b => if 0 ≤ tp_next t - 48 ∧ tp_next t - 48 < 4 then (if hz_ishr b (tp_next t - 48) = 0 then rd_quartersN n (tp_step t) (hz_ior b (hz_ishl 1 (tp_next t - 48))) else (tp_fail t 6 (t 3 3), b)) else rd_quartersE t b
def rd_quarters (t : hy_T) : hy_T × Int := rd_quartersN 5 t 0
def rd_sign (t : hy_T) : hy_T × Int := if tp_next t = 62 ∨ tp_next t = 43 then (tp_step t, tp_next t) else (tp_fail t 1 (t 3 3), 0)
def rd_empire (t : hy_T) (a : Int) : hy_T × Int :=
  (if 48 ≤ tp_next t ∧ tp_next t ≤ 57 then
    (if 0 ≤ tp_next t - 48 ∧ tp_next t - 48 < 6 then (if tp_next t - 48 = a then tp_fail t 6 (t 3 3) else tp_step t) else tp_fail t 3 (t 3 3))
   else tp_fail t 1 (t 3 3), tp_next t - 48)
theorem rd_colourN_s : ∀ (n : Nat) {t : hy_T} {c m : Int}, tp_ok t → (0 ≤ c ∧ c ≤ m) → tp_ok (rd_colourN n t c).1 ∧ hy_F tpX t (rd_colourN n t c).1 ∧ 0 ≤ (rd_colourN n t c).2
  | 0, t, c, m, h, hc => ⟨h, hy_F.rf, hc.1⟩
  | n + 1, t, c, m, h, hc => by
    simp only [rd_colourN]
    split
    · obtain ⟨h1, h2, h3⟩ := rd_colourN_s n (c := 10 * c + tp_next t - 48) (m := 10 * c + tp_next t - 48) (tp_step_ok h (by omega)) (by omega)
      exact ⟨h1, (tp_step_F t).tr' h2, h3⟩
    · exact ⟨h, hy_F.rf, hc.1⟩
theorem rd_colour_s {t : hy_T} (h : tp_ok t) : tp_ok (rd_colour t).1 ∧ hy_F tpX t (rd_colour t).1 := by
  obtain ⟨h1, h2, h3⟩ := rd_colourN_s 2 (c := 0) (m := 0) h (by decide)
  unfold rd_colour
  dsimp only
  split
  · exact ⟨h1, h2⟩
  · exact ⟨tp_fail_ok h1 _ _, h2.tr' (tp_fail_G _ _ _)⟩
theorem rd_quartersE_s {t : hy_T} (h : tp_ok t) (b : Int) : tp_ok (rd_quartersE t b).1 ∧ hy_F tpX t (rd_quartersE t b).1 := by
  unfold rd_quartersE
  dsimp only
  split
  · exact ⟨tp_fail_ok h _ _, tp_fail_G _ _ _⟩
  · exact ⟨h, hy_F.rf⟩
theorem rd_quartersN_s : ∀ (n : Nat) {t : hy_T} {b : Int}, tp_ok t → tp_ok (rd_quartersN n t b).1 ∧ hy_F tpX t (rd_quartersN n t b).1
  | 0, t, b, h => rd_quartersE_s h b
  | n + 1, t, b, h => by
    simp only [rd_quartersN]
    split
    · split
      · obtain ⟨h1, h2⟩ := rd_quartersN_s n (b := hz_ior b (hz_ishl 1 (tp_next t - 48))) (tp_step_ok h (by omega))
        exact ⟨h1, (tp_step_F t).tr' h2⟩
      · exact ⟨tp_fail_ok h _ _, tp_fail_G _ _ _⟩
    · exact rd_quartersE_s h b
theorem rd_sign_s {t : hy_T} (h : tp_ok t) : tp_ok (rd_sign t).1 ∧ hy_F tpX t (rd_sign t).1 := by
  unfold rd_sign
  split
  · exact ⟨tp_step_ok h (by omega), tp_step_F t⟩
  · exact ⟨tp_fail_ok h _ _, tp_fail_G _ _ _⟩
theorem rd_empire_s {t : hy_T} (h : tp_ok t) (a : Int) : tp_ok (rd_empire t a).1 ∧ hy_F tpX t (rd_empire t a).1 := by
  unfold rd_empire
  dsimp only
  split
  · split
    · split
      · exact ⟨tp_fail_ok h _ _, tp_fail_G _ _ _⟩
      · exact ⟨tp_step_ok h (by omega), tp_step_F t⟩
    · exact ⟨tp_fail_ok h _ _, tp_fail_G _ _ _⟩
  · exact ⟨tp_fail_ok h _ _, tp_fail_G _ _ _⟩
section RL
variable {sc : List Int32} {t : hy_T}
theorem c_N_readSign (h : tp_ok t) : hy_Ct sc hm_N_readSign 1 [.inr (some 27)] t (hy_e (some (rd_sign t).2) (rd_sign t).1) := by
  refine hy_mk_ct ok_N_readSign ck_N_readSign (Nat.le_of_ble_eq_true rfl) ?_
  have hn := tp_next_in h
  have hp := h.p
  refine hy_aload (i := 0) rfl rfl ?_
  refine hy_getr (i := 1) rfl rfl ?_
  refine hy_cV0e (i := 2) rfl mj_T_next (by decide) rfl (Nat.le_of_ble_eq_true rfl) rfl rfl rfl (c_T_next (tp_ok.e (by assumption))) ?_
  refine hy_istore (i := 3) rfl ?_
  refine hy_iload (i := 4) rfl rfl ?_
  refine hy_const (i := 5) rfl (by decide) ?_
  refine hy_ic_eq (i := 6) (tt := 16) rfl (fun zc1 => ?_) (fun zc1 => ?_)
  · refine hy_aload (i := 16) rfl rfl ?_
    refine hy_getr (i := 17) rfl rfl ?_
    refine hy_cV0v (i := 18) rfl mj_T_step (by decide) rfl (Nat.le_of_ble_eq_true rfl) rfl rfl rfl (c_T_step (by have := tp_ok.p (by assumption); omega)) ?_
    refine hy_iload (i := 19) rfl rfl ?_
    refine hy_ireturn (i := 20) rfl rfl ?_
    unfold rd_sign
    first | (rw [if_pos (by omega)]; exact ⟨rfl, rfl⟩) | (rw [if_neg (by omega)]; exact ⟨rfl, rfl⟩)
  · refine hy_iload (i := 7) rfl rfl ?_
    refine hy_const (i := 8) rfl (by decide) ?_
    refine hy_ic_eq (i := 9) (tt := 16) rfl (fun zc2 => ?_) (fun zc2 => ?_)
    · refine hy_aload (i := 16) rfl rfl ?_
      refine hy_getr (i := 17) rfl rfl ?_
      refine hy_cV0v (i := 18) rfl mj_T_step (by decide) rfl (Nat.le_of_ble_eq_true rfl) rfl rfl rfl (c_T_step (by have := tp_ok.p (by assumption); omega)) ?_
      refine hy_iload (i := 19) rfl rfl ?_
      refine hy_ireturn (i := 20) rfl rfl ?_
      unfold rd_sign
      first | (rw [if_pos (by omega)]; exact ⟨rfl, rfl⟩) | (rw [if_neg (by omega)]; exact ⟨rfl, rfl⟩)
    · refine hy_aload (i := 10) rfl rfl ?_
      refine hy_getr (i := 11) rfl rfl ?_
      refine hy_const (i := 12) rfl (by decide) ?_
      refine hy_cV1v (i := 13) rfl mj_T_fail (by decide) rfl (Nat.le_of_ble_eq_true rfl) rfl rfl rfl (c_T_fail (by decide) (by have := tp_ok.p (by assumption); omega)) ?_
      refine hy_const (i := 14) rfl (by decide) ?_
      refine hy_ireturn (i := 15) rfl rfl ?_
      unfold rd_sign
      first | (rw [if_pos (by omega)]; exact ⟨rfl, rfl⟩) | (rw [if_neg (by omega)]; exact ⟨rfl, rfl⟩)
theorem c_N_readEmpire {a : Int} (h : tp_ok t) : hy_Ct sc hm_N_readEmpire 2 [.inr (some 27), .inl a] t (hy_e (some (rd_empire t a).2) (rd_empire t a).1) := by
  refine hy_mk_ct ok_N_readEmpire ck_N_readEmpire (Nat.le_of_ble_eq_true rfl) ?_
  have hn := tp_next_in h
  have hp := h.p
  refine hy_aload (i := 0) rfl rfl ?_
  refine hy_getr (i := 1) rfl rfl ?_
  refine hy_cV0e (i := 2) rfl mj_T_next (by decide) rfl (Nat.le_of_ble_eq_true rfl) rfl rfl rfl (c_T_next (tp_ok.e (by assumption))) ?_
  refine hy_istore (i := 3) rfl ?_
  refine hy_iload (i := 4) rfl rfl ?_
  refine hy_const (i := 5) rfl (by decide) ?_
  refine hy_isub (i := 6) rfl (by omega) ?_
  refine hy_istore (i := 7) rfl ?_
  refine hy_iload (i := 8) rfl rfl ?_
  refine hy_cS1e (i := 9) rfl (by decide) mj_W_isDigit (by decide) rfl (Nat.le_of_ble_eq_true rfl) (c_W_isDigit) ?_
  refine hy_ib_ne (i := 10) (tt := 16) rfl (fun zc1 => ?_) (fun zc1 => ?_)
  · refine hy_iload (i := 16) rfl rfl ?_
    refine hy_cS1e (i := 17) rfl (by decide) mj_W_isEmpire (by decide) rfl (Nat.le_of_ble_eq_true rfl) (c_W_isEmpire) ?_
    refine hy_ib_ne (i := 18) (tt := 24) rfl (fun zc2 => ?_) (fun zc2 => ?_)
    · refine hy_iload (i := 24) rfl rfl ?_
      refine hy_iload (i := 25) rfl rfl ?_
      refine hy_ic_ne (i := 26) (tt := 32) rfl (fun zc3 => ?_) (fun zc3 => ?_)
      · refine hy_aload (i := 32) rfl rfl ?_
        refine hy_getr (i := 33) rfl rfl ?_
        refine hy_cV0v (i := 34) rfl mj_T_step (by decide) rfl (Nat.le_of_ble_eq_true rfl) rfl rfl rfl (c_T_step (by have := tp_ok.p (by assumption); omega)) ?_
        refine hy_iload (i := 35) rfl rfl ?_
        refine hy_ireturn (i := 36) rfl rfl ?_
        refine ⟨rfl, ?_⟩
        simp at zc1
        show _ = (rd_empire t a).1
        unfold rd_empire
        dsimp only
        first | (rw [if_neg (by omega)]; done) | (simp at zc2; rw [if_pos (by omega)]; first | (rw [if_neg (by omega)]; done) | (rw [if_pos (by omega)]; first | (rw [if_pos (by omega)]; done) | (rw [if_neg (by omega)]; rfl)))
      · refine hy_aload (i := 27) rfl rfl ?_
        refine hy_getr (i := 28) rfl rfl ?_
        refine hy_const (i := 29) rfl (by decide) ?_
        refine hy_cV1v (i := 30) rfl mj_T_fail (by decide) rfl (Nat.le_of_ble_eq_true rfl) rfl rfl rfl (c_T_fail (by decide) (by have := tp_ok.p (by assumption); omega)) ?_
        refine hy_goto (i := 31) (tt := 35) rfl ?_
        refine hy_iload (i := 35) rfl rfl ?_
        refine hy_ireturn (i := 36) rfl rfl ?_
        refine ⟨rfl, ?_⟩
        simp at zc1
        show _ = (rd_empire t a).1
        unfold rd_empire
        dsimp only
        first | (rw [if_neg (by omega)]; done) | (simp at zc2; rw [if_pos (by omega)]; first | (rw [if_neg (by omega)]; done) | (rw [if_pos (by omega)]; first | (rw [if_pos (by omega)]; done) | (rw [if_neg (by omega)]; rfl)))
    · refine hy_aload (i := 19) rfl rfl ?_
      refine hy_getr (i := 20) rfl rfl ?_
      refine hy_const (i := 21) rfl (by decide) ?_
      refine hy_cV1v (i := 22) rfl mj_T_fail (by decide) rfl (Nat.le_of_ble_eq_true rfl) rfl rfl rfl (c_T_fail (by decide) (by have := tp_ok.p (by assumption); omega)) ?_
      refine hy_goto (i := 23) (tt := 35) rfl ?_
      refine hy_iload (i := 35) rfl rfl ?_
      refine hy_ireturn (i := 36) rfl rfl ?_
      refine ⟨rfl, ?_⟩
      simp at zc1
      show _ = (rd_empire t a).1
      unfold rd_empire
      dsimp only
      first | (rw [if_neg (by omega)]; done) | (simp at zc2; rw [if_pos (by omega)]; first | (rw [if_neg (by omega)]; done) | (rw [if_pos (by omega)]; first | (rw [if_pos (by omega)]; done) | (rw [if_neg (by omega)]; rfl)))
  · refine hy_aload (i := 11) rfl rfl ?_
    refine hy_getr (i := 12) rfl rfl ?_
    refine hy_const (i := 13) rfl (by decide) ?_
    refine hy_cV1v (i := 14) rfl mj_T_fail (by decide) rfl (Nat.le_of_ble_eq_true rfl) rfl rfl rfl (c_T_fail (by decide) (by have := tp_ok.p (by assumption); omega)) ?_
    refine hy_goto (i := 15) (tt := 35) rfl ?_
    refine hy_iload (i := 35) rfl rfl ?_
    refine hy_ireturn (i := 36) rfl rfl ?_
    refine ⟨rfl, ?_⟩
    simp at zc1
    show _ = (rd_empire t a).1
    unfold rd_empire
    dsimp only
    first | (rw [if_neg (by omega)]; done) | (simp at zc2; rw [if_pos (by omega)]; first | (rw [if_neg (by omega)]; done) | (rw [if_pos (by omega)]; first | (rw [if_pos (by omega)]; done) | (rw [if_neg (by omega)]; rfl)))
theorem c_N_readColour (h : tp_ok t) : hy_Ct sc hm_N_readColour 1 [.inr (some 27)] t (hy_e (some (rd_colour t).2) (rd_colour t).1) := by
  refine hy_mk_ct ok_N_readColour ck_N_readColour (Nat.le_of_ble_eq_true rfl) ?_
  have hp := h.p
  have loop : ∀ (n : Nat), ∀ (k : Nat) (c : Int) (t1 : hy_T), n + k = 2 → (0 ≤ c ∧ c ≤ 99 ∧ (k = 0 → c ≤ 0) ∧ (k = 1 → c ≤ 9)) → tp_ok t1 → rd_colourN n t1 c = rd_colourN 2 t 0 → hy_W sc hm_N_readColour 1 8 [.inr (some 27), .inl (t 3 3), .inl c, .inl (k : Int)] [] t1 (hy_e (some (rd_colour t).2) (rd_colour t).1) := by
    intro n
    induction n with
    | zero =>
      intro k c t1 hn hc h1 he
      obtain rfl : k = 2 := by omega
      have e1 : (rd_colour t).2 = c := by show (rd_colourN 2 t 0).2 = c; rw [← he]; rfl
      have e2 : (rd_colour t).1 = if c < 12 then t1 else tp_fail t1 3 (t 3 3) := by unfold rd_colour; rw [← he]; rfl
      rw [e1, e2]
      refine hy_iload (i := 8) rfl rfl ?_
      refine hy_const (i := 9) rfl (by decide) ?_
      refine hy_ic_ge (i := 10) (tt := 31) rfl (fun zc1 => ?_) (fun zc1 => ?_)
      · refine hy_iload (i := 31) rfl rfl ?_
        refine hy_const (i := 32) rfl (by decide) ?_
        refine hy_ic_lt (i := 33) (tt := 39) rfl (fun zc2 => ?_) (fun zc2 => ?_)
        · refine hy_iload (i := 39) rfl rfl ?_
          refine hy_ireturn (i := 40) rfl rfl ?_
          first | (rw [if_pos (by omega)]; exact ⟨rfl, rfl⟩) | (rw [if_neg (by omega)]; exact ⟨rfl, rfl⟩)
        · refine hy_aload (i := 34) rfl rfl ?_
          refine hy_getr (i := 35) rfl rfl ?_
          refine hy_const (i := 36) rfl (by decide) ?_
          refine hy_iload (i := 37) rfl rfl ?_
          refine hy_cV2v (i := 38) rfl mj_T_failAt (by decide) rfl (Nat.le_of_ble_eq_true rfl) rfl rfl rfl (c_T_failAt (by decide) (by omega)) ?_
          refine hy_iload (i := 39) rfl rfl ?_
          refine hy_ireturn (i := 40) rfl rfl ?_
          first | (rw [if_pos (by omega)]; exact ⟨rfl, rfl⟩) | (rw [if_neg (by omega)]; exact ⟨rfl, rfl⟩)
      · omega
    | succ n ih =>
      intro k c t1 hn hc h1 he
      have hx := tp_next_in h1
      by_cases hd : 48 ≤ tp_next t1 ∧ tp_next t1 ≤ 57
      · skip
        refine hy_iload (i := 8) rfl rfl ?_
        refine hy_const (i := 9) rfl (by decide) ?_
        refine hy_ic_ge (i := 10) (tt := 31) rfl (fun zc1 => ?_) (fun zc1 => ?_)
        · omega
        · refine hy_aload (i := 11) rfl rfl ?_
          refine hy_getr (i := 12) rfl rfl ?_
          refine hy_cV0e (i := 13) rfl mj_T_next (by decide) rfl (Nat.le_of_ble_eq_true rfl) rfl rfl rfl (c_T_next (tp_ok.e (by assumption))) ?_
          refine hy_cS1e (i := 14) rfl (by decide) mj_W_isDigit (by decide) rfl (Nat.le_of_ble_eq_true rfl) (c_W_isDigit) ?_
          refine hy_ib_eq (i := 15) (tt := 31) rfl (fun zc2 => ?_) (fun zc2 => ?_)
          · simp at zc2; omega
          · refine hy_const (i := 16) rfl (by decide) ?_
            refine hy_iload (i := 17) rfl rfl ?_
            refine hy_imul (i := 18) rfl (by omega) ?_
            refine hy_aload (i := 19) rfl rfl ?_
            refine hy_getr (i := 20) rfl rfl ?_
            refine hy_cV0e (i := 21) rfl mj_T_next (by decide) rfl (Nat.le_of_ble_eq_true rfl) rfl rfl rfl (c_T_next (tp_ok.e (by assumption))) ?_
            refine hy_iadd (i := 22) rfl (by omega) ?_
            refine hy_const (i := 23) rfl (by decide) ?_
            refine hy_isub (i := 24) rfl (by omega) ?_
            refine hy_istore (i := 25) rfl ?_
            refine hy_aload (i := 26) rfl rfl ?_
            refine hy_getr (i := 27) rfl rfl ?_
            refine hy_cV0v (i := 28) rfl mj_T_step (by decide) rfl (Nat.le_of_ble_eq_true rfl) rfl rfl rfl (c_T_step (by have := tp_ok.p (by assumption); omega)) ?_
            refine hy_iinc (i := 29) rfl rfl (by omega) ?_
            refine hy_goto (i := 30) (tt := 8) rfl ?_
            exact ih (k + 1) _ _ (by omega) (by omega) (tp_step_ok h1 (by omega)) (by rw [← he]; simp only [rd_colourN]; rw [if_pos hd]; rfl)
      · have e0 : rd_colourN 2 t 0 = (t1, c) := by rw [← he]; simp only [rd_colourN]; rw [if_neg hd]
        have e1 : (rd_colour t).2 = c := by show (rd_colourN 2 t 0).2 = c; rw [e0]
        have e2 : (rd_colour t).1 = if c < 12 then t1 else tp_fail t1 3 (t 3 3) := by unfold rd_colour; rw [e0]
        rw [e1, e2]
        refine hy_iload (i := 8) rfl rfl ?_
        refine hy_const (i := 9) rfl (by decide) ?_
        refine hy_ic_ge (i := 10) (tt := 31) rfl (fun zc1 => ?_) (fun zc1 => ?_)
        · omega
        · refine hy_aload (i := 11) rfl rfl ?_
          refine hy_getr (i := 12) rfl rfl ?_
          refine hy_cV0e (i := 13) rfl mj_T_next (by decide) rfl (Nat.le_of_ble_eq_true rfl) rfl rfl rfl (c_T_next (tp_ok.e (by assumption))) ?_
          refine hy_cS1e (i := 14) rfl (by decide) mj_W_isDigit (by decide) rfl (Nat.le_of_ble_eq_true rfl) (c_W_isDigit) ?_
          refine hy_ib_eq (i := 15) (tt := 31) rfl (fun zc2 => ?_) (fun zc2 => ?_)
          · refine hy_iload (i := 31) rfl rfl ?_
            refine hy_const (i := 32) rfl (by decide) ?_
            refine hy_ic_lt (i := 33) (tt := 39) rfl (fun zc3 => ?_) (fun zc3 => ?_)
            · refine hy_iload (i := 39) rfl rfl ?_
              refine hy_ireturn (i := 40) rfl rfl ?_
              first | (rw [if_pos (by omega)]; exact ⟨rfl, rfl⟩) | (rw [if_neg (by omega)]; exact ⟨rfl, rfl⟩)
            · refine hy_aload (i := 34) rfl rfl ?_
              refine hy_getr (i := 35) rfl rfl ?_
              refine hy_const (i := 36) rfl (by decide) ?_
              refine hy_iload (i := 37) rfl rfl ?_
              refine hy_cV2v (i := 38) rfl mj_T_failAt (by decide) rfl (Nat.le_of_ble_eq_true rfl) rfl rfl rfl (c_T_failAt (by decide) (by omega)) ?_
              refine hy_iload (i := 39) rfl rfl ?_
              refine hy_ireturn (i := 40) rfl rfl ?_
              first | (rw [if_pos (by omega)]; exact ⟨rfl, rfl⟩) | (rw [if_neg (by omega)]; exact ⟨rfl, rfl⟩)
          · simp at zc2; omega
  refine hy_aload (i := 0) rfl rfl ?_
  refine hy_getr (i := 1) rfl rfl ?_
  refine hy_cV0e (i := 2) rfl mj_T_place (by decide) rfl (Nat.le_of_ble_eq_true rfl) rfl rfl rfl (c_T_place) ?_
  refine hy_istore (i := 3) rfl ?_
  refine hy_const (i := 4) rfl (by decide) ?_
  refine hy_istore (i := 5) rfl ?_
  refine hy_const (i := 6) rfl (by decide) ?_
  refine hy_istore (i := 7) rfl ?_
  exact loop 2 0 0 _ rfl (by decide) h rfl
theorem c_N_readQuarters (h : tp_ok t) : hy_Ct sc hm_N_readQuarters 1 [.inr (some 27)] t (hy_e (some (rd_quarters t).2) (rd_quarters t).1) := by
  refine hy_mk_ct ok_N_readQuarters ck_N_readQuarters (Nat.le_of_ble_eq_true rfl) ?_
  have loop : ∀ (n : Nat), ∀ (k : Nat) (b : Int) (t1 : hy_T) (v3 : hy_V), n + k = 5 → tp_ok t1 → rd_quartersN n t1 b = rd_quarters t → hy_W sc hm_N_readQuarters 1 4 [.inr (some 27), .inl b, .inl (k : Int), v3] [] t1 (hy_e (some (rd_quarters t).2) (rd_quarters t).1) := by
    intro n
    induction n with
    | zero =>
      intro k b t1 v3 hn h1 he
      obtain rfl : k = 5 := by omega
      rw [← he]
      have e2 : (rd_quartersN 0 t1 b).1 = if b = 0 then tp_fail t1 1 (t1 3 3) else t1 := rfl
      rw [e2]
      refine hy_iload (i := 4) rfl rfl ?_
      refine hy_const (i := 5) rfl (by decide) ?_
      refine hy_ic_gt (i := 6) (tt := 41) rfl (fun zc1 => ?_) (fun zc1 => ?_)
      · refine hy_iload (i := 41) rfl rfl ?_
        refine hy_if_ne (i := 42) (tt := 47) rfl (fun zc2 => ?_) (fun zc2 => ?_)
        · refine hy_iload (i := 47) rfl rfl ?_
          refine hy_ireturn (i := 48) rfl rfl ?_
          first | (rw [if_pos (by omega)]; exact ⟨rfl, rfl⟩) | (rw [if_neg (by omega)]; exact ⟨rfl, rfl⟩)
        · refine hy_aload (i := 43) rfl rfl ?_
          refine hy_getr (i := 44) rfl rfl ?_
          refine hy_const (i := 45) rfl (by decide) ?_
          refine hy_cV1v (i := 46) rfl mj_T_fail (by decide) rfl (Nat.le_of_ble_eq_true rfl) rfl rfl rfl (c_T_fail (by decide) (by have := tp_ok.p (by assumption); omega)) ?_
          refine hy_iload (i := 47) rfl rfl ?_
          refine hy_ireturn (i := 48) rfl rfl ?_
          first | (rw [if_pos (by omega)]; exact ⟨rfl, rfl⟩) | (rw [if_neg (by omega)]; exact ⟨rfl, rfl⟩)
      · omega
    | succ n ih =>
      intro k b t1 v3 hn h1 he
      have hx := tp_next_in h1
      by_cases hd : 0 ≤ tp_next t1 - 48 ∧ tp_next t1 - 48 < 4
      · by_cases hs : hz_ishr b (tp_next t1 - 48) = 0
        · skip
          refine hy_iload (i := 4) rfl rfl ?_
          refine hy_const (i := 5) rfl (by decide) ?_
          refine hy_ic_gt (i := 6) (tt := 41) rfl (fun zc1 => ?_) (fun zc1 => ?_)
          · omega
          · refine hy_aload (i := 7) rfl rfl ?_
            refine hy_getr (i := 8) rfl rfl ?_
            refine hy_cV0e (i := 9) rfl mj_T_next (by decide) rfl (Nat.le_of_ble_eq_true rfl) rfl rfl rfl (c_T_next (tp_ok.e (by assumption))) ?_
            refine hy_const (i := 10) rfl (by decide) ?_
            refine hy_isub (i := 11) rfl (by omega) ?_
            refine hy_cS1e (i := 12) rfl (by decide) mj_W_isQuarter (by decide) rfl (Nat.le_of_ble_eq_true rfl) (c_W_isQuarter) ?_
            refine hy_ib_eq (i := 13) (tt := 41) rfl (fun zc2 => ?_) (fun zc2 => ?_)
            · simp at zc2; omega
            · refine hy_aload (i := 14) rfl rfl ?_
              refine hy_getr (i := 15) rfl rfl ?_
              refine hy_cV0e (i := 16) rfl mj_T_next (by decide) rfl (Nat.le_of_ble_eq_true rfl) rfl rfl rfl (c_T_next (tp_ok.e (by assumption))) ?_
              refine hy_const (i := 17) rfl (by decide) ?_
              refine hy_isub (i := 18) rfl (by omega) ?_
              refine hy_istore (i := 19) rfl ?_
              refine hy_iload (i := 20) rfl rfl ?_
              refine hy_iload (i := 21) rfl rfl ?_
              refine hy_ishr (i := 22) rfl ?_
              refine hy_if_eq (i := 23) (tt := 30) rfl (fun zc3 => ?_) (fun zc3 => ?_)
              · refine hy_iload (i := 30) rfl rfl ?_
                refine hy_const (i := 31) rfl (by decide) ?_
                refine hy_iload (i := 32) rfl rfl ?_
                refine hy_ishl (i := 33) rfl ?_
                refine hy_ior (i := 34) rfl ?_
                refine hy_istore (i := 35) rfl ?_
                refine hy_aload (i := 36) rfl rfl ?_
                refine hy_getr (i := 37) rfl rfl ?_
                refine hy_cV0v (i := 38) rfl mj_T_step (by decide) rfl (Nat.le_of_ble_eq_true rfl) rfl rfl rfl (c_T_step (by have := tp_ok.p (by assumption); omega)) ?_
                refine hy_iinc (i := 39) rfl rfl (by omega) ?_
                refine hy_goto (i := 40) (tt := 4) rfl ?_
                exact ih (k + 1) _ _ _ (by omega) (tp_step_ok h1 (by omega)) (by rw [← he]; simp only [rd_quartersN]; rw [if_pos hd, if_pos hs]; rfl)
              · omega
        · have e0 : rd_quarters t = (tp_fail t1 6 (t1 3 3), b) := by rw [← he]; simp only [rd_quartersN]; rw [if_pos hd, if_neg hs]
          rw [e0]
          refine hy_iload (i := 4) rfl rfl ?_
          refine hy_const (i := 5) rfl (by decide) ?_
          refine hy_ic_gt (i := 6) (tt := 41) rfl (fun zc1 => ?_) (fun zc1 => ?_)
          · omega
          · refine hy_aload (i := 7) rfl rfl ?_
            refine hy_getr (i := 8) rfl rfl ?_
            refine hy_cV0e (i := 9) rfl mj_T_next (by decide) rfl (Nat.le_of_ble_eq_true rfl) rfl rfl rfl (c_T_next (tp_ok.e (by assumption))) ?_
            refine hy_const (i := 10) rfl (by decide) ?_
            refine hy_isub (i := 11) rfl (by omega) ?_
            refine hy_cS1e (i := 12) rfl (by decide) mj_W_isQuarter (by decide) rfl (Nat.le_of_ble_eq_true rfl) (c_W_isQuarter) ?_
            refine hy_ib_eq (i := 13) (tt := 41) rfl (fun zc2 => ?_) (fun zc2 => ?_)
            · simp at zc2; omega
            · refine hy_aload (i := 14) rfl rfl ?_
              refine hy_getr (i := 15) rfl rfl ?_
              refine hy_cV0e (i := 16) rfl mj_T_next (by decide) rfl (Nat.le_of_ble_eq_true rfl) rfl rfl rfl (c_T_next (tp_ok.e (by assumption))) ?_
              refine hy_const (i := 17) rfl (by decide) ?_
              refine hy_isub (i := 18) rfl (by omega) ?_
              refine hy_istore (i := 19) rfl ?_
              refine hy_iload (i := 20) rfl rfl ?_
              refine hy_iload (i := 21) rfl rfl ?_
              refine hy_ishr (i := 22) rfl ?_
              refine hy_if_eq (i := 23) (tt := 30) rfl (fun zc3 => ?_) (fun zc3 => ?_)
              · omega
              · refine hy_aload (i := 24) rfl rfl ?_
                refine hy_getr (i := 25) rfl rfl ?_
                refine hy_const (i := 26) rfl (by decide) ?_
                refine hy_cV1v (i := 27) rfl mj_T_fail (by decide) rfl (Nat.le_of_ble_eq_true rfl) rfl rfl rfl (c_T_fail (by decide) (by have := tp_ok.p (by assumption); omega)) ?_
                refine hy_iload (i := 28) rfl rfl ?_
                refine hy_ireturn (i := 29) rfl rfl ?_
                exact ⟨rfl, rfl⟩
      · have e0 : rd_quarters t = rd_quartersE t1 b := by rw [← he]; simp only [rd_quartersN]; rw [if_neg hd]
        rw [e0]
        have e2 : (rd_quartersE t1 b).1 = if b = 0 then tp_fail t1 1 (t1 3 3) else t1 := rfl
        rw [e2]
        refine hy_iload (i := 4) rfl rfl ?_
        refine hy_const (i := 5) rfl (by decide) ?_
        refine hy_ic_gt (i := 6) (tt := 41) rfl (fun zc1 => ?_) (fun zc1 => ?_)
        · omega
        · refine hy_aload (i := 7) rfl rfl ?_
          refine hy_getr (i := 8) rfl rfl ?_
          refine hy_cV0e (i := 9) rfl mj_T_next (by decide) rfl (Nat.le_of_ble_eq_true rfl) rfl rfl rfl (c_T_next (tp_ok.e (by assumption))) ?_
          refine hy_const (i := 10) rfl (by decide) ?_
          refine hy_isub (i := 11) rfl (by omega) ?_
          refine hy_cS1e (i := 12) rfl (by decide) mj_W_isQuarter (by decide) rfl (Nat.le_of_ble_eq_true rfl) (c_W_isQuarter) ?_
          refine hy_ib_eq (i := 13) (tt := 41) rfl (fun zc2 => ?_) (fun zc2 => ?_)
          · refine hy_iload (i := 41) rfl rfl ?_
            refine hy_if_ne (i := 42) (tt := 47) rfl (fun zc3 => ?_) (fun zc3 => ?_)
            · refine hy_iload (i := 47) rfl rfl ?_
              refine hy_ireturn (i := 48) rfl rfl ?_
              first | (rw [if_pos (by omega)]; exact ⟨rfl, rfl⟩) | (rw [if_neg (by omega)]; exact ⟨rfl, rfl⟩)
            · refine hy_aload (i := 43) rfl rfl ?_
              refine hy_getr (i := 44) rfl rfl ?_
              refine hy_const (i := 45) rfl (by decide) ?_
              refine hy_cV1v (i := 46) rfl mj_T_fail (by decide) rfl (Nat.le_of_ble_eq_true rfl) rfl rfl rfl (c_T_fail (by decide) (by have := tp_ok.p (by assumption); omega)) ?_
              refine hy_iload (i := 47) rfl rfl ?_
              refine hy_ireturn (i := 48) rfl rfl ?_
              first | (rw [if_pos (by omega)]; exact ⟨rfl, rfl⟩) | (rw [if_neg (by omega)]; exact ⟨rfl, rfl⟩)
          · simp at zc2; omega
  refine hy_const (i := 0) rfl (by decide) ?_
  refine hy_istore (i := 1) rfl ?_
  refine hy_const (i := 2) rfl (by decide) ?_
  refine hy_istore (i := 3) rfl ?_
  exact loop 5 0 0 _ _ rfl h rfl
end RL
