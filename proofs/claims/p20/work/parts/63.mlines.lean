/-! the model: texts, lines -/
def mp_here (t : hy_T) : Int := if t 59 10 < t 59 11 then hz_iand (t 65 (t 59 10).toNat) 255 else -1
def mp_dig (t : hy_T) : Bool := decide (48 ≤ mp_here t ∧ mp_here t ≤ 57)
def mp_wr (t : hy_T) (n w : Int) : hy_T := hy_up t 59 12 (-1000 * n - w)
def mp_st (t : hy_T) : hy_T := hy_up t 59 10 (t 59 10 + 1)
def mp_take (t : hy_T) (c : Int) : Bool × hy_T := if mp_here t = c then (true, mp_st t) else (false, mp_wr t 1 (t 59 10))
/-- a text is read -/
def mp_ok (t : hy_T) : Prop := (0 ≤ t 59 10 ∧ t 59 10 ≤ 260) ∧ t 59 11 ≤ 260
abbrev mpX : Nat → Nat → Bool := fun r j => r == 59 && (j == 10 || j == 12)
theorem mp_here_in (t : hy_T) : -1 ≤ mp_here t ∧ mp_here t ≤ 255 := by
  have h := mby_in t (t 59 10).toNat
  unfold mp_here
  split
  · exact ⟨Int.le_trans (by decide) h.1, h.2⟩
  · decide
theorem mp_here_p {t : hy_T} (h : 0 ≤ mp_here t) : t 59 10 < t 59 11 := by
  unfold mp_here at h
  split at h
  · assumption
  · omega
theorem mp_st_ok {t : hy_T} (h : mp_ok t) (hn : 0 ≤ mp_here t) : mp_ok (mp_st t) := by
  have h1 := mp_here_p hn
  obtain ⟨h2, h3⟩ := h
  exact ⟨⟨by show 0 ≤ t 59 10 + 1; omega, by show t 59 10 + 1 ≤ 260; omega⟩, h3⟩
theorem mp_ok_F {X : Nat → Nat → Bool} {t t1 : hy_T} (h : hy_F X t t1) (h0 : X 59 10 = false) (h1 : X 59 11 = false) (hk : mp_ok t) : mp_ok t1 := by
  unfold mp_ok
  rw [h 59 10 h0, h 59 11 h1]
  exact hk
theorem mp_ok_wr {t : hy_T} (h : mp_ok t) (n w : Int) : mp_ok (mp_wr t n w) := h
theorem mp_dig_h {t : hy_T} (h : mp_dig t = true) : 48 ≤ mp_here t ∧ mp_here t ≤ 57 := of_decide_eq_true h
theorem mp_dig_n {t : hy_T} (h : mp_dig t = false) : ¬ (48 ≤ mp_here t ∧ mp_here t ≤ 57) := of_decide_eq_false h
section MX
variable {sc : List Int32} {t : hy_T}
theorem c_M_here (h : mp_ok t) : hy_Ct sc hm_M_here 0 [.inr (some 59)] t (hy_e (some (mp_here t)) t) := by
  refine hy_mk_ct ok_M_here ck_M_here (Nat.le_of_ble_eq_true rfl) ?_
  obtain ⟨h1, h2⟩ := h
  refine hy_aload (i := 0) rfl rfl ?_
  refine hy_get (i := 1) (fk := 10) rfl rfl rfl ?_
  refine hy_aload (i := 2) rfl rfl ?_
  refine hy_get (i := 3) (fk := 11) rfl rfl rfl ?_
  refine hy_ic_ge (i := 4) (tt := 13) rfl (fun zc1 => ?_) (fun zc1 => ?_)
  · refine hy_const (i := 13) rfl (by decide) ?_
    refine hy_ireturn (i := 14) rfl rfl ?_
    exact ⟨congrArg some (by unfold mp_here; first | rw [if_pos (by omega)] | rw [if_neg (by omega)]), rfl⟩
  · refine hy_aload (i := 5) rfl rfl ?_
    refine hy_getr (i := 6) rfl rfl ?_
    refine hy_aload (i := 7) rfl rfl ?_
    refine hy_get (i := 8) (fk := 10) rfl rfl rfl ?_
    refine hy_bald (i := 9) rfl rfl (by decide) (by omega) rfl ?_
    refine hy_const (i := 10) rfl (by decide) ?_
    refine hy_iand (i := 11) rfl ?_
    refine hy_goto (i := 12) (tt := 14) rfl ?_
    refine hy_ireturn (i := 14) rfl rfl ?_
    exact ⟨congrArg some (by unfold mp_here; first | rw [if_pos (by omega)] | rw [if_neg (by omega)]), rfl⟩
theorem c_M_isDigit (h : mp_ok t) : hy_Ct sc hm_M_isDigit 1 [.inr (some 59)] t (hy_e (some (hy_b (mp_dig t))) t) := by
  refine hy_mk_ct ok_M_isDigit ck_M_isDigit (Nat.le_of_ble_eq_true rfl) ?_
  refine hy_aload (i := 0) rfl rfl ?_
  refine hy_cV0e (i := 1) rfl mj_M_here (by decide) rfl (Nat.le_of_ble_eq_true rfl) rfl rfl rfl (c_M_here (by assumption)) ?_
  refine hy_const (i := 2) rfl (by decide) ?_
  refine hy_ic_lt (i := 3) (tt := 10) rfl (fun zc1 => ?_) (fun zc1 => ?_)
  · refine hy_const (i := 10) rfl (by decide) ?_
    refine hy_zreturn (i := 11) rfl rfl (by first | decide | exact hy_b01 _) ?_
    exact ⟨congrArg some (by unfold mp_dig; first | (rw [decide_eq_true (by omega)]; rfl) | (rw [decide_eq_false (by omega)]; rfl)), rfl⟩
  · refine hy_aload (i := 4) rfl rfl ?_
    refine hy_cV0e (i := 5) rfl mj_M_here (by decide) rfl (Nat.le_of_ble_eq_true rfl) rfl rfl rfl (c_M_here (by assumption)) ?_
    refine hy_const (i := 6) rfl (by decide) ?_
    refine hy_ic_gt (i := 7) (tt := 10) rfl (fun zc2 => ?_) (fun zc2 => ?_)
    · refine hy_const (i := 10) rfl (by decide) ?_
      refine hy_zreturn (i := 11) rfl rfl (by first | decide | exact hy_b01 _) ?_
      exact ⟨congrArg some (by unfold mp_dig; first | (rw [decide_eq_true (by omega)]; rfl) | (rw [decide_eq_false (by omega)]; rfl)), rfl⟩
    · refine hy_const (i := 8) rfl (by decide) ?_
      refine hy_goto (i := 9) (tt := 11) rfl ?_
      refine hy_zreturn (i := 11) rfl rfl (by first | decide | exact hy_b01 _) ?_
      exact ⟨congrArg some (by unfold mp_dig; first | (rw [decide_eq_true (by omega)]; rfl) | (rw [decide_eq_false (by omega)]; rfl)), rfl⟩
theorem c_M_wrongAt {n w : Int} (hn : 0 ≤ n ∧ n < 10) (hw : 0 ≤ w ∧ w ≤ 260) : hy_Ct sc hm_M_wrongAt 0 [.inr (some 59), .inl n, .inl w] t (hy_e (some (hy_b false)) (mp_wr t n w)) := by
  refine hy_mk_ct ok_M_wrongAt ck_M_wrongAt (Nat.le_of_ble_eq_true rfl) ?_
  refine hy_aload (i := 0) rfl rfl ?_
  refine hy_const (i := 1) rfl (by decide) ?_
  refine hy_iload (i := 2) rfl rfl ?_
  refine hy_imul (i := 3) rfl (by omega) ?_
  refine hy_iload (i := 4) rfl rfl ?_
  refine hy_isub (i := 5) rfl (by omega) ?_
  refine hy_put (i := 6) (fk := 12) rfl rfl rfl rfl ?_
  refine hy_const (i := 7) rfl (by decide) ?_
  refine hy_zreturn (i := 8) rfl rfl (by first | decide | exact hy_b01 _) ?_
  exact ⟨rfl, rfl⟩
theorem c_M_takes {c : Int} (h : mp_ok t) : hy_Ct sc hm_M_takes 1 [.inr (some 59), .inl c] t (hy_e (some (hy_b (mp_take t c).1)) (mp_take t c).2) := by
  refine hy_mk_ct ok_M_takes ck_M_takes (Nat.le_of_ble_eq_true rfl) ?_
  have hp := h.1
  refine hy_aload (i := 0) rfl rfl ?_
  refine hy_cV0e (i := 1) rfl mj_M_here (by decide) rfl (Nat.le_of_ble_eq_true rfl) rfl rfl rfl (c_M_here (by assumption)) ?_
  refine hy_iload (i := 2) rfl rfl ?_
  refine hy_ic_eq (i := 3) (tt := 10) rfl (fun zc1 => ?_) (fun zc1 => ?_)
  · refine hy_aload (i := 10) rfl rfl ?_
    refine hy_aload (i := 11) rfl rfl ?_
    refine hy_get (i := 12) (fk := 10) rfl rfl rfl ?_
    refine hy_const (i := 13) rfl (by decide) ?_
    refine hy_iadd (i := 14) rfl (by omega) ?_
    refine hy_put (i := 15) (fk := 10) rfl rfl rfl rfl ?_
    refine hy_const (i := 16) rfl (by decide) ?_
    refine hy_zreturn (i := 17) rfl rfl (by first | decide | exact hy_b01 _) ?_
    unfold mp_take
    first | (rw [if_pos (by assumption)]; exact ⟨rfl, rfl⟩) | (rw [if_neg (by assumption)]; exact ⟨rfl, rfl⟩)
  · refine hy_aload (i := 4) rfl rfl ?_
    refine hy_const (i := 5) rfl (by decide) ?_
    refine hy_aload (i := 6) rfl rfl ?_
    refine hy_get (i := 7) (fk := 10) rfl rfl rfl ?_
    refine hy_cV2e (i := 8) rfl mj_M_wrongAt (by decide) rfl (Nat.le_of_ble_eq_true rfl) rfl rfl rfl (c_M_wrongAt (by decide) hp) ?_
    refine hy_zreturn (i := 9) rfl rfl (by first | decide | exact hy_b01 _) ?_
    unfold mp_take
    first | (rw [if_pos (by assumption)]; exact ⟨rfl, rfl⟩) | (rw [if_neg (by assumption)]; exact ⟨rfl, rfl⟩)
end MX
theorem mp_take_s {t : hy_T} (h : mp_ok t) {c : Int} (hc : 0 ≤ c) : mp_ok (mp_take t c).2 ∧ hy_F mpX t (mp_take t c).2 ∧ t 59 10 ≤ (mp_take t c).2 59 10 ∧ ((mp_take t c).1 = true → t 59 10 < (mp_take t c).2 59 10) := by
  unfold mp_take
  split
  · exact ⟨mp_st_ok h (by omega), hy_F.rf.up rfl, by show t 59 10 ≤ t 59 10 + 1; omega, fun _ => by show t 59 10 < t 59 10 + 1; omega⟩
  · exact ⟨mp_ok_wr h _ _, hy_F.rf.up rfl, Int.le_refl _, fun h => by cases h⟩
def ml_colN : Nat → hy_T → hy_T
  | 0, t => t
  | n + 1, t => if mp_dig t = true then ml_colN n (mp_st (hy_up t 59 13 (10 * t 59 13 + mp_here t - 48))) else t
def ml_col (t : hy_T) : Bool × hy_T :=
  if ml_colN 2 (hy_up t 59 13 0) 59 13 < 12 then mp_take (hy_up (ml_colN 2 (hy_up t 59 13 0)) 80 (t 59 33).toNat (ml_colN 2 (hy_up t 59 13 0) 59 13)) 64
  else (false, mp_wr (ml_colN 2 (hy_up t 59 13 0)) 3 (t 59 10))
def ml_quaE (t : hy_T) (s : Int) : Bool × hy_T := if 0 < s then (true, hy_up t 81 (t 59 33).toNat s) else (false, mp_wr (hy_up t 81 (t 59 33).toNat s) 1 (t 59 10))
def ml_quaN : Nat → hy_T → Int → Int → Bool × hy_T
  | 0, t, _, _ => (false, t)
  | n + 1, t, s, l => if 48 ≤ mp_here t ∧ mp_here t ≤ 51 then (if mp_here t - 48 ≤ l then (false, mp_wr t 6 (t 59 10)) else ml_quaN n (mp_st t) (hz_ior s (hz_ishl 1 (mp_here t - 48))) (mp_here t - 48)) else ml_quaE t s
def ml_qua (t : hy_T) : Bool × hy_T := ml_quaN 5 t 0 (-1)
def ml_emp (t : hy_T) (o : Int) : Bool × hy_T :=
  if mp_dig t = true then
    (if mp_here t - 48 < 6 then (if mp_here t - 48 = o then (false, mp_wr (hy_up t 59 13 (mp_here t - 48)) 6 (t 59 10)) else (true, mp_st (hy_up t 59 13 (mp_here t - 48))))
     else (false, mp_wr (hy_up t 59 13 (mp_here t - 48)) 3 (t 59 10)))
  else (false, mp_wr t 1 (t 59 10))
def ml_sgn (t : hy_T) : hy_T := mp_st (hy_up t 84 (t 59 33).toNat (if mp_here t = 43 then 1 else 0))
def ml_end (t : hy_T) : hy_T := hy_up (hy_up t 83 (t 59 33).toNat (t 59 13)) 59 33 (t 59 33 + 1)
def ml_from (t : hy_T) : hy_T := hy_up t 82 (t 59 33).toNat (t 59 13)
def ml_two (p : Bool × hy_T) : Bool × hy_T :=
  if p.1 = true then (if (ml_emp (ml_from p.2) (p.2 59 13)).1 = true then (true, ml_end (ml_emp (ml_from p.2) (p.2 59 13)).2) else (false, (ml_emp (ml_from p.2) (p.2 59 13)).2)) else (false, p.2)
def ml_tail (t : hy_T) : Bool × hy_T :=
  if mp_here t = 62 ∨ mp_here t = 43 then ml_two (ml_emp (ml_sgn t) (-1)) else (false, mp_wr t 1 (t 59 10))
def ml_line (t : hy_T) : Bool × hy_T :=
  if mp_dig t = true then
    (if t 59 33 = 8 then (false, mp_wr t 4 (t 59 10))
     else if (ml_col t).1 = true then (if (ml_qua (ml_col t).2).1 = true then ml_tail (ml_qua (ml_col t).2).2 else (false, (ml_qua (ml_col t).2).2)) else (false, (ml_col t).2))
  else (false, mp_wr t 1 (t 59 10))
def ml_linesN : Nat → Bool × hy_T → Bool × hy_T
  | 0, p => p
  | n + 1, p => if p.1 = true ∧ p.2 59 10 < p.2 59 11 then ml_linesN n (if (mp_take p.2 44).1 = true then ml_line (mp_take p.2 44).2 else (false, (mp_take p.2 44).2)) else p
def ml_lines (t : hy_T) (n : Int) : Bool × hy_T := ((ml_linesN 261 (ml_line (hy_up (hy_up (hy_up t 59 10 0) 59 11 n) 59 33 0))).1, hy_up (ml_linesN 261 (ml_line (hy_up (hy_up (hy_up t 59 10 0) 59 11 n) 59 33 0))).2 59 9 0)
/-- what a step of the reading leaves -/
abbrev mlnX : Nat → Nat → Bool := fun r j => r == 80 || r == 81 || r == 82 || r == 83 || r == 84 || (r == 59 && (j == 10 || j == 12 || j == 13))
/-- a step of the reading of a line: it goes on, and writes in this line alone -/
def ml_s (t t1 : hy_T) : Prop := mp_ok t1 ∧ (hy_F mlnX t t1) ∧ t 59 10 ≤ t1 59 10 ∧ ∀ r j, 80 ≤ r → r ≤ 84 → j ≠ (t 59 33).toNat → t1 r j = t r j
theorem ml_s.rf {t : hy_T} (h : mp_ok t) : ml_s t t := ⟨h, hy_F.rf, Int.le_refl _, fun _ _ _ _ _ => rfl⟩
theorem ml_s.tr {a b c : hy_T} (h : ml_s a b) (k : ml_s b c) : ml_s a c := by
  obtain ⟨_, h2, h3, h4⟩ := h
  obtain ⟨k1, k2, k3, k4⟩ := k
  have e : b 59 33 = a 59 33 := h2 59 33 rfl
  exact ⟨k1, h2.tr' k2, by omega, fun r j h8 h9 hj => by rw [k4 r j h8 h9 (by rw [e]; exact hj), h4 r j h8 h9 hj]⟩
theorem ml_s_st {t : hy_T} (h : mp_ok t) (hn : 0 ≤ mp_here t) : ml_s t (mp_st t) := ⟨mp_st_ok h hn, hy_F.rf.up rfl, by show t 59 10 ≤ t 59 10 + 1; omega, fun r j h8 _ _ => hy_up_ne (by omega)⟩
theorem ml_s_wr {t : hy_T} (h : mp_ok t) (n w : Int) : ml_s t (mp_wr t n w) := ⟨h, hy_F.rf.up rfl, Int.le_refl _, fun r j h8 _ _ => hy_up_ne (by omega)⟩
theorem ml_s_num {t : hy_T} (h : mp_ok t) (v : Int) : ml_s t (hy_up t 59 13 v) := ⟨h, hy_F.rf.up rfl, Int.le_refl _, fun r j h8 _ _ => hy_up_ne (by omega)⟩
theorem ml_s_row {t : hy_T} (h : mp_ok t) {r : Nat} (h8 : 80 ≤ r) (h9 : r ≤ 84) (v : Int) : ml_s t (hy_up t r (t 59 33).toNat v) :=
  ⟨mp_ok_F (X := fun r' _ => r' == r) (hy_F.rf.up (by simp)) (by simp; omega) (by simp; omega) h, hy_F.rf.up (by simp [mlnX]; omega), by rw [hy_up_ne (by omega)]; exact Int.le_refl _, fun r' j _ _ hj => by simp only [hy_up]; rw [if_neg (fun q => hj q.2)]⟩
theorem ml_colN_s : ∀ (n : Nat) {t : hy_T} {m : Int}, mp_ok t → (0 ≤ t 59 13 ∧ t 59 13 ≤ m) → ml_s t (ml_colN n t) ∧ 0 ≤ ml_colN n t 59 13
  | 0, t, m, h, hc => ⟨ml_s.rf h, hc.1⟩
  | n + 1, t, m, h, hc => by
    simp only [ml_colN]
    split
    · next hd =>
      have hd2 := mp_dig_h hd
      have a1 := ml_s_num h (10 * t 59 13 + mp_here t - 48)
      have e : mp_here (hy_up t 59 13 (10 * t 59 13 + mp_here t - 48)) = mp_here t := rfl
      have a2 := a1.tr (ml_s_st a1.1 (by rw [e]; omega))
      obtain ⟨b1, b2⟩ := ml_colN_s n (t := mp_st (hy_up t 59 13 (10 * t 59 13 + mp_here t - 48))) (m := 10 * t 59 13 + mp_here t - 48) a2.1 (by show 0 ≤ 10 * t 59 13 + mp_here t - 48 ∧ 10 * t 59 13 + mp_here t - 48 ≤ _; omega)
      exact ⟨a2.tr b1, b2⟩
    · exact ⟨ml_s.rf h, hc.1⟩
theorem ml_col_s {t : hy_T} (h : mp_ok t) : ml_s t (ml_col t).2 ∧ ((ml_col t).1 = true → 0 ≤ (ml_col t).2 80 (t 59 33).toNat ∧ (ml_col t).2 80 (t 59 33).toNat < 12) := by
  have a1 := ml_s_num h 0
  obtain ⟨b1, b2⟩ := ml_colN_s 2 (t := hy_up t 59 13 0) (m := 0) a1.1 (by show (0 : Int) ≤ 0 ∧ (0 : Int) ≤ 0; decide)
  have b3 := a1.tr b1
  have e : ml_colN 2 (hy_up t 59 13 0) 59 33 = t 59 33 := b3.2.1 59 33 rfl
  unfold ml_col
  split
  · next hc =>
    have c1 := ml_s_row b3.1 (r := 80) (by decide) (by decide) (ml_colN 2 (hy_up t 59 13 0) 59 13)
    rw [e] at c1
    obtain ⟨d1, d2, d3, -⟩ := mp_take_s (c := 64) c1.1 (by decide)
    have d4 : ml_s _ _ := ⟨d1, d2.w (fun r j q => by revert q; simp [mlnX, mpX]; omega), d3, fun r j h8 _ _ => d2 r j (by simp [mpX]; omega)⟩
    refine ⟨(b3.tr c1).tr d4, fun _ => ?_⟩
    rw [d2 80 _ rfl]
    simp only [hy_up, true_and, if_true]
    exact ⟨b2, hc⟩
  · exact ⟨b3.tr (ml_s_wr b3.1 _ _), fun q => by cases q⟩
theorem ml_bits {s q : Int} (hs : 0 ≤ s ∧ s ≤ 15) (hq : 0 ≤ q ∧ q < 4) : 0 < hz_ior s (hz_ishl 1 q) ∧ hz_ior s (hz_ishl 1 q) ≤ 15 := by
  have key : ∀ a : Nat, a < 16 → ∀ b : Nat, b < 4 → 0 < hz_ior (a : Int) (hz_ishl 1 (b : Int)) ∧ hz_ior (a : Int) (hz_ishl 1 (b : Int)) ≤ 15 := by decide +kernel
  have := key s.toNat (by omega) q.toNat (by omega)
  rw [show ((s.toNat : Nat) : Int) = s by omega, show ((q.toNat : Nat) : Int) = q by omega] at this
  exact this
theorem ml_quaE_s {t : hy_T} (h : mp_ok t) {s : Int} (hs : 0 ≤ s ∧ s ≤ 15) : ml_s t (ml_quaE t s).2 ∧ ((ml_quaE t s).1 = true → 1 ≤ (ml_quaE t s).2 81 (t 59 33).toNat ∧ (ml_quaE t s).2 81 (t 59 33).toNat ≤ 15) := by
  have c1 := ml_s_row h (r := 81) (by decide) (by decide) s
  unfold ml_quaE
  split
  · refine ⟨c1, fun _ => ?_⟩
    simp only [hy_up, true_and, if_true]
    omega
  · exact ⟨c1.tr (ml_s_wr c1.1 _ _), fun q => by cases q⟩
theorem ml_quaN_s : ∀ (n : Nat) {t : hy_T} {s l : Int}, mp_ok t → (0 ≤ s ∧ s ≤ 15) → ml_s t (ml_quaN n t s l).2 ∧ ((ml_quaN n t s l).1 = true → 1 ≤ (ml_quaN n t s l).2 81 (t 59 33).toNat ∧ (ml_quaN n t s l).2 81 (t 59 33).toNat ≤ 15)
  | 0, t, s, l, h, hs => ⟨ml_s.rf h, fun q => by cases q⟩
  | n + 1, t, s, l, h, hs => by
    simp only [ml_quaN]
    split
    · next hc =>
      split
      · exact ⟨ml_s_wr h _ _, fun q => by cases q⟩
      · have a1 := ml_s_st h (by omega)
        have hb := ml_bits hs (q := mp_here t - 48) (by omega)
        obtain ⟨b1, b2⟩ := ml_quaN_s n (t := mp_st t) (s := hz_ior s (hz_ishl 1 (mp_here t - 48))) (l := mp_here t - 48) a1.1 (by omega)
        exact ⟨a1.tr b1, b2⟩
    · exact ml_quaE_s h hs
theorem ml_emp_s {t : hy_T} (h : mp_ok t) (o : Int) : ml_s t (ml_emp t o).2 ∧ ((ml_emp t o).1 = true → 0 ≤ (ml_emp t o).2 59 13 ∧ (ml_emp t o).2 59 13 < 6) := by
  unfold ml_emp
  split
  · next hd =>
    have hd2 := mp_dig_h hd
    have a1 := ml_s_num h (mp_here t - 48)
    have e : mp_here (hy_up t 59 13 (mp_here t - 48)) = mp_here t := rfl
    split
    · split
      · exact ⟨a1.tr (ml_s_wr a1.1 _ _), fun q => by cases q⟩
      · refine ⟨a1.tr (ml_s_st a1.1 (by rw [e]; omega)), fun _ => ?_⟩
        show 0 ≤ mp_here t - 48 ∧ mp_here t - 48 < 6
        omega
    · exact ⟨a1.tr (ml_s_wr a1.1 _ _), fun q => by cases q⟩
  · exact ⟨ml_s_wr h _ _, fun q => by cases q⟩
/-- a line that is well read -/
def ml_row (t : hy_T) (k : Nat) : Prop := (0 ≤ t 80 k ∧ t 80 k < 12) ∧ (1 ≤ t 81 k ∧ t 81 k ≤ 15) ∧ (0 ≤ t 82 k ∧ t 82 k < 6) ∧ (0 ≤ t 83 k ∧ t 83 k < 6) ∧ (t 84 k = 0 ∨ t 84 k = 1)
def ml_good (t : hy_T) : Prop := (0 ≤ t 59 33 ∧ t 59 33 ≤ 8) ∧ ∀ k : Nat, (k : Int) < t 59 33 → ml_row t k
abbrev mlmX : Nat → Nat → Bool := fun r j => mlnX r j || (r == 59 && j == 33)
theorem ml_line_s {t : hy_T} (h : mp_ok t) (hg : ml_good t) : mp_ok (ml_line t).2 ∧ hy_F mlmX t (ml_line t).2 ∧ t 59 10 ≤ (ml_line t).2 59 10 ∧ ml_good (ml_line t).2 := by
  have fin : ∀ t1, ml_s t t1 → mp_ok t1 ∧ hy_F mlmX t t1 ∧ t 59 10 ≤ t1 59 10 ∧ ml_good t1 := fun t1 hs => by
    obtain ⟨s1, s2, s3, s4⟩ := hs
    refine ⟨s1, s2.w (fun r j q => by revert q; simp [mlmX, mlnX]; omega), s3, ?_⟩
    obtain ⟨g1, g2⟩ := hg
    have e : t1 59 33 = t 59 33 := s2 59 33 rfl
    refine ⟨by rw [e]; exact g1, fun k hk => ?_⟩
    rw [e] at hk
    have hne : k ≠ (t 59 33).toNat := by omega
    unfold ml_row
    rw [s4 80 k (by decide) (by decide) hne, s4 81 k (by decide) (by decide) hne, s4 82 k (by decide) (by decide) hne, s4 83 k (by decide) (by decide) hne, s4 84 k (by decide) (by decide) hne]
    exact g2 k hk
  unfold ml_line
  split
  · split
    · exact fin _ (ml_s_wr h _ _)
    · next h8 =>
      have hm := hg.1
      obtain ⟨a1, a2⟩ := ml_col_s h
      split
      · next hc =>
        have a3 := a2 hc
        have ea : (ml_col t).2 59 33 = t 59 33 := a1.2.1 59 33 rfl
        obtain ⟨b1, b2⟩ := ml_quaN_s 5 (t := (ml_col t).2) (s := 0) (l := -1) a1.1 (by decide)
        split
        · next hq =>
          have b3 := b2 hq
          rw [ea] at b3
          have ab := a1.tr b1
          change ml_s t (ml_qua (ml_col t).2).2 at ab
          change 1 ≤ (ml_qua (ml_col t).2).2 81 _ ∧ (ml_qua (ml_col t).2).2 81 _ ≤ 15 at b3
          have b80 : (ml_qua (ml_col t).2).2 80 (t 59 33).toNat = (ml_col t).2 80 (t 59 33).toNat ∨ True := .inr trivial
          have q80 : ∀ (n : Nat) (u : hy_T) (s l : Int) (j : Nat), (ml_quaN n u s l).2 80 j = u 80 j := by
            intro n
            induction n with
            | zero => intro u s l j; rfl
            | succ n ih =>
              intro u s l j
              simp only [ml_quaN, ml_quaE]
              split
              · split
                · rfl
                · rw [ih]; rfl
              · split
                · rfl
                · rfl
          have c80 : 0 ≤ (ml_qua (ml_col t).2).2 80 (t 59 33).toNat ∧ (ml_qua (ml_col t).2).2 80 (t 59 33).toNat < 12 := by
            unfold ml_qua
            rw [q80]
            exact a3
          revert ab b3 c80
          generalize (ml_qua (ml_col t).2).2 = u
          intro ab b3 c80
          have eu : u 59 33 = t 59 33 := ab.2.1 59 33 rfl
          unfold ml_tail
          split
          · next hs =>
            have d1 := ml_s_row ab.1 (r := 84) (by decide) (by decide) (if mp_here u = 43 then 1 else 0)
            have eh : mp_here (hy_up u 84 (u 59 33).toNat (if mp_here u = 43 then 1 else 0)) = mp_here u := rfl
            have d2 := d1.tr (ml_s_st d1.1 (by rw [eh]; omega))
            change ml_s u (ml_sgn u) at d2
            have d84 : ml_sgn u 84 (t 59 33).toNat = if mp_here u = 43 then 1 else 0 := by
              show hy_up u 84 (u 59 33).toNat _ 84 (t 59 33).toNat = _
              rw [eu]
              simp [hy_up]
            obtain ⟨e1, e2⟩ := ml_emp_s d2.1 (-1)
            have f1 := (ab.tr d2).tr e1
            unfold ml_two
            split
            · next he =>
              have e3 := e2 he
              have p8 : ∀ (u : hy_T) (o : Int) (r j : Nat), r ≠ 59 → (ml_emp u o).2 r j = u r j := by
                intro u o r j hr
                unfold ml_emp
                split
                · split
                  · split
                    · show hy_up (hy_up u 59 13 _) 59 12 _ r j = _; rw [hy_up_ne hr, hy_up_ne hr]
                    · show hy_up (hy_up u 59 13 _) 59 10 _ r j = _; rw [hy_up_ne hr, hy_up_ne hr]
                  · show hy_up (hy_up u 59 13 _) 59 12 _ r j = _; rw [hy_up_ne hr, hy_up_ne hr]
                · show hy_up u 59 12 _ r j = _; rw [hy_up_ne hr]
              have v80 : (ml_emp (ml_sgn u) (-1)).2 80 (t 59 33).toNat = u 80 (t 59 33).toNat := by
                rw [p8 _ _ _ _ (by decide)]; unfold ml_sgn mp_st; rw [hy_up_ne (by decide), hy_up_ne (by decide)]
              have v81 : (ml_emp (ml_sgn u) (-1)).2 81 (t 59 33).toNat = u 81 (t 59 33).toNat := by
                rw [p8 _ _ _ _ (by decide)]; unfold ml_sgn mp_st; rw [hy_up_ne (by decide), hy_up_ne (by decide)]
              have v84 : (ml_emp (ml_sgn u) (-1)).2 84 (t 59 33).toNat = 0 ∨ (ml_emp (ml_sgn u) (-1)).2 84 (t 59 33).toNat = 1 := by
                rw [p8 _ _ _ _ (by decide), d84]; split
                · exact .inr rfl
                · exact .inl rfl
              revert f1 e3 v80 v81 v84
              generalize (ml_emp (ml_sgn u) (-1)).2 = y
              intro f1 e3 v80 v81 v84
              have ey : y 59 33 = t 59 33 := f1.2.1 59 33 rfl
              have g1 := ml_s_row f1.1 (r := 82) (by decide) (by decide) (y 59 13)
              change ml_s y (ml_from y) at g1
              obtain ⟨i1, i2⟩ := ml_emp_s g1.1 (y 59 13)
              have k1 := (f1.tr g1).tr i1
              split
              · next hz =>
                have i3 := i2 hz
                have w : ∀ r, r ≠ 59 → r ≠ 82 → (ml_emp (ml_from y) (y 59 13)).2 r (t 59 33).toNat = y r (t 59 33).toNat := fun r h1 h2 => by
                  rw [p8 _ _ _ _ h1]; exact hy_up_ne h2
                have w82 : (ml_emp (ml_from y) (y 59 13)).2 82 (t 59 33).toNat = y 59 13 := by
                  rw [p8 _ _ _ _ (by decide)]
                  show hy_up y 82 (y 59 33).toNat (y 59 13) 82 (t 59 33).toNat = _
                  rw [ey]; simp [hy_up]
                have x80 := w 80 (by decide) (by decide)
                have x81 := w 81 (by decide) (by decide)
                have x84 := w 84 (by decide) (by decide)
                revert k1 i3 w82 x80 x81 x84
                generalize (ml_emp (ml_from y) (y 59 13)).2 = z
                intro k1 i3 w82 x80 x81 x84
                have ez : z 59 33 = t 59 33 := k1.2.1 59 33 rfl
                have l1 := k1.tr (ml_s_row k1.1 (r := 83) (by decide) (by decide) (z 59 13))
                have em : ml_end z 59 33 = t 59 33 + 1 := by show z 59 33 + 1 = _; rw [ez]
                have er : ∀ r j, r ≠ 59 → ml_end z r j = hy_up z 83 (z 59 33).toNat (z 59 13) r j := fun r j hr => hy_up_ne hr
                refine ⟨l1.1, ?_, l1.2.2.1, ⟨by dsimp only; omega, fun k hk => ?_⟩⟩
                · exact (l1.2.1.w (fun r j q => by revert q; simp [mlmX, mlnX]; omega)).up (r := 59) (j := 33) rfl
                · unfold ml_row
                  dsimp only
                  rw [er 80 k (by decide), er 81 k (by decide), er 82 k (by decide), er 83 k (by decide), er 84 k (by decide)]
                  dsimp only at hk
                  by_cases hkk : k = (t 59 33).toNat
                  · subst hkk
                    rw [hy_up_ne (r' := 80) (by decide), hy_up_ne (r' := 81) (by decide), hy_up_ne (r' := 82) (by decide), hy_up_ne (r' := 84) (by decide), w82, x80, x81, x84, v80, v81, show hy_up z 83 (z 59 33).toNat (z 59 13) 83 (t 59 33).toNat = z 59 13 by rw [ez]; simp [hy_up]]
                    exact ⟨c80, b3, e3, i3, v84⟩
                  · have hk2 : (k : Int) < t 59 33 := by omega
                    obtain ⟨-, -, -, s4⟩ := l1
                    rw [s4 80 k (by decide) (by decide) hkk, s4 81 k (by decide) (by decide) hkk, s4 82 k (by decide) (by decide) hkk, s4 83 k (by decide) (by decide) hkk, s4 84 k (by decide) (by decide) hkk]
                    exact hg.2 k hk2
              · exact fin _ k1
            · exact fin _ f1
          · exact fin _ (ab.tr (ml_s_wr ab.1 _ _))
        · exact fin _ (a1.tr b1)
      · exact fin _ a1
  · exact fin _ (ml_s_wr h _ _)

theorem ml_linesN_s : ∀ (n : Nat) {p : Bool × hy_T}, mp_ok p.2 → ml_good p.2 → mp_ok (ml_linesN n p).2 ∧ hy_F mlmX p.2 (ml_linesN n p).2 ∧ ml_good (ml_linesN n p).2
  | 0, p, h, hg => ⟨h, hy_F.rf, hg⟩
  | n + 1, p, h, hg => by
    simp only [ml_linesN]
    split
    · obtain ⟨a1, a2, a3, a4⟩ := mp_take_s (c := 44) h (by decide)
      have a5 : hy_F mlmX p.2 (mp_take p.2 44).2 := a2.w (fun r j q => by revert q; simp [mlmX, mlnX, mpX]; omega)
      have a6 : ml_good (mp_take p.2 44).2 := by
        unfold ml_good ml_row
        simp only [a2 59 33 rfl, a2 80 _ rfl, a2 81 _ rfl, a2 82 _ rfl, a2 83 _ rfl, a2 84 _ rfl]
        exact hg
      split
      · obtain ⟨b1, b2, b3, b4⟩ := ml_line_s a1 a6
        obtain ⟨c1, c2, c3⟩ := ml_linesN_s n (p := ml_line (mp_take p.2 44).2) b1 b4
        exact ⟨c1, (a5.tr' b2).tr' c2, c3⟩
      · obtain ⟨c1, c2, c3⟩ := ml_linesN_s n (p := (false, (mp_take p.2 44).2)) a1 a6
        exact ⟨c1, a5.tr' c2, c3⟩
    · exact ⟨h, hy_F.rf, hg⟩
abbrev mlsX : Nat → Nat → Bool := fun r j => r == 80 || r == 81 || r == 82 || r == 83 || r == 84 || (r == 59 && (j == 9 || j == 10 || j == 11 || j == 12 || j == 13 || j == 33))
def ml_t0 (t : hy_T) (n : Int) : hy_T := hy_up (hy_up (hy_up t 59 10 0) 59 11 n) 59 33 0
theorem ml_t0_s (t : hy_T) {n : Int} (hn : n ≤ 260) : mp_ok (ml_t0 t n) ∧ ml_good (ml_t0 t n) ∧ hy_F mlsX t (ml_t0 t n) := by
  refine ⟨⟨⟨?_, ?_⟩, ?_⟩, ⟨⟨?_, ?_⟩, fun k hk => ?_⟩, ((hy_F.rf.up rfl).up rfl).up rfl⟩
  · show (0 : Int) ≤ 0; decide
  · show (0 : Int) ≤ 260; decide
  · exact hn
  · show (0 : Int) ≤ 0; decide
  · show (0 : Int) ≤ 8; decide
  · have hk' : (k : Int) < 0 := hk
    omega
theorem ml_lines_s (t : hy_T) {n : Int} (hn : n ≤ 260) : ml_good (ml_lines t n).2 ∧ hy_F mlsX t (ml_lines t n).2 := by
  obtain ⟨a1, a2, a3⟩ := ml_t0_s t hn
  obtain ⟨b1, b2, b3, b4⟩ := ml_line_s a1 a2
  obtain ⟨c1, c2, c3⟩ := ml_linesN_s 261 (p := ml_line (ml_t0 t n)) b1 b4
  refine ⟨c3, ?_⟩
  refine ((a3.tr' (b2.w (fun r j q => ?_))).tr' (c2.w (fun r j q => ?_))).up rfl
  · revert q; simp [mlsX, mlmX, mlnX]; omega
  · revert q; simp [mlsX, mlmX, mlnX]; omega
section MZ
variable {sc : List Int32} {t : hy_T}
theorem c_M_readsColour (h : mp_ok t) (hm : 0 ≤ t 59 33 ∧ t 59 33 < 8) : hy_Ct sc hm_M_readsColour 2 [.inr (some 59)] t (hy_e (some (hy_b (ml_col t).1)) (ml_col t).2) := by
  refine hy_mk_ct ok_M_readsColour ck_M_readsColour (Nat.le_of_ble_eq_true rfl) ?_
  have hp := h.1
  generalize hG : ml_col t = G
  have out : ∀ (t1 : hy_T), ml_s t t1 → t1 = ml_colN 2 (hy_up t 59 13 0) → hy_W sc hm_M_readsColour 2 33 [.inr (some 59), .inl (t 59 10)] [] t1 (hy_e (some (hy_b G.1)) G.2) := by
    intro t1 hs ht
    have e : t1 59 33 = t 59 33 := hs.2.1 59 33 rfl
    have hok := hs.1
    by_cases hc : t1 59 13 < 12
    · have eG : mp_take (hy_up t1 80 (t1 59 33).toNat (t1 59 13)) 64 = G := by rw [← hG]; unfold ml_col; rw [← ht, if_pos hc, e]
      have hr := (ml_s_row hok (r := 80) (by decide) (by decide) (t1 59 13)).1
      refine hy_aload (i := 33) rfl rfl ?_
      refine hy_get (i := 34) (fk := 13) rfl rfl rfl ?_
      refine hy_const (i := 35) rfl (by decide) ?_
      refine hy_ic_lt (i := 36) (tt := 42) rfl (fun zc1 => ?_) (fun zc1 => ?_)
      · refine hy_aload (i := 42) rfl rfl ?_
        refine hy_getr (i := 43) rfl rfl ?_
        refine hy_aload (i := 44) rfl rfl ?_
        refine hy_get (i := 45) (fk := 33) rfl rfl rfl ?_
        refine hy_aload (i := 46) rfl rfl ?_
        refine hy_get (i := 47) (fk := 13) rfl rfl rfl ?_
        refine hy_iast (i := 48) rfl rfl (by omega) rfl ?_
        refine hy_aload (i := 49) rfl rfl ?_
        refine hy_const (i := 50) rfl (by decide) ?_
        refine hy_cV1e (i := 51) rfl mj_M_takes (by decide) rfl (Nat.le_of_ble_eq_true rfl) rfl rfl rfl (c_M_takes (by assumption)) ?_
        refine hy_zreturn (i := 52) rfl rfl (by first | decide | exact hy_b01 _) ?_
        rw [← eG]; exact ⟨rfl, rfl⟩
      · omega
    · have eG : (false, mp_wr t1 3 (t 59 10)) = G := by rw [← hG]; unfold ml_col; rw [← ht, if_neg hc]
      refine hy_aload (i := 33) rfl rfl ?_
      refine hy_get (i := 34) (fk := 13) rfl rfl rfl ?_
      refine hy_const (i := 35) rfl (by decide) ?_
      refine hy_ic_lt (i := 36) (tt := 42) rfl (fun zc1 => ?_) (fun zc1 => ?_)
      · omega
      · refine hy_aload (i := 37) rfl rfl ?_
        refine hy_const (i := 38) rfl (by decide) ?_
        refine hy_iload (i := 39) rfl rfl ?_
        refine hy_cV2e (i := 40) rfl mj_M_wrongAt (by decide) rfl (Nat.le_of_ble_eq_true rfl) rfl rfl rfl (c_M_wrongAt (by decide) hp) ?_
        refine hy_zreturn (i := 41) rfl rfl (by first | decide | exact hy_b01 _) ?_
        rw [← eG]; exact ⟨rfl, rfl⟩
  have loop : ∀ (m : Nat), ∀ (t1 : hy_T), m ≤ 2 → t1 59 10 + m = t 59 10 + 2 → (0 ≤ t1 59 13 ∧ t1 59 13 ≤ 100000) → (m = 2 → t1 59 13 = 0) → (m = 1 → t1 59 13 ≤ 9) → ml_s t t1 → ml_colN m t1 = ml_colN 2 (hy_up t 59 13 0) → hy_W sc hm_M_readsColour 2 6 [.inr (some 59), .inl (t 59 10)] [] t1 (hy_e (some (hy_b G.1)) G.2) := by
    intro m
    induction m with
    | zero =>
      intro t1 hm2 hm h13 h2 h1 hs hv
      have hok := hs.1
      refine hy_aload (i := 6) rfl rfl ?_
      refine hy_cV0e (i := 7) rfl mj_M_isDigit (by decide) rfl (Nat.le_of_ble_eq_true rfl) rfl rfl rfl (c_M_isDigit (by assumption)) ?_
      refine hy_ib_eq (i := 8) (tt := 33) rfl (fun zc1 => ?_) (fun zc1 => ?_)
      · exact out t1 hs hv
      · refine hy_aload (i := 9) rfl rfl ?_
        refine hy_get (i := 10) (fk := 10) rfl rfl rfl ?_
        refine hy_iload (i := 11) rfl rfl ?_
        refine hy_const (i := 12) rfl (by decide) ?_
        refine hy_iadd (i := 13) rfl (by omega) ?_
        refine hy_ic_ge (i := 14) (tt := 33) rfl (fun zc2 => ?_) (fun zc2 => ?_)
        · exact out t1 hs hv
        · omega
    | succ m ih =>
      intro t1 hm2 hm h13 h2 h1 hs hv
      have hok := hs.1
      simp only [ml_colN] at hv
      by_cases hd : mp_dig t1 = true
      · rw [if_pos hd] at hv
        have hd2 := mp_dig_h hd
        have a1 := ml_s_num hok (10 * t1 59 13 + mp_here t1 - 48)
        have eh : mp_here (hy_up t1 59 13 (10 * t1 59 13 + mp_here t1 - 48)) = mp_here t1 := rfl
        have a2 := hs.tr (a1.tr (ml_s_st a1.1 (by rw [eh]; omega)))
        have hp1 := hok.1
        refine hy_aload (i := 6) rfl rfl ?_
        refine hy_cV0e (i := 7) rfl mj_M_isDigit (by decide) rfl (Nat.le_of_ble_eq_true rfl) rfl rfl rfl (c_M_isDigit (by assumption)) ?_
        refine hy_ib_eq (i := 8) (tt := 33) rfl (fun zc1 => ?_) (fun zc1 => ?_)
        · exact bb_abs hd zc1
        · refine hy_aload (i := 9) rfl rfl ?_
          refine hy_get (i := 10) (fk := 10) rfl rfl rfl ?_
          refine hy_iload (i := 11) rfl rfl ?_
          refine hy_const (i := 12) rfl (by decide) ?_
          refine hy_iadd (i := 13) rfl (by omega) ?_
          refine hy_ic_ge (i := 14) (tt := 33) rfl (fun zc2 => ?_) (fun zc2 => ?_)
          · omega
          · refine hy_aload (i := 15) rfl rfl ?_
            refine hy_const (i := 16) rfl (by decide) ?_
            refine hy_aload (i := 17) rfl rfl ?_
            refine hy_get (i := 18) (fk := 13) rfl rfl rfl ?_
            refine hy_imul (i := 19) rfl (by omega) ?_
            refine hy_aload (i := 20) rfl rfl ?_
            refine hy_cV0e (i := 21) rfl mj_M_here (by decide) rfl (Nat.le_of_ble_eq_true rfl) rfl rfl rfl (c_M_here (by assumption)) ?_
            refine hy_iadd (i := 22) rfl (by omega) ?_
            refine hy_const (i := 23) rfl (by decide) ?_
            refine hy_isub (i := 24) rfl (by omega) ?_
            refine hy_put (i := 25) (fk := 13) rfl rfl rfl rfl ?_
            refine hy_aload (i := 26) rfl rfl ?_
            refine hy_aload (i := 27) rfl rfl ?_
            refine hy_get (i := 28) (fk := 10) rfl rfl rfl ?_
            refine hy_const (i := 29) rfl (by decide) ?_
            rw [show hy_up t1 59 13 (10 * t1 59 13 + mp_here t1 - 48) 59 10 = t1 59 10 from rfl]
            refine hy_iadd (i := 30) rfl (by omega) ?_
            refine hy_put (i := 31) (fk := 10) rfl rfl rfl rfl ?_
            refine hy_goto (i := 32) (tt := 6) rfl ?_
            exact ih _ (by omega) (by show t1 59 10 + 1 + (m : Int) = _; omega) (by show 0 ≤ 10 * t1 59 13 + mp_here t1 - 48 ∧ 10 * t1 59 13 + mp_here t1 - 48 ≤ 100000; omega) (fun h => by omega) (fun h => by show 10 * t1 59 13 + mp_here t1 - 48 ≤ 9; have := h2 (by omega); omega) a2 hv
      · rw [if_neg hd] at hv
        refine hy_aload (i := 6) rfl rfl ?_
        refine hy_cV0e (i := 7) rfl mj_M_isDigit (by decide) rfl (Nat.le_of_ble_eq_true rfl) rfl rfl rfl (c_M_isDigit (by assumption)) ?_
        refine hy_ib_eq (i := 8) (tt := 33) rfl (fun zc1 => ?_) (fun zc1 => ?_)
        · exact out t1 hs hv
        · exact absurd zc1 hd
  have s0 := ml_s_num h 0
  refine hy_aload (i := 0) rfl rfl ?_
  refine hy_get (i := 1) (fk := 10) rfl rfl rfl ?_
  refine hy_istore (i := 2) rfl ?_
  refine hy_aload (i := 3) rfl rfl ?_
  refine hy_const (i := 4) rfl (by decide) ?_
  refine hy_put (i := 5) (fk := 13) rfl rfl rfl rfl ?_
  exact loop 2 _ (by decide) rfl (by show (0 : Int) ≤ 0 ∧ (0 : Int) ≤ 100000; decide) (fun _ => rfl) (fun h => by omega) s0 rfl
theorem c_M_readsQuarters (h : mp_ok t) (hm : 0 ≤ t 59 33 ∧ t 59 33 < 8) : hy_Ct sc hm_M_readsQuarters 1 [.inr (some 59)] t (hy_e (some (hy_b (ml_qua t).1)) (ml_qua t).2) := by
  refine hy_mk_ct ok_M_readsQuarters ck_M_readsQuarters (Nat.le_of_ble_eq_true rfl) ?_
  generalize hG : ml_qua t = G
  have loop : ∀ (m : Nat), ∀ (t1 : hy_T) (s l : Int) (v3 : hy_V), (-1 ≤ l ∧ l ≤ 3) → 4 ≤ l + m → ml_s t t1 → ml_quaN m t1 s l = G → hy_W sc hm_M_readsQuarters 1 4 [.inr (some 59), .inl s, .inl l, v3] [] t1 (hy_e (some (hy_b G.1)) G.2) := by
    intro m
    induction m with
    | zero =>
      intro t1 s l v3 hl hm h1 hv
      omega
    | succ m ih =>
      intro t1 s l v3 hl hm hs hv
      have hok := hs.1
      have hp1 := hok.1
      have e : t1 59 33 = t 59 33 := hs.2.1 59 33 rfl
      simp only [ml_quaN] at hv
      by_cases hc : 48 ≤ mp_here t1 ∧ mp_here t1 ≤ 51
      · rw [if_pos hc] at hv
        by_cases hq : mp_here t1 - 48 ≤ l
        · rw [if_pos hq] at hv
          refine hy_aload (i := 4) rfl rfl ?_
          refine hy_cV0e (i := 5) rfl mj_M_here (by decide) rfl (Nat.le_of_ble_eq_true rfl) rfl rfl rfl (c_M_here (by assumption)) ?_
          refine hy_const (i := 6) rfl (by decide) ?_
          refine hy_const (i := 7) rfl (by decide) ?_
          refine hy_cS3e (i := 8) rfl (by decide) mj_M_in (by decide) rfl (Nat.le_of_ble_eq_true rfl) (c_M_in) ?_
          refine hy_ib_eq (i := 9) (tt := 39) rfl (fun zc1 => ?_) (fun zc1 => ?_)
          · simp only [decide_eq_false_iff_not] at zc1; omega
          · refine hy_aload (i := 10) rfl rfl ?_
            refine hy_cV0e (i := 11) rfl mj_M_here (by decide) rfl (Nat.le_of_ble_eq_true rfl) rfl rfl rfl (c_M_here (by assumption)) ?_
            refine hy_const (i := 12) rfl (by decide) ?_
            refine hy_isub (i := 13) rfl (by omega) ?_
            refine hy_istore (i := 14) rfl ?_
            refine hy_iload (i := 15) rfl rfl ?_
            refine hy_iload (i := 16) rfl rfl ?_
            refine hy_ic_gt (i := 17) (tt := 24) rfl (fun zc2 => ?_) (fun zc2 => ?_)
            · omega
            · refine hy_aload (i := 18) rfl rfl ?_
              refine hy_const (i := 19) rfl (by decide) ?_
              refine hy_aload (i := 20) rfl rfl ?_
              refine hy_get (i := 21) (fk := 10) rfl rfl rfl ?_
              refine hy_cV2e (i := 22) rfl mj_M_wrongAt (by decide) rfl (Nat.le_of_ble_eq_true rfl) rfl rfl rfl (c_M_wrongAt (by decide) hp1) ?_
              refine hy_zreturn (i := 23) rfl rfl (by first | decide | exact hy_b01 _) ?_
              rw [← hv]; exact ⟨rfl, rfl⟩
        · rw [if_neg hq] at hv
          have a2 := hs.tr (ml_s_st hok (by omega))
          refine hy_aload (i := 4) rfl rfl ?_
          refine hy_cV0e (i := 5) rfl mj_M_here (by decide) rfl (Nat.le_of_ble_eq_true rfl) rfl rfl rfl (c_M_here (by assumption)) ?_
          refine hy_const (i := 6) rfl (by decide) ?_
          refine hy_const (i := 7) rfl (by decide) ?_
          refine hy_cS3e (i := 8) rfl (by decide) mj_M_in (by decide) rfl (Nat.le_of_ble_eq_true rfl) (c_M_in) ?_
          refine hy_ib_eq (i := 9) (tt := 39) rfl (fun zc1 => ?_) (fun zc1 => ?_)
          · simp only [decide_eq_false_iff_not] at zc1; omega
          · refine hy_aload (i := 10) rfl rfl ?_
            refine hy_cV0e (i := 11) rfl mj_M_here (by decide) rfl (Nat.le_of_ble_eq_true rfl) rfl rfl rfl (c_M_here (by assumption)) ?_
            refine hy_const (i := 12) rfl (by decide) ?_
            refine hy_isub (i := 13) rfl (by omega) ?_
            refine hy_istore (i := 14) rfl ?_
            refine hy_iload (i := 15) rfl rfl ?_
            refine hy_iload (i := 16) rfl rfl ?_
            refine hy_ic_gt (i := 17) (tt := 24) rfl (fun zc2 => ?_) (fun zc2 => ?_)
            · refine hy_iload (i := 24) rfl rfl ?_
              refine hy_istore (i := 25) rfl ?_
              refine hy_iload (i := 26) rfl rfl ?_
              refine hy_const (i := 27) rfl (by decide) ?_
              refine hy_iload (i := 28) rfl rfl ?_
              refine hy_ishl (i := 29) rfl ?_
              refine hy_ior (i := 30) rfl ?_
              refine hy_istore (i := 31) rfl ?_
              refine hy_aload (i := 32) rfl rfl ?_
              refine hy_aload (i := 33) rfl rfl ?_
              refine hy_get (i := 34) (fk := 10) rfl rfl rfl ?_
              refine hy_const (i := 35) rfl (by decide) ?_
              refine hy_iadd (i := 36) rfl (by omega) ?_
              refine hy_put (i := 37) (fk := 10) rfl rfl rfl rfl ?_
              refine hy_goto (i := 38) (tt := 4) rfl ?_
              exact ih _ _ _ _ (by omega) (by omega) a2 hv
            · omega
      · rw [if_neg hc] at hv
        unfold ml_quaE at hv
        by_cases h0 : 0 < s
        · rw [if_pos h0] at hv
          refine hy_aload (i := 4) rfl rfl ?_
          refine hy_cV0e (i := 5) rfl mj_M_here (by decide) rfl (Nat.le_of_ble_eq_true rfl) rfl rfl rfl (c_M_here (by assumption)) ?_
          refine hy_const (i := 6) rfl (by decide) ?_
          refine hy_const (i := 7) rfl (by decide) ?_
          refine hy_cS3e (i := 8) rfl (by decide) mj_M_in (by decide) rfl (Nat.le_of_ble_eq_true rfl) (c_M_in) ?_
          refine hy_ib_eq (i := 9) (tt := 39) rfl (fun zc1 => ?_) (fun zc1 => ?_)
          · refine hy_aload (i := 39) rfl rfl ?_
            refine hy_getr (i := 40) rfl rfl ?_
            refine hy_aload (i := 41) rfl rfl ?_
            refine hy_get (i := 42) (fk := 33) rfl rfl rfl ?_
            refine hy_iload (i := 43) rfl rfl ?_
            refine hy_iast (i := 44) rfl rfl (by omega) rfl ?_
            refine hy_iload (i := 45) rfl rfl ?_
            refine hy_if_gt (i := 46) (tt := 53) rfl (fun zc2 => ?_) (fun zc2 => ?_)
            · refine hy_const (i := 53) rfl (by decide) ?_
              refine hy_goto (i := 54) (tt := 56) rfl ?_
              refine hy_zreturn (i := 56) rfl rfl (by first | decide | exact hy_b01 _) ?_
              rw [← hv]; exact ⟨rfl, rfl⟩
            · omega
          · simp only [decide_eq_true_eq] at zc1; omega
        · rw [if_neg h0] at hv
          refine hy_aload (i := 4) rfl rfl ?_
          refine hy_cV0e (i := 5) rfl mj_M_here (by decide) rfl (Nat.le_of_ble_eq_true rfl) rfl rfl rfl (c_M_here (by assumption)) ?_
          refine hy_const (i := 6) rfl (by decide) ?_
          refine hy_const (i := 7) rfl (by decide) ?_
          refine hy_cS3e (i := 8) rfl (by decide) mj_M_in (by decide) rfl (Nat.le_of_ble_eq_true rfl) (c_M_in) ?_
          refine hy_ib_eq (i := 9) (tt := 39) rfl (fun zc1 => ?_) (fun zc1 => ?_)
          · refine hy_aload (i := 39) rfl rfl ?_
            refine hy_getr (i := 40) rfl rfl ?_
            refine hy_aload (i := 41) rfl rfl ?_
            refine hy_get (i := 42) (fk := 33) rfl rfl rfl ?_
            refine hy_iload (i := 43) rfl rfl ?_
            refine hy_iast (i := 44) rfl rfl (by omega) rfl ?_
            refine hy_iload (i := 45) rfl rfl ?_
            refine hy_if_gt (i := 46) (tt := 53) rfl (fun zc2 => ?_) (fun zc2 => ?_)
            · omega
            · refine hy_aload (i := 47) rfl rfl ?_
              refine hy_const (i := 48) rfl (by decide) ?_
              refine hy_aload (i := 49) rfl rfl ?_
              refine hy_get (i := 50) (fk := 10) rfl rfl rfl ?_
              refine hy_cV2e (i := 51) rfl mj_M_wrongAt (by decide) rfl (Nat.le_of_ble_eq_true rfl) rfl rfl rfl (c_M_wrongAt (by decide) (by first | exact hp1 | exact hok.1)) ?_
              refine hy_ib_eq (i := 52) (tt := 55) rfl (fun zc3 => ?_) (fun zc3 => ?_)
              · refine hy_const (i := 55) rfl (by decide) ?_
                refine hy_zreturn (i := 56) rfl rfl (by first | decide | exact hy_b01 _) ?_
                rw [← hv]; exact ⟨rfl, rfl⟩
              · cases zc3
          · simp only [decide_eq_true_eq] at zc1; omega
  refine hy_const (i := 0) rfl (by decide) ?_
  refine hy_istore (i := 1) rfl ?_
  refine hy_const (i := 2) rfl (by decide) ?_
  refine hy_istore (i := 3) rfl ?_
  exact loop 5 t 0 (-1) _ (by decide) (by decide) (ml_s.rf h) hG
theorem c_M_readsEmpire {o : Int} (h : mp_ok t) : hy_Ct sc hm_M_readsEmpire 2 [.inr (some 59), .inl o] t (hy_e (some (hy_b (ml_emp t o).1)) (ml_emp t o).2) := by
  refine hy_mk_ct ok_M_readsEmpire ck_M_readsEmpire (Nat.le_of_ble_eq_true rfl) ?_
  have hp := h.1
  by_cases hd : mp_dig t = true
  · have hd2 := mp_dig_h hd
    by_cases h6 : mp_here t - 48 < 6
    · by_cases ho : mp_here t - 48 = o
      · rw [show ml_emp t o = (false, mp_wr (hy_up t 59 13 (mp_here t - 48)) 6 (t 59 10)) by unfold ml_emp; rw [if_pos hd, if_pos h6, if_pos ho]]
        refine hy_aload (i := 0) rfl rfl ?_
        refine hy_cV0e (i := 1) rfl mj_M_isDigit (by decide) rfl (Nat.le_of_ble_eq_true rfl) rfl rfl rfl (c_M_isDigit (by assumption)) ?_
        refine hy_ib_ne (i := 2) (tt := 9) rfl (fun zc1 => ?_) (fun zc1 => ?_)
        · refine hy_aload (i := 9) rfl rfl ?_
          refine hy_aload (i := 10) rfl rfl ?_
          refine hy_cV0e (i := 11) rfl mj_M_here (by decide) rfl (Nat.le_of_ble_eq_true rfl) rfl rfl rfl (c_M_here (by assumption)) ?_
          refine hy_const (i := 12) rfl (by decide) ?_
          refine hy_isub (i := 13) rfl (by omega) ?_
          refine hy_put (i := 14) (fk := 13) rfl rfl rfl rfl ?_
          refine hy_aload (i := 15) rfl rfl ?_
          refine hy_get (i := 16) (fk := 13) rfl rfl rfl ?_
          refine hy_const (i := 17) rfl (by decide) ?_
          rw [show hy_up t 59 13 (mp_here t - 48) 59 13 = mp_here t - 48 from rfl]
          refine hy_ic_lt (i := 18) (tt := 25) rfl (fun zc2 => ?_) (fun zc2 => ?_)
          · refine hy_aload (i := 25) rfl rfl ?_
            refine hy_get (i := 26) (fk := 13) rfl rfl rfl ?_
            refine hy_iload (i := 27) rfl rfl ?_
            rw [show hy_up t 59 13 (mp_here t - 48) 59 13 = mp_here t - 48 from rfl]
            refine hy_ic_ne (i := 28) (tt := 35) rfl (fun zc3 => ?_) (fun zc3 => ?_)
            · omega
            · refine hy_aload (i := 29) rfl rfl ?_
              refine hy_const (i := 30) rfl (by decide) ?_
              refine hy_aload (i := 31) rfl rfl ?_
              refine hy_get (i := 32) (fk := 10) rfl rfl rfl ?_
              refine hy_cV2e (i := 33) rfl mj_M_wrongAt (by decide) rfl (Nat.le_of_ble_eq_true rfl) rfl rfl rfl (c_M_wrongAt (by decide) (show 0 ≤ t 59 10 ∧ t 59 10 ≤ 260 from hp)) ?_
              refine hy_zreturn (i := 34) rfl rfl (by first | decide | exact hy_b01 _) ?_
              exact ⟨rfl, rfl⟩
          · omega
        · exact bb_abs hd zc1
      · rw [show ml_emp t o = (true, mp_st (hy_up t 59 13 (mp_here t - 48))) by unfold ml_emp; rw [if_pos hd, if_pos h6, if_neg ho]]
        refine hy_aload (i := 0) rfl rfl ?_
        refine hy_cV0e (i := 1) rfl mj_M_isDigit (by decide) rfl (Nat.le_of_ble_eq_true rfl) rfl rfl rfl (c_M_isDigit (by assumption)) ?_
        refine hy_ib_ne (i := 2) (tt := 9) rfl (fun zc1 => ?_) (fun zc1 => ?_)
        · refine hy_aload (i := 9) rfl rfl ?_
          refine hy_aload (i := 10) rfl rfl ?_
          refine hy_cV0e (i := 11) rfl mj_M_here (by decide) rfl (Nat.le_of_ble_eq_true rfl) rfl rfl rfl (c_M_here (by assumption)) ?_
          refine hy_const (i := 12) rfl (by decide) ?_
          refine hy_isub (i := 13) rfl (by omega) ?_
          refine hy_put (i := 14) (fk := 13) rfl rfl rfl rfl ?_
          refine hy_aload (i := 15) rfl rfl ?_
          refine hy_get (i := 16) (fk := 13) rfl rfl rfl ?_
          refine hy_const (i := 17) rfl (by decide) ?_
          rw [show hy_up t 59 13 (mp_here t - 48) 59 13 = mp_here t - 48 from rfl]
          refine hy_ic_lt (i := 18) (tt := 25) rfl (fun zc2 => ?_) (fun zc2 => ?_)
          · refine hy_aload (i := 25) rfl rfl ?_
            refine hy_get (i := 26) (fk := 13) rfl rfl rfl ?_
            refine hy_iload (i := 27) rfl rfl ?_
            rw [show hy_up t 59 13 (mp_here t - 48) 59 13 = mp_here t - 48 from rfl]
            refine hy_ic_ne (i := 28) (tt := 35) rfl (fun zc3 => ?_) (fun zc3 => ?_)
            · refine hy_aload (i := 35) rfl rfl ?_
              refine hy_aload (i := 36) rfl rfl ?_
              refine hy_get (i := 37) (fk := 10) rfl rfl rfl ?_
              refine hy_const (i := 38) rfl (by decide) ?_
              rw [show hy_up t 59 13 (mp_here t - 48) 59 10 = t 59 10 from rfl]
              refine hy_iadd (i := 39) rfl (by omega) ?_
              refine hy_put (i := 40) (fk := 10) rfl rfl rfl rfl ?_
              refine hy_const (i := 41) rfl (by decide) ?_
              refine hy_zreturn (i := 42) rfl rfl (by first | decide | exact hy_b01 _) ?_
              exact ⟨rfl, rfl⟩
            · omega
          · omega
        · exact bb_abs hd zc1
    · rw [show ml_emp t o = (false, mp_wr (hy_up t 59 13 (mp_here t - 48)) 3 (t 59 10)) by unfold ml_emp; rw [if_pos hd, if_neg h6]]
      refine hy_aload (i := 0) rfl rfl ?_
      refine hy_cV0e (i := 1) rfl mj_M_isDigit (by decide) rfl (Nat.le_of_ble_eq_true rfl) rfl rfl rfl (c_M_isDigit (by assumption)) ?_
      refine hy_ib_ne (i := 2) (tt := 9) rfl (fun zc1 => ?_) (fun zc1 => ?_)
      · refine hy_aload (i := 9) rfl rfl ?_
        refine hy_aload (i := 10) rfl rfl ?_
        refine hy_cV0e (i := 11) rfl mj_M_here (by decide) rfl (Nat.le_of_ble_eq_true rfl) rfl rfl rfl (c_M_here (by assumption)) ?_
        refine hy_const (i := 12) rfl (by decide) ?_
        refine hy_isub (i := 13) rfl (by omega) ?_
        refine hy_put (i := 14) (fk := 13) rfl rfl rfl rfl ?_
        refine hy_aload (i := 15) rfl rfl ?_
        refine hy_get (i := 16) (fk := 13) rfl rfl rfl ?_
        refine hy_const (i := 17) rfl (by decide) ?_
        rw [show hy_up t 59 13 (mp_here t - 48) 59 13 = mp_here t - 48 from rfl]
        refine hy_ic_lt (i := 18) (tt := 25) rfl (fun zc2 => ?_) (fun zc2 => ?_)
        · omega
        · refine hy_aload (i := 19) rfl rfl ?_
          refine hy_const (i := 20) rfl (by decide) ?_
          refine hy_aload (i := 21) rfl rfl ?_
          refine hy_get (i := 22) (fk := 10) rfl rfl rfl ?_
          refine hy_cV2e (i := 23) rfl mj_M_wrongAt (by decide) rfl (Nat.le_of_ble_eq_true rfl) rfl rfl rfl (c_M_wrongAt (by decide) (show 0 ≤ t 59 10 ∧ t 59 10 ≤ 260 from hp)) ?_
          refine hy_zreturn (i := 24) rfl rfl (by first | decide | exact hy_b01 _) ?_
          exact ⟨rfl, rfl⟩
      · exact bb_abs hd zc1
  · rw [show ml_emp t o = (false, mp_wr t 1 (t 59 10)) by unfold ml_emp; rw [if_neg hd]]
    refine hy_aload (i := 0) rfl rfl ?_
    refine hy_cV0e (i := 1) rfl mj_M_isDigit (by decide) rfl (Nat.le_of_ble_eq_true rfl) rfl rfl rfl (c_M_isDigit (by assumption)) ?_
    refine hy_ib_ne (i := 2) (tt := 9) rfl (fun zc1 => ?_) (fun zc1 => ?_)
    · exact absurd zc1 hd
    · refine hy_aload (i := 3) rfl rfl ?_
      refine hy_const (i := 4) rfl (by decide) ?_
      refine hy_aload (i := 5) rfl rfl ?_
      refine hy_get (i := 6) (fk := 10) rfl rfl rfl ?_
      refine hy_cV2e (i := 7) rfl mj_M_wrongAt (by decide) rfl (Nat.le_of_ble_eq_true rfl) rfl rfl rfl (c_M_wrongAt (by decide) hp) ?_
      refine hy_zreturn (i := 8) rfl rfl (by first | decide | exact hy_b01 _) ?_
      exact ⟨rfl, rfl⟩
end MZ
