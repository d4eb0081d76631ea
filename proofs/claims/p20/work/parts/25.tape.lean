/-! the class's tape, as it is filled and read -/
def tp_add1 (t : hy_T) (v : Int) : hy_T := if t 3 1 < 260 then hy_up (hy_up t 4 (t 3 1).toNat v) 3 1 (t 3 1 + 1) else t
def tp_byte (w s : Int) : Int := hz_iand (hz_ishr w s) 255
def tp_add (t : hy_T) (w : Int) : hy_T := tp_add1 (tp_add1 (tp_add1 (tp_add1 t (tp_byte w 24)) (tp_byte w 16)) (tp_byte w 8)) (tp_byte w 0)
abbrev tp_ok (t : hy_T) : Prop := (∀ j : Nat, j < 260 → 0 ≤ t 4 j ∧ t 4 j ≤ 255) ∧ (0 ≤ t 3 1 ∧ t 3 1 ≤ 260) ∧ t 3 2 ≤ 260 ∧ (0 ≤ t 3 3 ∧ t 3 3 ≤ 260)
theorem tp_ok.b {t : hy_T} (h : tp_ok t) : ∀ j : Nat, j < 260 → 0 ≤ t 4 j ∧ t 4 j ≤ 255 := h.1
theorem tp_ok.l {t : hy_T} (h : tp_ok t) : 0 ≤ t 3 1 ∧ t 3 1 ≤ 260 := h.2.1
theorem tp_ok.e {t : hy_T} (h : tp_ok t) : t 3 2 ≤ 260 := h.2.2.1
theorem tp_ok.p {t : hy_T} (h : tp_ok t) : 0 ≤ t 3 3 ∧ t 3 3 ≤ 260 := h.2.2.2
abbrev tpX : Nat → Nat → Bool := fun r j => r == 3 && (j == 3 || j == 4)
theorem tp_ok_F {X : Nat → Nat → Bool} {t t1 : hy_T} (h : hy_F X t t1) (h4 : ∀ j, X 4 j = false) (h3 : ∀ j, X 3 j = false) (hk : tp_ok t) : tp_ok t1 :=
  ⟨fun j hj => by rw [h 4 j (h4 j)]; exact hk.b j hj, by rw [h 3 1 (h3 1)]; exact hk.l, by rw [h 3 2 (h3 2)]; exact hk.e, by rw [h 3 3 (h3 3)]; exact hk.p⟩
theorem tp_byte_in (w s : Int) : 0 ≤ tp_byte w s ∧ tp_byte w s ≤ 255 := hz_iand_le (by decide)
theorem tp_add1_ok {t : hy_T} (h : tp_ok t) {v : Int} (hv : 0 ≤ v ∧ v ≤ 255) : tp_ok (tp_add1 t v) := by
  have h1 := h.l
  unfold tp_add1
  split
  · refine ⟨fun j hj => ?_, ?_, ?_, ?_⟩
    · simp only [hy_up]
      rw [if_neg (by omega)]
      split
      · exact hv
      · exact h.b j hj
    · simp [hy_up]; omega
    · have := h.e; simpa [hy_up] using this
    · have := h.p; simpa [hy_up] using this
  · exact h
theorem tp_add_ok {t : hy_T} (h : tp_ok t) (w : Int) : tp_ok (tp_add t w) :=
  tp_add1_ok (tp_add1_ok (tp_add1_ok (tp_add1_ok h (tp_byte_in w 24)) (tp_byte_in w 16)) (tp_byte_in w 8)) (tp_byte_in w 0)
def tp_step (t : hy_T) : hy_T := hy_up t 3 3 (t 3 3 + 1)
theorem tp_next_in {t : hy_T} (h : tp_ok t) : -1 ≤ tp_next t ∧ tp_next t ≤ 255 := by
  have h1 := h.p
  have h2 := h.e
  unfold tp_next
  split
  · have := h.b (t 3 3).toNat (by omega); omega
  · decide
theorem tp_next_p {t : hy_T} (h : 0 ≤ tp_next t) : t 3 4 = 0 ∧ 0 ≤ t 3 3 ∧ t 3 3 < t 3 2 := by
  unfold tp_next at h
  split at h
  · assumption
  · omega
theorem tp_step_ok {t : hy_T} (h : tp_ok t) (hn : 0 ≤ tp_next t) : tp_ok (tp_step t) := by
  have h1 := tp_next_p hn
  have h2 := h.e
  refine ⟨h.b, ?_, ?_, ?_⟩
  · have := h.l; simpa [tp_step, hy_up] using this
  · simpa [tp_step, hy_up] using h2
  · simp [tp_step, hy_up]; omega
theorem tp_step_F (t : hy_T) : hy_F tpX t (tp_step t) := hy_F.rf.up rfl
theorem tp_fail_F (t : hy_T) (n w : Int) : hy_F (fun r j => r == 3 && j == 4) t (tp_fail t n w) := by
  unfold tp_fail
  split
  · exact hy_F.rf.up rfl
  · exact hy_F.rf
theorem tp_fail_G (t : hy_T) (n w : Int) : hy_F tpX t (tp_fail t n w) := (tp_fail_F t n w).w (fun r j q => by revert q; simp [tpX]; omega)
theorem tp_fail_ok {t : hy_T} (h : tp_ok t) (n w : Int) : tp_ok (tp_fail t n w) := by
  have f := tp_fail_F t n w
  exact ⟨fun j hj => by rw [f 4 j rfl]; exact h.b j hj, by rw [f 3 1 rfl]; exact h.l, by rw [f 3 2 rfl]; exact h.e, by rw [f 3 3 rfl]; exact h.p⟩
theorem tp_take_ok {t : hy_T} (h : tp_ok t) {s : Int} (hs : 0 ≤ s) : tp_ok (tp_take t s) := by
  unfold tp_take
  split
  · exact tp_step_ok h (by omega)
  · exact tp_fail_ok h _ _
theorem tp_take_F (t : hy_T) (s : Int) : hy_F tpX t (tp_take t s) := by
  unfold tp_take
  split
  · exact tp_step_F t
  · exact tp_fail_G t _ _
theorem tp_finish_ok {t : hy_T} (h : tp_ok t) : tp_ok (tp_finish t) := by
  unfold tp_finish
  split
  · exact tp_fail_ok h _ _
  · exact h
theorem tp_finish_F (t : hy_T) : hy_F tpX t (tp_finish t) := by
  unfold tp_finish
  split
  · exact tp_fail_G t _ _
  · exact hy_F.rf
section TP
variable {sc : List Int32} {t : hy_T}
theorem c_T_add {w : Int} (hl : 0 ≤ t 3 1 ∧ t 3 1 ≤ 260) : hy_Ct sc hm_T_add 0 [.inr (some 3), .inl w] t (hy_e none (tp_add t w)) := by
  refine hy_mk_ct ok_T_add ck_T_add (Nat.le_of_ble_eq_true rfl) ?_
  have hl1 : ∀ (t1 : hy_T) (v : Int), (0 ≤ t1 3 1 ∧ t1 3 1 ≤ 260) → 0 ≤ tp_add1 t1 v 3 1 ∧ tp_add1 t1 v 3 1 ≤ 260 := by
    intro t1 v h
    unfold tp_add1
    split
    · simp [hy_up]; omega
    · exact h
  have body : ∀ (s s2 : Int) (t1 : hy_T), (0 ≤ s ∧ s ≤ 24) → s2 = s + -8 → (0 ≤ t1 3 1 ∧ t1 3 1 ≤ 260) → hy_W sc hm_T_add 0 2 [.inr (some 3), .inl w, .inl s2] [] (tp_add1 t1 (tp_byte w s)) (hy_e none (tp_add t w)) → hy_W sc hm_T_add 0 2 [.inr (some 3), .inl w, .inl s] [] t1 (hy_e none (tp_add t w)) := by
    intro s s2 t1 hs h2 hl hh
    subst h2
    by_cases hc : t1 3 1 < 260
    · rw [show tp_add1 t1 (tp_byte w s) = _ from if_pos hc] at hh
      refine hy_iload (i := 2) rfl rfl ?_
      refine hy_if_lt (i := 3) (tt := 26) rfl (fun zc1 => ?_) (fun zc1 => ?_)
      · omega
      · refine hy_aload (i := 4) rfl rfl ?_
        refine hy_get (i := 5) (fk := 1) rfl rfl rfl ?_
        refine hy_const (i := 6) rfl (by decide) ?_
        refine hy_ic_ge (i := 7) (tt := 24) rfl (fun zc2 => ?_) (fun zc2 => ?_)
        · omega
        · refine hy_aload (i := 8) rfl rfl ?_
          refine hy_getr (i := 9) rfl rfl ?_
          refine hy_aload (i := 10) rfl rfl ?_
          refine hy_get (i := 11) (fk := 1) rfl rfl rfl ?_
          refine hy_iload (i := 12) rfl rfl ?_
          refine hy_iload (i := 13) rfl rfl ?_
          refine hy_ishr (i := 14) rfl ?_
          refine hy_const (i := 15) rfl (by decide) ?_
          refine hy_iand (i := 16) rfl ?_
          refine hy_iast (i := 17) rfl rfl (by omega) rfl ?_
          refine hy_aload (i := 18) rfl rfl ?_
          refine hy_dup (i := 19) rfl ?_
          refine hy_get (i := 20) (fk := 1) rfl rfl rfl ?_
          refine hy_const (i := 21) rfl (by decide) ?_
          rw [show hy_up t1 4 (t1 3 1).toNat (hz_iand (hz_ishr w s) 255) 3 1 = t1 3 1 from rfl]
          refine hy_iadd (i := 22) rfl (by omega) ?_
          refine hy_put (i := 23) (fk := 1) rfl rfl rfl rfl ?_
          refine hy_iinc (i := 24) rfl rfl (by omega) ?_
          refine hy_goto (i := 25) (tt := 2) rfl ?_
          exact hh
    · rw [show tp_add1 t1 (tp_byte w s) = _ from if_neg hc] at hh
      refine hy_iload (i := 2) rfl rfl ?_
      refine hy_if_lt (i := 3) (tt := 26) rfl (fun zc1 => ?_) (fun zc1 => ?_)
      · omega
      · refine hy_aload (i := 4) rfl rfl ?_
        refine hy_get (i := 5) (fk := 1) rfl rfl rfl ?_
        refine hy_const (i := 6) rfl (by decide) ?_
        refine hy_ic_ge (i := 7) (tt := 24) rfl (fun zc2 => ?_) (fun zc2 => ?_)
        · refine hy_iinc (i := 24) rfl rfl (by omega) ?_
          refine hy_goto (i := 25) (tt := 2) rfl ?_
          exact hh
        · omega
  have fin : hy_W sc hm_T_add 0 2 [.inr (some 3), .inl w, .inl (-8)] [] (tp_add t w) (hy_e none (tp_add t w)) := by
    refine hy_iload (i := 2) rfl rfl ?_
    refine hy_if_lt (i := 3) (tt := 26) rfl (fun zc1 => ?_) (fun zc1 => ?_)
    · refine hy_return (i := 26) rfl rfl ?_
      exact ⟨rfl, rfl⟩
    · omega
  refine hy_const (i := 0) rfl (by decide) ?_
  refine hy_istore (i := 1) rfl ?_
  exact body 24 16 _ (by decide) (by decide) hl (body 16 8 _ (by decide) (by decide) (hl1 _ _ hl) (body 8 0 _ (by decide) (by decide) (hl1 _ _ (hl1 _ _ hl)) (body 0 (-8) _ (by decide) (by decide) (hl1 _ _ (hl1 _ _ (hl1 _ _ hl))) fin)))
theorem c_N_length : hy_Ct sc hm_N_length 0 [.inr (some 27)] t (hy_e (some (t 27 6)) t) := by
  refine hy_mk_ct ok_N_length ck_N_length (Nat.le_of_ble_eq_true rfl) ?_
  refine hy_aload (i := 0) rfl rfl ?_
  refine hy_get (i := 1) (fk := 6) rfl rfl rfl ?_
  refine hy_ireturn (i := 2) rfl rfl ?_
  exact ⟨rfl, rfl⟩
theorem c_N_hue {k : Int} (hl : t 27 6 ≤ 8) : hy_Ct sc hm_N_hue 1 [.inr (some 27), .inl k] t (hy_e (some (if 0 ≤ k ∧ k < t 27 6 then t 28 k.toNat else 0)) t) := by
  refine hy_mk_ct ok_N_hue ck_N_hue (Nat.le_of_ble_eq_true rfl) ?_
  refine hy_iload (i := 0) rfl rfl ?_
  refine hy_aload (i := 1) rfl rfl ?_
  refine hy_get (i := 2) (fk := 6) rfl rfl rfl ?_
  refine hy_cS2e (i := 3) rfl (by decide) mj_W_isAmong (by decide) rfl (Nat.le_of_ble_eq_true rfl) (c_W_isAmong) ?_
  refine hy_ib_eq (i := 4) (tt := 10) rfl (fun zc1 => ?_) (fun zc1 => ?_)
  · refine hy_const (i := 10) rfl (by decide) ?_
    refine hy_ireturn (i := 11) rfl rfl ?_
    exact ⟨congrArg some (by simp at zc1; first | (rw [if_pos (by omega)]; done) | (rw [if_neg (by omega)]; done)), rfl⟩
  · refine hy_aload (i := 5) rfl rfl ?_
    refine hy_getr (i := 6) rfl rfl ?_
    refine hy_iload (i := 7) rfl rfl ?_
    refine hy_iald (i := 8) rfl rfl (by simp at zc1; omega) rfl ?_
    refine hy_goto (i := 9) (tt := 11) rfl ?_
    refine hy_ireturn (i := 11) rfl rfl ?_
    exact ⟨congrArg some (by simp at zc1; first | (rw [if_pos (by omega)]; done) | (rw [if_neg (by omega)]; done)), rfl⟩
theorem c_N_quarters {k : Int} (hl : t 27 6 ≤ 8) : hy_Ct sc hm_N_quarters 1 [.inr (some 27), .inl k] t (hy_e (some (if 0 ≤ k ∧ k < t 27 6 then t 29 k.toNat else 0)) t) := by
  refine hy_mk_ct ok_N_quarters ck_N_quarters (Nat.le_of_ble_eq_true rfl) ?_
  refine hy_iload (i := 0) rfl rfl ?_
  refine hy_aload (i := 1) rfl rfl ?_
  refine hy_get (i := 2) (fk := 6) rfl rfl rfl ?_
  refine hy_cS2e (i := 3) rfl (by decide) mj_W_isAmong (by decide) rfl (Nat.le_of_ble_eq_true rfl) (c_W_isAmong) ?_
  refine hy_ib_eq (i := 4) (tt := 10) rfl (fun zc1 => ?_) (fun zc1 => ?_)
  · refine hy_const (i := 10) rfl (by decide) ?_
    refine hy_ireturn (i := 11) rfl rfl ?_
    exact ⟨congrArg some (by simp at zc1; first | (rw [if_pos (by omega)]; done) | (rw [if_neg (by omega)]; done)), rfl⟩
  · refine hy_aload (i := 5) rfl rfl ?_
    refine hy_getr (i := 6) rfl rfl ?_
    refine hy_iload (i := 7) rfl rfl ?_
    refine hy_iald (i := 8) rfl rfl (by simp at zc1; omega) rfl ?_
    refine hy_goto (i := 9) (tt := 11) rfl ?_
    refine hy_ireturn (i := 11) rfl rfl ?_
    exact ⟨congrArg some (by simp at zc1; first | (rw [if_pos (by omega)]; done) | (rw [if_neg (by omega)]; done)), rfl⟩
theorem c_N_giver {k : Int} (hl : t 27 6 ≤ 8) : hy_Ct sc hm_N_giver 1 [.inr (some 27), .inl k] t (hy_e (some (if 0 ≤ k ∧ k < t 27 6 then t 31 k.toNat else 0)) t) := by
  refine hy_mk_ct ok_N_giver ck_N_giver (Nat.le_of_ble_eq_true rfl) ?_
  refine hy_iload (i := 0) rfl rfl ?_
  refine hy_aload (i := 1) rfl rfl ?_
  refine hy_get (i := 2) (fk := 6) rfl rfl rfl ?_
  refine hy_cS2e (i := 3) rfl (by decide) mj_W_isAmong (by decide) rfl (Nat.le_of_ble_eq_true rfl) (c_W_isAmong) ?_
  refine hy_ib_eq (i := 4) (tt := 10) rfl (fun zc1 => ?_) (fun zc1 => ?_)
  · refine hy_const (i := 10) rfl (by decide) ?_
    refine hy_ireturn (i := 11) rfl rfl ?_
    exact ⟨congrArg some (by simp at zc1; first | (rw [if_pos (by omega)]; done) | (rw [if_neg (by omega)]; done)), rfl⟩
  · refine hy_aload (i := 5) rfl rfl ?_
    refine hy_getr (i := 6) rfl rfl ?_
    refine hy_iload (i := 7) rfl rfl ?_
    refine hy_iald (i := 8) rfl rfl (by simp at zc1; omega) rfl ?_
    refine hy_goto (i := 9) (tt := 11) rfl ?_
    refine hy_ireturn (i := 11) rfl rfl ?_
    exact ⟨congrArg some (by simp at zc1; first | (rw [if_pos (by omega)]; done) | (rw [if_neg (by omega)]; done)), rfl⟩
theorem c_N_other {k : Int} (hl : t 27 6 ≤ 8) : hy_Ct sc hm_N_other 1 [.inr (some 27), .inl k] t (hy_e (some (if 0 ≤ k ∧ k < t 27 6 then t 32 k.toNat else 0)) t) := by
  refine hy_mk_ct ok_N_other ck_N_other (Nat.le_of_ble_eq_true rfl) ?_
  refine hy_iload (i := 0) rfl rfl ?_
  refine hy_aload (i := 1) rfl rfl ?_
  refine hy_get (i := 2) (fk := 6) rfl rfl rfl ?_
  refine hy_cS2e (i := 3) rfl (by decide) mj_W_isAmong (by decide) rfl (Nat.le_of_ble_eq_true rfl) (c_W_isAmong) ?_
  refine hy_ib_eq (i := 4) (tt := 10) rfl (fun zc1 => ?_) (fun zc1 => ?_)
  · refine hy_const (i := 10) rfl (by decide) ?_
    refine hy_ireturn (i := 11) rfl rfl ?_
    exact ⟨congrArg some (by simp at zc1; first | (rw [if_pos (by omega)]; done) | (rw [if_neg (by omega)]; done)), rfl⟩
  · refine hy_aload (i := 5) rfl rfl ?_
    refine hy_getr (i := 6) rfl rfl ?_
    refine hy_iload (i := 7) rfl rfl ?_
    refine hy_iald (i := 8) rfl rfl (by simp at zc1; omega) rfl ?_
    refine hy_goto (i := 9) (tt := 11) rfl ?_
    refine hy_ireturn (i := 11) rfl rfl ?_
    exact ⟨congrArg some (by simp at zc1; first | (rw [if_pos (by omega)]; done) | (rw [if_neg (by omega)]; done)), rfl⟩
theorem c_N_isShared {k : Int} (hl : t 27 6 ≤ 8) : hy_Ct sc hm_N_isShared 1 [.inr (some 27), .inl k] t (hy_e (some (hy_b (decide ((0 ≤ k ∧ k < t 27 6) ∧ t 30 k.toNat = 43)))) t) := by
  refine hy_mk_ct ok_N_isShared ck_N_isShared (Nat.le_of_ble_eq_true rfl) ?_
  refine hy_iload (i := 0) rfl rfl ?_
  refine hy_aload (i := 1) rfl rfl ?_
  refine hy_get (i := 2) (fk := 6) rfl rfl rfl ?_
  refine hy_cS2e (i := 3) rfl (by decide) mj_W_isAmong (by decide) rfl (Nat.le_of_ble_eq_true rfl) (c_W_isAmong) ?_
  refine hy_ib_eq (i := 4) (tt := 13) rfl (fun zc1 => ?_) (fun zc1 => ?_)
  · refine hy_const (i := 13) rfl (by decide) ?_
    refine hy_zreturn (i := 14) rfl rfl (by first | decide | exact hy_b01 _) ?_
    exact ⟨congrArg some (by simp at zc1; first | (rw [decide_eq_true (by omega)]; rfl) | (rw [decide_eq_false (by omega)]; rfl)), rfl⟩
  · refine hy_aload (i := 5) rfl rfl ?_
    refine hy_getr (i := 6) rfl rfl ?_
    refine hy_iload (i := 7) rfl rfl ?_
    refine hy_iald (i := 8) rfl rfl (by simp at zc1; omega) rfl ?_
    refine hy_const (i := 9) rfl (by decide) ?_
    refine hy_ic_ne (i := 10) (tt := 13) rfl (fun zc2 => ?_) (fun zc2 => ?_)
    · refine hy_const (i := 13) rfl (by decide) ?_
      refine hy_zreturn (i := 14) rfl rfl (by first | decide | exact hy_b01 _) ?_
      exact ⟨congrArg some (by simp at zc1; first | (rw [decide_eq_true (by omega)]; rfl) | (rw [decide_eq_false (by omega)]; rfl)), rfl⟩
    · refine hy_const (i := 11) rfl (by decide) ?_
      refine hy_goto (i := 12) (tt := 14) rfl ?_
      refine hy_zreturn (i := 14) rfl rfl (by first | decide | exact hy_b01 _) ?_
      exact ⟨congrArg some (by simp at zc1; first | (rw [decide_eq_true (by omega)]; rfl) | (rw [decide_eq_false (by omega)]; rfl)), rfl⟩
end TP
