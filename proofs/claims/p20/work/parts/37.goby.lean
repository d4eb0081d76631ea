/-! a war's state: days go by -/
abbrev st_ok (b : Nat) (t : hy_T) : Prop := (0 ≤ t b 3 ∧ t b 3 ≤ 16) ∧ (0 ≤ t b 4 ∧ t b 4 ≤ 9999) ∧ (0 ≤ t b 5 ∧ t b 5 ≤ 65535) ∧ ∀ j : Nat, j < 96 → -9999 ≤ t (b + 3) j ∧ t (b + 3) j ≤ 9999
theorem st_ok.c {b : Nat} {t : hy_T} (h : st_ok b t) : 0 ≤ t b 3 ∧ t b 3 ≤ 16 := h.1
theorem st_ok.d {b : Nat} {t : hy_T} (h : st_ok b t) : 0 ≤ t b 4 ∧ t b 4 ≤ 9999 := h.2.1
theorem st_ok.w {b : Nat} {t : hy_T} (h : st_ok b t) : 0 ≤ t b 5 ∧ t b 5 ≤ 65535 := h.2.2.1
theorem st_ok.t {b : Nat} {t : hy_T} (h : st_ok b t) : ∀ j : Nat, j < 96 → -9999 ≤ t (b + 3) j ∧ t (b + 3) j ≤ 9999 := h.2.2.2
theorem hE_up {X : Nat → Nat → Bool} {t t1 : hy_T} (h : hy_F X t t1) (r j : Nat) (v : Int) : hy_F X (hy_up t r j v) (hy_up t1 r j v) := by
  intro r' j' q
  simp only [hy_up]
  split
  · rfl
  · exact h r' j' q
theorem sp_part_in {b : Nat} {t : hy_T} (h : st_ok b t) (i w : Int) : -9999 ≤ sp_part b t i w ∧ sp_part b t i w ≤ 9999 := by
  have h1 := h.c
  unfold sp_part
  split
  · exact h.t _ (by omega)
  · decide
theorem sp_part_E {b : Nat} (hb : b = 33 ∨ b = 41) {t t1 : hy_T} (h : hy_F eX t t1) (i w : Int) : sp_part b t1 i w = sp_part b t i w := by
  unfold sp_part
  rcases hb with rfl | rfl <;> rw [h _ 3 rfl] <;> split <;> first | rfl | exact h _ _ rfl
theorem sp_moveN_E {b : Nat} (hb : b = 33 ∨ b = 41) {t t1 : hy_T} (h : hy_F eX t t1) (c w lo wi : Int) : ∀ n, hy_F eX (sp_moveN b t c w lo wi n) (sp_moveN b t1 c w lo wi n)
  | 0 => h
  | n + 1 => by
    have ih := sp_moveN_E hb h c w lo wi n
    have e : sp_moveN b t1 c w lo wi n (b + 1) = sp_moveN b t c w lo wi n (b + 1) := by rcases hb with rfl | rfl <;> exact funext fun j => ih _ j rfl
    simp only [sp_moveN]
    split
    · unfold sp_setH
      rw [e]
      split
      · exact hE_up ih _ _ _
      · exact ih
    · exact ih
theorem sp_shift_E {b : Nat} (hb : b = 33 ∨ b = 41) : ∀ (n a : Nat) {t t1 : hy_T}, hy_F eX t t1 → hy_F eX (sp_shift b t a n) (sp_shift b t1 a n)
  | 0, _, _, _, h => h
  | n + 1, a, t, t1, h => by
    have e : t1 (b + 3) (a + 6) = t (b + 3) (a + 6) := by rcases hb with rfl | rfl <;> exact h _ _ rfl
    simp only [sp_shift]
    rw [e]
    exact sp_shift_E hb n (a + 1) (hE_up h _ _ _)
theorem sp_first_E {b : Nat} (hb : b = 33 ∨ b = 41) {t t1 : hy_T} (h : hy_F eX t t1) (i : Int) : hy_F eX (sp_first b t i) (sp_first b t1 i) := by
  have e6 : t1 b 6 = t b 6 := by rcases hb with rfl | rfl <;> exact h _ _ rfl
  have e4 : t1 b 4 = t b 4 := by rcases hb with rfl | rfl <;> exact h _ _ rfl
  unfold sp_first
  rw [e6]
  split
  · dsimp only
    rw [e4, sp_part_E hb (hE_up h b 6 (t b 4))]
    exact hE_up (hE_up h _ _ _) _ _ _
  · exact h
theorem sp_broken_E {b : Nat} (hb : b = 33 ∨ b = 41) {t t1 : hy_T} (h : hy_F eX t t1) (i : Int) : hy_F eX (sp_broken b t i) (sp_broken b t1 i) := by
  have e3 : t1 b 3 = t b 3 := by rcases hb with rfl | rfl <;> exact h _ _ rfl
  have hf := sp_first_E hb h i
  simp only [sp_broken]
  rw [e3, sp_part_E hb hf, sp_part_E hb hf, sp_part_E hb hf, sp_part_E hb hf]
  exact hE_up (sp_shift_E hb _ _ (sp_moveN_E hb hf _ _ _ _ 4)) _ _ _
def sp_chance (b : Nat) (t : hy_T) (i : Int) : Int :=
  lc_amt t (LV (sp_part b t i 2) (sp_part b t i 0) (sp_lowN (sp_part b t i 1) 4 0) (t b 4) 0 0 0 0 (sp_bc (sp_hav (t (b + 1)) (sp_part b t i 0) (sp_lowN (sp_part b t i 1) 4 0))) (t b 4 - sp_part b t i 5)) 98 10
theorem sp_chance_E {b : Nat} (hb : b = 33 ∨ b = 41) {t t1 : hy_T} (h : hy_F eX t t1) (i : Int) : sp_chance b t1 i = sp_chance b t i := by
  have e4 : t1 b 4 = t b 4 := by rcases hb with rfl | rfl <;> exact h _ _ rfl
  have e1 : t1 (b + 1) = t (b + 1) := by rcases hb with rfl | rfl <;> exact funext fun j => h _ j rfl
  unfold sp_chance
  rw [lc_same_amt (eX_law h), sp_part_E hb h, sp_part_E hb h, sp_part_E hb h, sp_part_E hb h, e4, e1]
def sp_draw (x : Int) : Int := hz_iand (25173 * x + 13849) 65535
def sp_dayN (b : Nat) : Nat → hy_T → Int → hy_T
  | 0, t, _ => t
  | n + 1, t, i =>
    let t1 := hy_up t b 5 (sp_draw (t b 5))
    if t1 b 5 % 10 < sp_chance b t1 i then sp_dayN b n (sp_broken b t1 i) i else sp_dayN b n t1 (i + 1)
theorem sp_dayN_E {b : Nat} (hb : b = 33 ∨ b = 41) : ∀ (n : Nat) {t t1 : hy_T} (i : Int), hy_F eX t t1 → hy_F eX (sp_dayN b n t i) (sp_dayN b n t1 i)
  | 0, _, _, _, h => h
  | n + 1, t, t1, i, h => by
    have e5 : t1 b 5 = t b 5 := by rcases hb with rfl | rfl <;> exact h _ _ rfl
    have h2 := hE_up h b 5 (sp_draw (t b 5))
    simp only [sp_dayN]
    rw [e5, sp_chance_E hb h2, show hy_up t1 b 5 (sp_draw (t b 5)) b 5 = hy_up t b 5 (sp_draw (t b 5)) b 5 by simp [hy_up]]
    split
    · exact sp_dayN_E hb n i (sp_broken_E hb h2 i)
    · exact sp_dayN_E hb n (i + 1) h2
/-- what a day changes -/
abbrev dyX (b : Nat) : Nat → Nat → Bool := fun r j => r == b + 1 || r == b + 3 || (r == b && (j == 3 || j == 5 || j == 6 || j == 7))
theorem sp_shift_in (b : Nat) : ∀ (n a : Nat) {t : hy_T}, n + a ≤ 90 → (∀ j : Nat, j < 96 → -9999 ≤ t (b + 3) j ∧ t (b + 3) j ≤ 9999) → ∀ j : Nat, j < 96 → -9999 ≤ sp_shift b t a n (b + 3) j ∧ sp_shift b t a n (b + 3) j ≤ 9999
  | 0, _, _, _, h => h
  | n + 1, a, t, hn, h => by
    simp only [sp_shift]
    refine sp_shift_in b n (a + 1) (by omega) (fun j hj => ?_)
    simp only [hy_up]
    split
    · exact h _ (by omega)
    · exact h j hj
theorem sp_first_G (b : Nat) (t : hy_T) (i : Int) : hy_F (fun r j => r == b && (j == 6 || j == 7)) t (sp_first b t i) := by
  unfold sp_first
  split
  · exact (hy_F.rf.up (by simp)).up (by simp)
  · exact hy_F.rf
theorem sp_broken_F (b : Nat) (t : hy_T) (i : Int) : hy_F (dyX b) t (sp_broken b t i) := by
  simp only [sp_broken]
  refine hy_F.up (((sp_first_G b t i).w (fun r j q => by revert q; simp [dyX]; omega)).tr' (((sp_moveN_F b _ _ _ _ _ 4).w (fun r j q => by revert q; simp [dyX]; omega)).tr' ((sp_shift_F b _ _ _).w (fun r j q => by revert q; simp [dyX]; omega)))) (by simp [dyX])
theorem sp_broken_ok {b : Nat} {t : hy_T} (h : st_ok b t) {i : Int} (hi : 0 ≤ i ∧ i < t b 3) : st_ok b (sp_broken b t i) ∧ sp_broken b t i b 3 = t b 3 - 1 := by
  have hc := h.c
  have e3 : sp_broken b t i b 3 = t b 3 - 1 := by simp [sp_broken, hy_up]
  refine ⟨⟨by rw [e3]; omega, by rw [sp_broken_F b t i b 4 (by simp [dyX])]; exact h.d, ?_, ?_⟩, e3⟩
  · have e5 : sp_broken b t i b 5 = t b 5 := by
      have f1 := sp_first_G b t i b 5 (by simp)
      have f2 : ∀ (u : hy_T) (c w lo wi : Int), sp_moveN b u c w lo wi 4 b 5 = u b 5 := fun u c w lo wi => sp_moveN_F b u c w lo wi 4 b 5 (by simp)
      have f3 : ∀ (u : hy_T) (n a : Nat), sp_shift b u a n b 5 = u b 5 := fun u n a => sp_shift_F b n a u b 5 (by simp)
      simp only [sp_broken, hy_up]
      rw [if_neg (by omega), f3, f2, f1]
    rw [e5]
    exact h.w
  · intro j hj
    have f1 : ∀ k, sp_first b t i (b + 3) k = t (b + 3) k := fun k => sp_first_G b t i (b + 3) k (by simp)
    have f2 : ∀ (u : hy_T) (c w lo wi : Int) (k : Nat), sp_moveN b u c w lo wi 4 (b + 3) k = u (b + 3) k := fun u c w lo wi k => sp_moveN_F b u c w lo wi 4 (b + 3) k (by simp)
    simp only [sp_broken, hy_up]
    rw [if_neg (by omega)]
    refine sp_shift_in b _ _ (by omega) (fun k hk => ?_) j hj
    rw [f2, f1]
    exact h.t k hk
theorem sp_draw_in (x : Int) : 0 ≤ sp_draw x ∧ sp_draw x ≤ 65535 := hz_iand_le (by decide)
theorem sp_drawn_ok {b : Nat} {t : hy_T} (h : st_ok b t) : st_ok b (hy_up t b 5 (sp_draw (t b 5))) := by
  have h5 := sp_draw_in (t b 5)
  refine ⟨by simpa [hy_up] using h.c, by simpa [hy_up] using h.d, by simpa [hy_up] using h5, fun j hj => ?_⟩
  have := h.t j hj
  simpa [hy_up] using this
theorem sp_dayN_s (b : Nat) : ∀ (n : Nat) {t : hy_T} {i : Int}, st_ok b t → 0 ≤ i → i + n = t b 3 → st_ok b (sp_dayN b n t i) ∧ hy_F (dyX b) t (sp_dayN b n t i) ∧ sp_dayN b n t i b 3 ≤ t b 3
  | 0, t, i, h, hi, hn => ⟨h, hy_F.rf, Int.le_refl _⟩
  | n + 1, t, i, h, hi, hn => by
    have h1 := sp_drawn_ok h
    have e3 : hy_up t b 5 (sp_draw (t b 5)) b 3 = t b 3 := by simp [hy_up]
    have f1 : hy_F (dyX b) t (hy_up t b 5 (sp_draw (t b 5))) := hy_F.rf.up (by simp [dyX])
    simp only [sp_dayN]
    split
    · obtain ⟨a1, a2⟩ := sp_broken_ok h1 (i := i) (by omega)
      obtain ⟨b1, b2, b3⟩ := sp_dayN_s b n (i := i) a1 hi (by omega)
      exact ⟨b1, (f1.tr' (sp_broken_F b _ i)).tr' b2, by omega⟩
    · obtain ⟨b1, b2, b3⟩ := sp_dayN_s b n (i := i + 1) h1 (by omega) (by omega)
      exact ⟨b1, f1.tr' b2, by omega⟩
def sp_daysN (b : Nat) : Nat → hy_T → hy_T
  | 0, t => t
  | n + 1, t => if t b 4 < 9999 then sp_daysN b n (hy_up (sp_dayN b (t b 3).toNat t 0) b 4 (t b 4 + 1)) else t
def sp_days (b : Nat) (t : hy_T) (n : Int) : hy_T := sp_daysN b n.toNat (hy_up (hy_up t b 6 (-2)) b 7 (-2))
theorem lc_ok_dy {t t1 : hy_T} {b : Nat} (hb : b = 33 ∨ b = 41) (h : hy_F (dyX b) t t1) (hk : lc_ok t) : lc_ok t1 :=
  lc_ok_same (lc_same_of h (fun r j q => by rcases hb with rfl | rfl <;> (revert q; simp [lawX, dyX]; omega))) hk
theorem st_ok_E {b : Nat} (hb : b = 33 ∨ b = 41) {t t1 : hy_T} (h : hy_F eX t t1) (hs : st_ok b t) : st_ok b t1 := by
  rcases hb with rfl | rfl
  · exact ⟨by rw [h 33 3 rfl]; exact hs.c, by rw [h 33 4 rfl]; exact hs.d, by rw [h 33 5 rfl]; exact hs.w, fun j hj => by rw [h (33 + 3) j rfl]; exact hs.t j hj⟩
  · exact ⟨by rw [h 41 3 rfl]; exact hs.c, by rw [h 41 4 rfl]; exact hs.d, by rw [h 41 5 rfl]; exact hs.w, fun j hj => by rw [h (41 + 3) j rfl]; exact hs.t j hj⟩
theorem st_next_ok {b : Nat} {t : hy_T} (h : st_ok b t) (h4 : t b 4 < 9999) : st_ok b (hy_up (sp_dayN b (t b 3).toNat t 0) b 4 (t b 4 + 1)) ∧ hy_up (sp_dayN b (t b 3).toNat t 0) b 4 (t b 4 + 1) b 3 = sp_dayN b (t b 3).toNat t 0 b 3 := by
  have hc := h.c
  have hd := h.d
  obtain ⟨a1, a2, a3⟩ := sp_dayN_s b (t b 3).toNat (i := 0) h (by omega) (by omega)
  refine ⟨⟨by simpa [hy_up] using a1.c, by simp [hy_up]; omega, by simpa [hy_up] using a1.w, fun j hj => ?_⟩, by simp [hy_up]⟩
  have := a1.t j hj
  simpa [hy_up] using this
section SG33
variable {sc : List Int32} {t : hy_T}
theorem c_S_chance_33 {i : Int} (hs : st_ok 33 t) (hk : lc_ok t) : hy_Ct sc hm_S_chance 3 [.inr (some 33), .inr (some 11), .inl i] t (fun r t' => r = some (sp_chance 33 t i) ∧ hy_F eX t t') := by
  refine hy_mk_ct ok_S_chance ck_S_chance (Nat.le_of_ble_eq_true rfl) ?_
  have hc := hs.c
  have hd := hs.d
  have h5 := sp_part_in hs i 5
  refine hy_aload (i := 0) rfl rfl ?_
  refine hy_iload (i := 1) rfl rfl ?_
  refine hy_const (i := 2) rfl (by decide) ?_
  refine hy_cV2e (i := 3) rfl mj_S_part (by decide) rfl (Nat.le_of_ble_eq_true rfl) rfl rfl rfl (c_S_part_33 (by assumption)) ?_
  refine hy_istore (i := 4) rfl ?_
  refine hy_aload (i := 5) rfl rfl ?_
  refine hy_iload (i := 6) rfl rfl ?_
  refine hy_const (i := 7) rfl (by decide) ?_
  refine hy_cV2e (i := 8) rfl mj_S_part (by decide) rfl (Nat.le_of_ble_eq_true rfl) rfl rfl rfl (c_S_part_33 (by assumption)) ?_
  refine hy_cS1e (i := 9) rfl (by decide) mj_S_lowest (by decide) rfl (Nat.le_of_ble_eq_true rfl) (c_S_lowest) ?_
  refine hy_istore (i := 10) rfl ?_
  refine hy_aload (i := 11) rfl rfl ?_
  refine hy_aload (i := 12) rfl rfl ?_
  refine hy_iload (i := 13) rfl rfl ?_
  refine hy_const (i := 14) rfl (by decide) ?_
  refine hy_cV2e (i := 15) rfl mj_S_part (by decide) rfl (Nat.le_of_ble_eq_true rfl) rfl rfl rfl (c_S_part_33 (by assumption)) ?_
  refine hy_iload (i := 16) rfl rfl ?_
  refine hy_iload (i := 17) rfl rfl ?_
  refine hy_aload (i := 18) rfl rfl ?_
  refine hy_get (i := 19) (fk := 4) rfl rfl rfl ?_
  refine hy_const (i := 20) rfl (by decide) ?_
  refine hy_aload (i := 21) rfl rfl ?_
  refine hy_iload (i := 22) rfl rfl ?_
  refine hy_iload (i := 23) rfl rfl ?_
  refine hy_cV2e (i := 24) rfl mj_S_havers (by decide) rfl (Nat.le_of_ble_eq_true rfl) rfl rfl rfl (c_S_havers_33) ?_
  refine hy_cS1e (i := 25) rfl (by decide) mj_J_bitCount (by decide) rfl (Nat.le_of_ble_eq_true rfl) (c_J_bitCount) ?_
  refine hy_cV6v (i := 26) rfl mj_L_tell (by decide) rfl (Nat.le_of_ble_eq_true rfl) rfl rfl rfl (c_L_tell) ?_
  refine hy_aload (i := 27) rfl rfl ?_
  refine hy_aload (i := 28) rfl rfl ?_
  refine hy_get (i := 29) (fk := 4) rfl rfl rfl ?_
  rw [show ∀ e c q dd m g, rc_tell t e c q dd m g 33 4 = t 33 4 from fun _ _ _ _ _ _ => rfl]
  refine hy_aload (i := 30) rfl rfl ?_
  refine hy_iload (i := 31) rfl rfl ?_
  refine hy_const (i := 32) rfl (by decide) ?_
  refine hy_cV2e (i := 33) rfl mj_S_part (by decide) rfl (Nat.le_of_ble_eq_true rfl) rfl rfl rfl (c_S_part_33 (by assumption)) ?_
  rw [sp_part_E (b := 33) (by decide) (rc_tell_F (hy_F.rf (t := t)) _ _ _ _ _ _)]
  refine hy_isub (i := 34) rfl (by omega) ?_
  refine hy_cV1v (i := 35) rfl mj_L_tellAge (by decide) rfl (Nat.le_of_ble_eq_true rfl) rfl rfl rfl (c_L_tellAge) ?_
  refine hy_aload (i := 36) rfl rfl ?_
  refine hy_const (i := 37) rfl (by decide) ?_
  refine hy_const (i := 38) rfl (by decide) ?_
  refine hy_cV2 (i := 39) rfl mj_L_amount (by decide) rfl (Nat.le_of_ble_eq_true rfl) rfl rfl rfl (c_L_amount (lc_ok_same (eX_law ((rc_tell_F hy_F.rf _ _ _ _ _ _).up rfl)) hk)) (fun r10_ t10_ h10 => ?_)
  obtain ⟨rfl, hF10⟩ := h10
  dsimp only [hy_st, List.cons_append, List.nil_append]
  rw [tell_amto hy_F.rf]
  have hG := rX_eX ((rc_tell_F (hy_F.rf (t := t)) _ _ _ _ _ _).up rfl) hF10
  refine hy_ireturn (i := 40) rfl rfl ?_
  exact ⟨rfl, hG⟩
theorem c_S_goByOnce_33 (hs : st_ok 33 t) (hk : lc_ok t) : hy_Ct sc hm_S_goByOnce 4 [.inr (some 33), .inr (some 11)] t (fun r t' => r = some (t 33 3 - sp_dayN 33 (t 33 3).toNat t 0 33 3) ∧ hy_F eX (sp_dayN 33 (t 33 3).toNat t 0) t') := by
  refine hy_mk_ct ok_S_goByOnce ck_S_goByOnce (Nat.le_of_ble_eq_true rfl) ?_
  have hc := hs.c
  have loop : ∀ (n : Nat), ∀ (k : Nat) (i : Int) (p t1 : hy_T), n + k = (t 33 3).toNat → st_ok 33 p → lc_ok p → hy_F eX p t1 → 0 ≤ i → i + n = p 33 3 → p 33 3 ≤ t 33 3 → sp_dayN 33 n p i = sp_dayN 33 (t 33 3).toNat t 0 → hy_W sc hm_S_goByOnce 4 7 [.inr (some 33), .inr (some 11), .inl (t 33 3), .inl i, .inl (k : Int)] [] t1 (fun r t' => r = some (t 33 3 - sp_dayN 33 (t 33 3).toNat t 0 33 3) ∧ hy_F eX (sp_dayN 33 (t 33 3).toNat t 0) t') := by
    intro n
    induction n with
    | zero =>
      intro k i p t1 hn h1 hl hF hi hp hpt he
      rw [← he]
      have e3 : t1 33 3 = p 33 3 := hF 33 3 rfl
      have hpc := h1.c
      refine hy_iload (i := 7) rfl rfl ?_
      refine hy_iload (i := 8) rfl rfl ?_
      refine hy_ic_ge (i := 9) (tt := 36) rfl (fun zc1 => ?_) (fun zc1 => ?_)
      · refine hy_iload (i := 36) rfl rfl ?_
        refine hy_aload (i := 37) rfl rfl ?_
        refine hy_get (i := 38) (fk := 3) rfl rfl rfl ?_
        rw [e3]
        refine hy_isub (i := 39) rfl (by omega) ?_
        refine hy_ireturn (i := 40) rfl rfl ?_
        exact ⟨rfl, hF⟩
      · omega
    | succ n ih =>
      intro k i p t1 hn h1 hl hF hi hp hpt he
      have mid : ∀ (p2 t2 : hy_T), st_ok 33 p2 → lc_ok p2 → hy_F eX p2 t2 → p2 33 3 = p 33 3 → (if p2 33 5 % 10 < sp_chance 33 p2 i then sp_dayN 33 n (sp_broken 33 p2 i) i else sp_dayN 33 n p2 (i + 1)) = sp_dayN 33 (t 33 3).toNat t 0 → hy_W sc hm_S_goByOnce 4 20 [.inr (some 33), .inr (some 11), .inl (t 33 3), .inl i, .inl (k : Int)] [] t2 (fun r t' => r = some (t 33 3 - sp_dayN 33 (t 33 3).toNat t 0 33 3) ∧ hy_F eX (sp_dayN 33 (t 33 3).toNat t 0) t') := by
        intro p2 t2 h2 hl2 hF2 e3 he2
        have hs2 := st_ok_E (b := 33) (by decide) hF2 h2
        have hk2 := lc_ok_same (eX_law hF2) hl2
        have h5 := hs2.w
        have e5 : t2 33 5 = p2 33 5 := hF2 33 5 rfl
        have e3' : t2 33 3 = p2 33 3 := hF2 33 3 rfl
        have ec : sp_chance 33 t2 i = sp_chance 33 p2 i := sp_chance_E (b := 33) (by decide) hF2 i
        by_cases hq : p2 33 5 % 10 < sp_chance 33 p2 i
        · rw [if_pos hq] at he2
          obtain ⟨b1, b2⟩ := sp_broken_ok h2 (i := i) (by omega)
          refine hy_aload (i := 20) rfl rfl ?_
          refine hy_get (i := 21) (fk := 5) rfl rfl rfl ?_
          refine hy_const (i := 22) rfl (by decide) ?_
          refine hy_irem (i := 23) rfl (by omega) (by omega) ?_
          refine hy_aload (i := 24) rfl rfl ?_
          refine hy_aload (i := 25) rfl rfl ?_
          refine hy_iload (i := 26) rfl rfl ?_
          refine hy_cV2 (i := 27) rfl mj_S_chance (by decide) rfl (Nat.le_of_ble_eq_true rfl) rfl rfl rfl (c_S_chance_33 hs2 hk2) (fun r1_ t1_ h1 => ?_)
          obtain ⟨rfl, hF1⟩ := h1
          dsimp only [hy_st, List.cons_append, List.nil_append]
          have hG := hF2.tr' hF1
          have eG : t1_ 33 3 = p2 33 3 := hG 33 3 rfl
          refine hy_ic_ge (i := 28) (tt := 33) rfl (fun zc1 => ?_) (fun zc1 => ?_)
          · omega
          · refine hy_aload (i := 29) rfl rfl ?_
            refine hy_iload (i := 30) rfl rfl ?_
            refine hy_cV1v (i := 31) rfl mj_S_breakTreaty (by decide) rfl (Nat.le_of_ble_eq_true rfl) rfl rfl rfl (c_S_breakTreaty_33 (by rw [eG]; exact h2.c) (by rw [eG]; omega)) ?_
            refine hy_goto (i := 32) (tt := 34) rfl ?_
            refine hy_iinc (i := 34) rfl rfl (by omega) ?_
            refine hy_goto (i := 35) (tt := 7) rfl ?_
            exact ih (k + 1) i _ _ (by omega) b1 (lc_ok_dy (b := 33) (by decide) (sp_broken_F 33 p2 i) hl2) (sp_broken_E (b := 33) (by decide) hG i) hi (by omega) (by omega) he2
        · rw [if_neg hq] at he2
          refine hy_aload (i := 20) rfl rfl ?_
          refine hy_get (i := 21) (fk := 5) rfl rfl rfl ?_
          refine hy_const (i := 22) rfl (by decide) ?_
          refine hy_irem (i := 23) rfl (by omega) (by omega) ?_
          refine hy_aload (i := 24) rfl rfl ?_
          refine hy_aload (i := 25) rfl rfl ?_
          refine hy_iload (i := 26) rfl rfl ?_
          refine hy_cV2 (i := 27) rfl mj_S_chance (by decide) rfl (Nat.le_of_ble_eq_true rfl) rfl rfl rfl (c_S_chance_33 hs2 hk2) (fun r1_ t1_ h1 => ?_)
          obtain ⟨rfl, hF1⟩ := h1
          dsimp only [hy_st, List.cons_append, List.nil_append]
          have hG := hF2.tr' hF1
          refine hy_ic_ge (i := 28) (tt := 33) rfl (fun zc1 => ?_) (fun zc1 => ?_)
          · refine hy_iinc (i := 33) rfl rfl (by omega) ?_
            refine hy_iinc (i := 34) rfl rfl (by omega) ?_
            refine hy_goto (i := 35) (tt := 7) rfl ?_
            exact ih (k + 1) (i + 1) _ _ (by omega) h2 hl2 hG (by omega) (by omega) (by omega) he2
          · omega
      have h5 := (st_ok_E (b := 33) (by decide) hF h1).w
      have e5 : t1 33 5 = p 33 5 := hF 33 5 rfl
      have hpc := h1.c
      refine hy_iload (i := 7) rfl rfl ?_
      refine hy_iload (i := 8) rfl rfl ?_
      refine hy_ic_ge (i := 9) (tt := 36) rfl (fun zc1 => ?_) (fun zc1 => ?_)
      · omega
      · refine hy_aload (i := 10) rfl rfl ?_
        refine hy_const (i := 11) rfl (by decide) ?_
        refine hy_aload (i := 12) rfl rfl ?_
        refine hy_get (i := 13) (fk := 5) rfl rfl rfl ?_
        refine hy_imul (i := 14) rfl (by omega) ?_
        refine hy_const (i := 15) rfl (by decide) ?_
        refine hy_iadd (i := 16) rfl (by omega) ?_
        refine hy_const (i := 17) rfl (by decide) ?_
        refine hy_iand (i := 18) rfl ?_
        refine hy_put (i := 19) (fk := 5) rfl rfl rfl rfl ?_
        rw [e5]
        exact mid (hy_up p 33 5 (sp_draw (p 33 5))) _ (sp_drawn_ok h1) (lc_ok_dy (b := 33) (by decide) (hy_F.rf.up rfl) hl) (hE_up hF _ _ _) rfl he
  refine hy_aload (i := 0) rfl rfl ?_
  refine hy_get (i := 1) (fk := 3) rfl rfl rfl ?_
  refine hy_istore (i := 2) rfl ?_
  refine hy_const (i := 3) rfl (by decide) ?_
  refine hy_istore (i := 4) rfl ?_
  refine hy_const (i := 5) rfl (by decide) ?_
  refine hy_istore (i := 6) rfl ?_
  exact loop (t 33 3).toNat 0 0 t t rfl hs hk hy_F.rf (by decide) (by omega) (Int.le_refl _) rfl
theorem c_S_goBy_33 {n : Int} (hn : n ≤ 2147483647) (hs : st_ok 33 t) (hk : lc_ok t) : hy_Ct sc hm_S_goBy 5 [.inr (some 33), .inr (some 11), .inl n] t (fun r t' => r = some (t 33 3 - sp_days 33 t n 33 3) ∧ hy_F eX (sp_days 33 t n) t') := by
  refine hy_mk_ct ok_S_goBy ck_S_goBy (Nat.le_of_ble_eq_true rfl) ?_
  have loop : ∀ (m : Nat), ∀ (k : Nat) (s : Int) (p t1 : hy_T), m + k = n.toNat → st_ok 33 p → lc_ok p → hy_F eX p t1 → s + p 33 3 = t 33 3 → sp_daysN 33 m p = sp_days 33 t n → hy_W sc hm_S_goBy 5 10 [.inr (some 33), .inr (some 11), .inl n, .inl s, .inl (k : Int)] [] t1 (fun r t' => r = some (t 33 3 - sp_days 33 t n 33 3) ∧ hy_F eX (sp_days 33 t n) t') := by
    intro m
    induction m with
    | zero =>
      intro k s p t1 hm h1 hl hF hsum he
      rw [← he]
      refine hy_iload (i := 10) rfl rfl ?_
      refine hy_iload (i := 11) rfl rfl ?_
      refine hy_ic_ge (i := 12) (tt := 31) rfl (fun zc1 => ?_) (fun zc1 => ?_)
      · refine hy_iload (i := 31) rfl rfl ?_
        refine hy_ireturn (i := 32) rfl rfl ?_
        exact ⟨congrArg some (by show s = t 33 3 - p 33 3; omega), hF⟩
      · omega
    | succ m ih =>
      intro k s p t1 hm h1 hl hF hsum he
      have hs1 := st_ok_E (b := 33) (by decide) hF h1
      have hk1 := lc_ok_same (eX_law hF) hl
      have e4 : t1 33 4 = p 33 4 := hF 33 4 rfl
      have e3 : t1 33 3 = p 33 3 := hF 33 3 rfl
      have hd := h1.d
      have hc := h1.c
      have hct := hs.c
      by_cases h4 : p 33 4 < 9999
      · have e : sp_daysN 33 (m + 1) p = sp_daysN 33 m (hy_up (sp_dayN 33 (p 33 3).toNat p 0) 33 4 (p 33 4 + 1)) := by simp only [sp_daysN]; rw [if_pos h4]
        rw [e] at he
        obtain ⟨a1, a2, a3⟩ := sp_dayN_s 33 (p 33 3).toNat (i := 0) h1 (by omega) (by omega)
        have ha := a1.c
        have eE := sp_dayN_E (b := 33) (by decide) (p 33 3).toNat 0 hF
        obtain ⟨b1, b2⟩ := st_next_ok h1 h4
        have eE3 : sp_dayN 33 (p 33 3).toNat t1 0 33 3 = sp_dayN 33 (p 33 3).toNat p 0 33 3 := eE 33 3 rfl
        have lk2 : lc_ok (hy_up (sp_dayN 33 (p 33 3).toNat p 0) 33 4 (p 33 4 + 1)) := lc_ok_same (lc_same_of (hy_F.rf.up rfl : hy_F (fun r j => r == 33 && j == 4) _ _) (fun r j q => by revert q; simp [lawX]; omega)) (lc_ok_dy (b := 33) (by decide) a2 hl)
        refine hy_iload (i := 10) rfl rfl ?_
        refine hy_iload (i := 11) rfl rfl ?_
        refine hy_ic_ge (i := 12) (tt := 31) rfl (fun zc1 => ?_) (fun zc1 => ?_)
        · omega
        · refine hy_aload (i := 13) rfl rfl ?_
          refine hy_get (i := 14) (fk := 4) rfl rfl rfl ?_
          refine hy_const (i := 15) rfl (by decide) ?_
          refine hy_ic_ge (i := 16) (tt := 31) rfl (fun zc2 => ?_) (fun zc2 => ?_)
          · omega
          · refine hy_iload (i := 17) rfl rfl ?_
            refine hy_aload (i := 18) rfl rfl ?_
            refine hy_aload (i := 19) rfl rfl ?_
            refine hy_cV1 (i := 20) rfl mj_S_goByOnce (by decide) rfl (Nat.le_of_ble_eq_true rfl) rfl rfl rfl (c_S_goByOnce_33 hs1 hk1) (fun r1_ t1_ h1 => ?_)
            obtain ⟨rfl, hF1⟩ := h1
            dsimp only [hy_st, List.cons_append, List.nil_append]
            rw [e3] at hF1
            rw [e3, eE3]
            have hG := eE.tr' hF1
            have eD : t1_ 33 4 = p 33 4 := (hG 33 4 rfl).trans (a2 33 4 rfl)
            refine hy_iadd (i := 21) rfl (by omega) ?_
            refine hy_istore (i := 22) rfl ?_
            refine hy_aload (i := 23) rfl rfl ?_
            refine hy_dup (i := 24) rfl ?_
            refine hy_get (i := 25) (fk := 4) rfl rfl rfl ?_
            rw [eD]
            refine hy_const (i := 26) rfl (by decide) ?_
            refine hy_iadd (i := 27) rfl (by omega) ?_
            refine hy_put (i := 28) (fk := 4) rfl rfl rfl rfl ?_
            refine hy_iinc (i := 29) rfl rfl (by omega) ?_
            refine hy_goto (i := 30) (tt := 10) rfl ?_
            exact ih (k + 1) _ _ _ (by omega) b1 lk2 (hE_up hG _ _ _) (by rw [b2]; omega) he
      · have e : sp_daysN 33 (m + 1) p = p := by simp only [sp_daysN]; rw [if_neg h4]
        rw [e] at he
        rw [← he]
        refine hy_iload (i := 10) rfl rfl ?_
        refine hy_iload (i := 11) rfl rfl ?_
        refine hy_ic_ge (i := 12) (tt := 31) rfl (fun zc1 => ?_) (fun zc1 => ?_)
        · omega
        · refine hy_aload (i := 13) rfl rfl ?_
          refine hy_get (i := 14) (fk := 4) rfl rfl rfl ?_
          refine hy_const (i := 15) rfl (by decide) ?_
          refine hy_ic_ge (i := 16) (tt := 31) rfl (fun zc2 => ?_) (fun zc2 => ?_)
          · refine hy_iload (i := 31) rfl rfl ?_
            refine hy_ireturn (i := 32) rfl rfl ?_
            exact ⟨congrArg some (by show s = t 33 3 - p 33 3; omega), hF⟩
          · omega
  have h0 : st_ok 33 (hy_up (hy_up t 33 6 (-2)) 33 7 (-2)) := ⟨hs.c, hs.d, hs.w, hs.t⟩
  have hk0 : lc_ok (hy_up (hy_up t 33 6 (-2)) 33 7 (-2)) := lc_ok_dy (b := 33) (by decide) ((hy_F.rf.up rfl).up rfl) hk
  refine hy_aload (i := 0) rfl rfl ?_
  refine hy_const (i := 1) rfl (by decide) ?_
  refine hy_put (i := 2) (fk := 6) rfl rfl rfl rfl ?_
  refine hy_aload (i := 3) rfl rfl ?_
  refine hy_const (i := 4) rfl (by decide) ?_
  refine hy_put (i := 5) (fk := 7) rfl rfl rfl rfl ?_
  refine hy_const (i := 6) rfl (by decide) ?_
  refine hy_istore (i := 7) rfl ?_
  refine hy_const (i := 8) rfl (by decide) ?_
  refine hy_istore (i := 9) rfl ?_
  exact loop n.toNat 0 0 _ _ rfl h0 hk0 hy_F.rf (by show 0 + t 33 3 = t 33 3; omega) rfl
end SG33
section SG41
variable {sc : List Int32} {t : hy_T}
theorem c_S_chance_41 {i : Int} (hs : st_ok 41 t) (hk : lc_ok t) : hy_Ct sc hm_S_chance 3 [.inr (some 41), .inr (some 11), .inl i] t (fun r t' => r = some (sp_chance 41 t i) ∧ hy_F eX t t') := by
  refine hy_mk_ct ok_S_chance ck_S_chance (Nat.le_of_ble_eq_true rfl) ?_
  have hc := hs.c
  have hd := hs.d
  have h5 := sp_part_in hs i 5
  refine hy_aload (i := 0) rfl rfl ?_
  refine hy_iload (i := 1) rfl rfl ?_
  refine hy_const (i := 2) rfl (by decide) ?_
  refine hy_cV2e (i := 3) rfl mj_S_part (by decide) rfl (Nat.le_of_ble_eq_true rfl) rfl rfl rfl (c_S_part_41 (by assumption)) ?_
  refine hy_istore (i := 4) rfl ?_
  refine hy_aload (i := 5) rfl rfl ?_
  refine hy_iload (i := 6) rfl rfl ?_
  refine hy_const (i := 7) rfl (by decide) ?_
  refine hy_cV2e (i := 8) rfl mj_S_part (by decide) rfl (Nat.le_of_ble_eq_true rfl) rfl rfl rfl (c_S_part_41 (by assumption)) ?_
  refine hy_cS1e (i := 9) rfl (by decide) mj_S_lowest (by decide) rfl (Nat.le_of_ble_eq_true rfl) (c_S_lowest) ?_
  refine hy_istore (i := 10) rfl ?_
  refine hy_aload (i := 11) rfl rfl ?_
  refine hy_aload (i := 12) rfl rfl ?_
  refine hy_iload (i := 13) rfl rfl ?_
  refine hy_const (i := 14) rfl (by decide) ?_
  refine hy_cV2e (i := 15) rfl mj_S_part (by decide) rfl (Nat.le_of_ble_eq_true rfl) rfl rfl rfl (c_S_part_41 (by assumption)) ?_
  refine hy_iload (i := 16) rfl rfl ?_
  refine hy_iload (i := 17) rfl rfl ?_
  refine hy_aload (i := 18) rfl rfl ?_
  refine hy_get (i := 19) (fk := 4) rfl rfl rfl ?_
  refine hy_const (i := 20) rfl (by decide) ?_
  refine hy_aload (i := 21) rfl rfl ?_
  refine hy_iload (i := 22) rfl rfl ?_
  refine hy_iload (i := 23) rfl rfl ?_
  refine hy_cV2e (i := 24) rfl mj_S_havers (by decide) rfl (Nat.le_of_ble_eq_true rfl) rfl rfl rfl (c_S_havers_41) ?_
  refine hy_cS1e (i := 25) rfl (by decide) mj_J_bitCount (by decide) rfl (Nat.le_of_ble_eq_true rfl) (c_J_bitCount) ?_
  refine hy_cV6v (i := 26) rfl mj_L_tell (by decide) rfl (Nat.le_of_ble_eq_true rfl) rfl rfl rfl (c_L_tell) ?_
  refine hy_aload (i := 27) rfl rfl ?_
  refine hy_aload (i := 28) rfl rfl ?_
  refine hy_get (i := 29) (fk := 4) rfl rfl rfl ?_
  rw [show ∀ e c q dd m g, rc_tell t e c q dd m g 41 4 = t 41 4 from fun _ _ _ _ _ _ => rfl]
  refine hy_aload (i := 30) rfl rfl ?_
  refine hy_iload (i := 31) rfl rfl ?_
  refine hy_const (i := 32) rfl (by decide) ?_
  refine hy_cV2e (i := 33) rfl mj_S_part (by decide) rfl (Nat.le_of_ble_eq_true rfl) rfl rfl rfl (c_S_part_41 (by assumption)) ?_
  rw [sp_part_E (b := 41) (by decide) (rc_tell_F (hy_F.rf (t := t)) _ _ _ _ _ _)]
  refine hy_isub (i := 34) rfl (by omega) ?_
  refine hy_cV1v (i := 35) rfl mj_L_tellAge (by decide) rfl (Nat.le_of_ble_eq_true rfl) rfl rfl rfl (c_L_tellAge) ?_
  refine hy_aload (i := 36) rfl rfl ?_
  refine hy_const (i := 37) rfl (by decide) ?_
  refine hy_const (i := 38) rfl (by decide) ?_
  refine hy_cV2 (i := 39) rfl mj_L_amount (by decide) rfl (Nat.le_of_ble_eq_true rfl) rfl rfl rfl (c_L_amount (lc_ok_same (eX_law ((rc_tell_F hy_F.rf _ _ _ _ _ _).up rfl)) hk)) (fun r10_ t10_ h10 => ?_)
  obtain ⟨rfl, hF10⟩ := h10
  dsimp only [hy_st, List.cons_append, List.nil_append]
  rw [tell_amto hy_F.rf]
  have hG := rX_eX ((rc_tell_F (hy_F.rf (t := t)) _ _ _ _ _ _).up rfl) hF10
  refine hy_ireturn (i := 40) rfl rfl ?_
  exact ⟨rfl, hG⟩
theorem c_S_goByOnce_41 (hs : st_ok 41 t) (hk : lc_ok t) : hy_Ct sc hm_S_goByOnce 4 [.inr (some 41), .inr (some 11)] t (fun r t' => r = some (t 41 3 - sp_dayN 41 (t 41 3).toNat t 0 41 3) ∧ hy_F eX (sp_dayN 41 (t 41 3).toNat t 0) t') := by
  refine hy_mk_ct ok_S_goByOnce ck_S_goByOnce (Nat.le_of_ble_eq_true rfl) ?_
  have hc := hs.c
  have loop : ∀ (n : Nat), ∀ (k : Nat) (i : Int) (p t1 : hy_T), n + k = (t 41 3).toNat → st_ok 41 p → lc_ok p → hy_F eX p t1 → 0 ≤ i → i + n = p 41 3 → p 41 3 ≤ t 41 3 → sp_dayN 41 n p i = sp_dayN 41 (t 41 3).toNat t 0 → hy_W sc hm_S_goByOnce 4 7 [.inr (some 41), .inr (some 11), .inl (t 41 3), .inl i, .inl (k : Int)] [] t1 (fun r t' => r = some (t 41 3 - sp_dayN 41 (t 41 3).toNat t 0 41 3) ∧ hy_F eX (sp_dayN 41 (t 41 3).toNat t 0) t') := by
    intro n
    induction n with
    | zero =>
      intro k i p t1 hn h1 hl hF hi hp hpt he
      rw [← he]
      have e3 : t1 41 3 = p 41 3 := hF 41 3 rfl
      have hpc := h1.c
      refine hy_iload (i := 7) rfl rfl ?_
      refine hy_iload (i := 8) rfl rfl ?_
      refine hy_ic_ge (i := 9) (tt := 36) rfl (fun zc1 => ?_) (fun zc1 => ?_)
      · refine hy_iload (i := 36) rfl rfl ?_
        refine hy_aload (i := 37) rfl rfl ?_
        refine hy_get (i := 38) (fk := 3) rfl rfl rfl ?_
        rw [e3]
        refine hy_isub (i := 39) rfl (by omega) ?_
        refine hy_ireturn (i := 40) rfl rfl ?_
        exact ⟨rfl, hF⟩
      · omega
    | succ n ih =>
      intro k i p t1 hn h1 hl hF hi hp hpt he
      have mid : ∀ (p2 t2 : hy_T), st_ok 41 p2 → lc_ok p2 → hy_F eX p2 t2 → p2 41 3 = p 41 3 → (if p2 41 5 % 10 < sp_chance 41 p2 i then sp_dayN 41 n (sp_broken 41 p2 i) i else sp_dayN 41 n p2 (i + 1)) = sp_dayN 41 (t 41 3).toNat t 0 → hy_W sc hm_S_goByOnce 4 20 [.inr (some 41), .inr (some 11), .inl (t 41 3), .inl i, .inl (k : Int)] [] t2 (fun r t' => r = some (t 41 3 - sp_dayN 41 (t 41 3).toNat t 0 41 3) ∧ hy_F eX (sp_dayN 41 (t 41 3).toNat t 0) t') := by
        intro p2 t2 h2 hl2 hF2 e3 he2
        have hs2 := st_ok_E (b := 41) (by decide) hF2 h2
        have hk2 := lc_ok_same (eX_law hF2) hl2
        have h5 := hs2.w
        have e5 : t2 41 5 = p2 41 5 := hF2 41 5 rfl
        have e3' : t2 41 3 = p2 41 3 := hF2 41 3 rfl
        have ec : sp_chance 41 t2 i = sp_chance 41 p2 i := sp_chance_E (b := 41) (by decide) hF2 i
        by_cases hq : p2 41 5 % 10 < sp_chance 41 p2 i
        · rw [if_pos hq] at he2
          obtain ⟨b1, b2⟩ := sp_broken_ok h2 (i := i) (by omega)
          refine hy_aload (i := 20) rfl rfl ?_
          refine hy_get (i := 21) (fk := 5) rfl rfl rfl ?_
          refine hy_const (i := 22) rfl (by decide) ?_
          refine hy_irem (i := 23) rfl (by omega) (by omega) ?_
          refine hy_aload (i := 24) rfl rfl ?_
          refine hy_aload (i := 25) rfl rfl ?_
          refine hy_iload (i := 26) rfl rfl ?_
          refine hy_cV2 (i := 27) rfl mj_S_chance (by decide) rfl (Nat.le_of_ble_eq_true rfl) rfl rfl rfl (c_S_chance_41 hs2 hk2) (fun r1_ t1_ h1 => ?_)
          obtain ⟨rfl, hF1⟩ := h1
          dsimp only [hy_st, List.cons_append, List.nil_append]
          have hG := hF2.tr' hF1
          have eG : t1_ 41 3 = p2 41 3 := hG 41 3 rfl
          refine hy_ic_ge (i := 28) (tt := 33) rfl (fun zc1 => ?_) (fun zc1 => ?_)
          · omega
          · refine hy_aload (i := 29) rfl rfl ?_
            refine hy_iload (i := 30) rfl rfl ?_
            refine hy_cV1v (i := 31) rfl mj_S_breakTreaty (by decide) rfl (Nat.le_of_ble_eq_true rfl) rfl rfl rfl (c_S_breakTreaty_41 (by rw [eG]; exact h2.c) (by rw [eG]; omega)) ?_
            refine hy_goto (i := 32) (tt := 34) rfl ?_
            refine hy_iinc (i := 34) rfl rfl (by omega) ?_
            refine hy_goto (i := 35) (tt := 7) rfl ?_
            exact ih (k + 1) i _ _ (by omega) b1 (lc_ok_dy (b := 41) (by decide) (sp_broken_F 41 p2 i) hl2) (sp_broken_E (b := 41) (by decide) hG i) hi (by omega) (by omega) he2
        · rw [if_neg hq] at he2
          refine hy_aload (i := 20) rfl rfl ?_
          refine hy_get (i := 21) (fk := 5) rfl rfl rfl ?_
          refine hy_const (i := 22) rfl (by decide) ?_
          refine hy_irem (i := 23) rfl (by omega) (by omega) ?_
          refine hy_aload (i := 24) rfl rfl ?_
          refine hy_aload (i := 25) rfl rfl ?_
          refine hy_iload (i := 26) rfl rfl ?_
          refine hy_cV2 (i := 27) rfl mj_S_chance (by decide) rfl (Nat.le_of_ble_eq_true rfl) rfl rfl rfl (c_S_chance_41 hs2 hk2) (fun r1_ t1_ h1 => ?_)
          obtain ⟨rfl, hF1⟩ := h1
          dsimp only [hy_st, List.cons_append, List.nil_append]
          have hG := hF2.tr' hF1
          refine hy_ic_ge (i := 28) (tt := 33) rfl (fun zc1 => ?_) (fun zc1 => ?_)
          · refine hy_iinc (i := 33) rfl rfl (by omega) ?_
            refine hy_iinc (i := 34) rfl rfl (by omega) ?_
            refine hy_goto (i := 35) (tt := 7) rfl ?_
            exact ih (k + 1) (i + 1) _ _ (by omega) h2 hl2 hG (by omega) (by omega) (by omega) he2
          · omega
      have h5 := (st_ok_E (b := 41) (by decide) hF h1).w
      have e5 : t1 41 5 = p 41 5 := hF 41 5 rfl
      have hpc := h1.c
      refine hy_iload (i := 7) rfl rfl ?_
      refine hy_iload (i := 8) rfl rfl ?_
      refine hy_ic_ge (i := 9) (tt := 36) rfl (fun zc1 => ?_) (fun zc1 => ?_)
      · omega
      · refine hy_aload (i := 10) rfl rfl ?_
        refine hy_const (i := 11) rfl (by decide) ?_
        refine hy_aload (i := 12) rfl rfl ?_
        refine hy_get (i := 13) (fk := 5) rfl rfl rfl ?_
        refine hy_imul (i := 14) rfl (by omega) ?_
        refine hy_const (i := 15) rfl (by decide) ?_
        refine hy_iadd (i := 16) rfl (by omega) ?_
        refine hy_const (i := 17) rfl (by decide) ?_
        refine hy_iand (i := 18) rfl ?_
        refine hy_put (i := 19) (fk := 5) rfl rfl rfl rfl ?_
        rw [e5]
        exact mid (hy_up p 41 5 (sp_draw (p 41 5))) _ (sp_drawn_ok h1) (lc_ok_dy (b := 41) (by decide) (hy_F.rf.up rfl) hl) (hE_up hF _ _ _) rfl he
  refine hy_aload (i := 0) rfl rfl ?_
  refine hy_get (i := 1) (fk := 3) rfl rfl rfl ?_
  refine hy_istore (i := 2) rfl ?_
  refine hy_const (i := 3) rfl (by decide) ?_
  refine hy_istore (i := 4) rfl ?_
  refine hy_const (i := 5) rfl (by decide) ?_
  refine hy_istore (i := 6) rfl ?_
  exact loop (t 41 3).toNat 0 0 t t rfl hs hk hy_F.rf (by decide) (by omega) (Int.le_refl _) rfl
theorem c_S_goBy_41 {n : Int} (hn : n ≤ 2147483647) (hs : st_ok 41 t) (hk : lc_ok t) : hy_Ct sc hm_S_goBy 5 [.inr (some 41), .inr (some 11), .inl n] t (fun r t' => r = some (t 41 3 - sp_days 41 t n 41 3) ∧ hy_F eX (sp_days 41 t n) t') := by
  refine hy_mk_ct ok_S_goBy ck_S_goBy (Nat.le_of_ble_eq_true rfl) ?_
  have loop : ∀ (m : Nat), ∀ (k : Nat) (s : Int) (p t1 : hy_T), m + k = n.toNat → st_ok 41 p → lc_ok p → hy_F eX p t1 → s + p 41 3 = t 41 3 → sp_daysN 41 m p = sp_days 41 t n → hy_W sc hm_S_goBy 5 10 [.inr (some 41), .inr (some 11), .inl n, .inl s, .inl (k : Int)] [] t1 (fun r t' => r = some (t 41 3 - sp_days 41 t n 41 3) ∧ hy_F eX (sp_days 41 t n) t') := by
    intro m
    induction m with
    | zero =>
      intro k s p t1 hm h1 hl hF hsum he
      rw [← he]
      refine hy_iload (i := 10) rfl rfl ?_
      refine hy_iload (i := 11) rfl rfl ?_
      refine hy_ic_ge (i := 12) (tt := 31) rfl (fun zc1 => ?_) (fun zc1 => ?_)
      · refine hy_iload (i := 31) rfl rfl ?_
        refine hy_ireturn (i := 32) rfl rfl ?_
        exact ⟨congrArg some (by show s = t 41 3 - p 41 3; omega), hF⟩
      · omega
    | succ m ih =>
      intro k s p t1 hm h1 hl hF hsum he
      have hs1 := st_ok_E (b := 41) (by decide) hF h1
      have hk1 := lc_ok_same (eX_law hF) hl
      have e4 : t1 41 4 = p 41 4 := hF 41 4 rfl
      have e3 : t1 41 3 = p 41 3 := hF 41 3 rfl
      have hd := h1.d
      have hc := h1.c
      have hct := hs.c
      by_cases h4 : p 41 4 < 9999
      · have e : sp_daysN 41 (m + 1) p = sp_daysN 41 m (hy_up (sp_dayN 41 (p 41 3).toNat p 0) 41 4 (p 41 4 + 1)) := by simp only [sp_daysN]; rw [if_pos h4]
        rw [e] at he
        obtain ⟨a1, a2, a3⟩ := sp_dayN_s 41 (p 41 3).toNat (i := 0) h1 (by omega) (by omega)
        have ha := a1.c
        have eE := sp_dayN_E (b := 41) (by decide) (p 41 3).toNat 0 hF
        obtain ⟨b1, b2⟩ := st_next_ok h1 h4
        have eE3 : sp_dayN 41 (p 41 3).toNat t1 0 41 3 = sp_dayN 41 (p 41 3).toNat p 0 41 3 := eE 41 3 rfl
        have lk2 : lc_ok (hy_up (sp_dayN 41 (p 41 3).toNat p 0) 41 4 (p 41 4 + 1)) := lc_ok_same (lc_same_of (hy_F.rf.up rfl : hy_F (fun r j => r == 41 && j == 4) _ _) (fun r j q => by revert q; simp [lawX]; omega)) (lc_ok_dy (b := 41) (by decide) a2 hl)
        refine hy_iload (i := 10) rfl rfl ?_
        refine hy_iload (i := 11) rfl rfl ?_
        refine hy_ic_ge (i := 12) (tt := 31) rfl (fun zc1 => ?_) (fun zc1 => ?_)
        · omega
        · refine hy_aload (i := 13) rfl rfl ?_
          refine hy_get (i := 14) (fk := 4) rfl rfl rfl ?_
          refine hy_const (i := 15) rfl (by decide) ?_
          refine hy_ic_ge (i := 16) (tt := 31) rfl (fun zc2 => ?_) (fun zc2 => ?_)
          · omega
          · refine hy_iload (i := 17) rfl rfl ?_
            refine hy_aload (i := 18) rfl rfl ?_
            refine hy_aload (i := 19) rfl rfl ?_
            refine hy_cV1 (i := 20) rfl mj_S_goByOnce (by decide) rfl (Nat.le_of_ble_eq_true rfl) rfl rfl rfl (c_S_goByOnce_41 hs1 hk1) (fun r1_ t1_ h1 => ?_)
            obtain ⟨rfl, hF1⟩ := h1
            dsimp only [hy_st, List.cons_append, List.nil_append]
            rw [e3] at hF1
            rw [e3, eE3]
            have hG := eE.tr' hF1
            have eD : t1_ 41 4 = p 41 4 := (hG 41 4 rfl).trans (a2 41 4 rfl)
            refine hy_iadd (i := 21) rfl (by omega) ?_
            refine hy_istore (i := 22) rfl ?_
            refine hy_aload (i := 23) rfl rfl ?_
            refine hy_dup (i := 24) rfl ?_
            refine hy_get (i := 25) (fk := 4) rfl rfl rfl ?_
            rw [eD]
            refine hy_const (i := 26) rfl (by decide) ?_
            refine hy_iadd (i := 27) rfl (by omega) ?_
            refine hy_put (i := 28) (fk := 4) rfl rfl rfl rfl ?_
            refine hy_iinc (i := 29) rfl rfl (by omega) ?_
            refine hy_goto (i := 30) (tt := 10) rfl ?_
            exact ih (k + 1) _ _ _ (by omega) b1 lk2 (hE_up hG _ _ _) (by rw [b2]; omega) he
      · have e : sp_daysN 41 (m + 1) p = p := by simp only [sp_daysN]; rw [if_neg h4]
        rw [e] at he
        rw [← he]
        refine hy_iload (i := 10) rfl rfl ?_
        refine hy_iload (i := 11) rfl rfl ?_
        refine hy_ic_ge (i := 12) (tt := 31) rfl (fun zc1 => ?_) (fun zc1 => ?_)
        · omega
        · refine hy_aload (i := 13) rfl rfl ?_
          refine hy_get (i := 14) (fk := 4) rfl rfl rfl ?_
          refine hy_const (i := 15) rfl (by decide) ?_
          refine hy_ic_ge (i := 16) (tt := 31) rfl (fun zc2 => ?_) (fun zc2 => ?_)
          · refine hy_iload (i := 31) rfl rfl ?_
            refine hy_ireturn (i := 32) rfl rfl ?_
            exact ⟨congrArg some (by show s = t 41 3 - p 41 3; omega), hF⟩
          · omega
  have h0 : st_ok 41 (hy_up (hy_up t 41 6 (-2)) 41 7 (-2)) := ⟨hs.c, hs.d, hs.w, hs.t⟩
  have hk0 : lc_ok (hy_up (hy_up t 41 6 (-2)) 41 7 (-2)) := lc_ok_dy (b := 41) (by decide) ((hy_F.rf.up rfl).up rfl) hk
  refine hy_aload (i := 0) rfl rfl ?_
  refine hy_const (i := 1) rfl (by decide) ?_
  refine hy_put (i := 2) (fk := 6) rfl rfl rfl rfl ?_
  refine hy_aload (i := 3) rfl rfl ?_
  refine hy_const (i := 4) rfl (by decide) ?_
  refine hy_put (i := 5) (fk := 7) rfl rfl rfl rfl ?_
  refine hy_const (i := 6) rfl (by decide) ?_
  refine hy_istore (i := 7) rfl ?_
  refine hy_const (i := 8) rfl (by decide) ?_
  refine hy_istore (i := 9) rfl ?_
  exact loop n.toNat 0 0 _ _ rfl h0 hk0 hy_F.rf (by show 0 + t 41 3 = t 41 3; omega) rfl
end SG41
