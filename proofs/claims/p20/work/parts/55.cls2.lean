/-! the class's own methods: that they end, and what they leave (gain, way, lines that are made) -/
abbrev rg (x : Int) : Prop := -9999 ≤ x ∧ x ≤ 9999
theorem rg_up {t : hy_T} {r n : Nat} {v : Int} (h : ∀ j : Nat, j < 96 → rg (t r j)) (hv : rg v) : ∀ j : Nat, j < 96 → rg (hy_up t r n v r j) := fun j hj => by
  simp only [hy_up]
  split
  · exact hv
  · exact h j hj
abbrev mkX (b : Nat) : Nat → Nat → Bool := fun r j => r == b + 1 || r == b + 3 || (r == b && j == 3)
theorem sp_made_s {b : Nat} {t : hy_T} (h : st_ok b t) (h3 : t b 3 < 16) {c w g o s : Int} (hc : rg c) (hw : rg w) (hg : rg g) (ho : rg o) : st_ok b (sp_made b t c w g o s) ∧ hy_F (mkX b) t (sp_made b t c w g o s) := by
  have hcn := h.c
  have hd := h.d
  have F1 := sp_moveN_F b t c w (if s = 0 then g else -1) o 4
  have F : hy_F (mkX b) t (sp_made b t c w g o s) := by
    simp only [sp_made, sp_lay]
    exact (((((((F1.w (fun r j q => by revert q; simp [mkX]; omega)).up (by simp [mkX])).up (by simp [mkX])).up (by simp [mkX])).up (by simp [mkX])).up (by simp [mkX])).up (by simp [mkX])).up (by simp [mkX])
  refine ⟨⟨?_, by rw [F b 4 (by simp [mkX])]; exact hd, by rw [F b 5 (by simp [mkX])]; exact h.w, fun j hj => ?_⟩, F⟩
  · have e : sp_made b t c w g o s b 3 = t b 3 + 1 := by simp [sp_made, hy_up]
    rw [e]
    omega
  · have e : sp_made b t c w g o s (b + 3) j = sp_lay b (sp_moveN b t c w (if s = 0 then g else -1) o 4) (6 * t b 3).toNat c w g o (if s = 0 then 0 else 1) (t b 4) (b + 3) j := by simp [sp_made, hy_up]
    rw [e]
    unfold sp_lay
    refine rg_up (rg_up (rg_up (rg_up (rg_up (rg_up (fun j hj => ?_) hc) hw) hg) ho) ?_) ⟨by omega, by omega⟩ j hj
    · rw [F1 (b + 3) j (by simp)]
      exact h.t j hj
    · split <;> decide
abbrev ln_ok (t : hy_T) : Prop := ∀ j : Nat, j < 8 → rg (t 28 j) ∧ rg (t 29 j) ∧ rg (t 31 j) ∧ rg (t 32 j)
theorem ln_ok_F {X : Nat → Nat → Bool} {t t1 : hy_T} (h : hy_F X t t1) (h1 : ∀ j, X 28 j = false) (h2 : ∀ j, X 29 j = false) (h3 : ∀ j, X 31 j = false) (h4 : ∀ j, X 32 j = false) (hk : ln_ok t) : ln_ok t1 := fun j hj => by
  rw [h 28 j (h1 j), h 29 j (h2 j), h 31 j (h3 j), h 32 j (h4 j)]
  exact hk j hj
def ln_v (t : hy_T) (r : Nat) (k : Int) : Int := if 0 ≤ k ∧ k < t 27 6 then t r k.toNat else 0
theorem ln_v_rg {t : hy_T} (h : ln_ok t) (hl : t 27 6 ≤ 8) (k : Int) : rg (ln_v t 28 k) ∧ rg (ln_v t 29 k) ∧ rg (ln_v t 31 k) ∧ rg (ln_v t 32 k) := by
  unfold ln_v
  split
  · exact h k.toNat (by omega)
  · decide
def wf_can (b : Nat) (t : hy_T) (k : Int) : Bool := wf_plain t (ln_v t 28 k) && (decide (t b 3 < 16) && sp_canGo (t (b + 1)) (ln_v t 28 k) (ln_v t 29 k) (ln_v t 31 k) (ln_v t 32 k))
def wf_make (b : Nat) (t : hy_T) (k : Int) : hy_T := if wf_can b t k = true then sp_made b t (ln_v t 28 k) (ln_v t 29 k) (ln_v t 31 k) (ln_v t 32 k) (hy_b (decide ((0 ≤ k ∧ k < t 27 6) ∧ t 30 k.toNat = 43))) else t
theorem wf_make_s {b : Nat} {t : hy_T} (h : st_ok b t) (hn : ln_ok t) (hl : t 27 6 ≤ 8) (k : Int) : st_ok b (wf_make b t k) ∧ hy_F (mkX b) t (wf_make b t k) := by
  unfold wf_make
  split
  · next hc =>
    obtain ⟨a1, a2, a3, a4⟩ := ln_v_rg hn hl k
    simp only [wf_can, Bool.and_eq_true, decide_eq_true_eq] at hc
    exact sp_made_s h hc.2.1 a1 a2 a3 a4
  · exact ⟨h, hy_F.rf⟩
theorem gain_F {t t1 t3 : hy_T} {c q v : Int} (h1 : hy_F pX t t1) (h3 : hy_F pX (sp_setH 33 t1 c q v) t3) : hy_F pX t (sp_setH 33 t3 c q (sp_hav (t1 34) c q)) := by
  unfold sp_setH at h3 ⊢
  by_cases hc : (0 ≤ c ∧ c < 12) ∧ 0 ≤ q ∧ q < 4
  · rw [if_pos hc] at h3 ⊢
    intro r j hX
    simp only [hy_up]
    by_cases hr : r = 33 + 1 ∧ j = (4 * c + q).toNat
    · rw [if_pos hr]
      unfold sp_hav
      rw [if_pos hc, hr.1, hr.2]
      exact h1 34 _ rfl
    · rw [if_neg hr, h3 r j hX]
      simp only [hy_up]
      rw [if_neg hr]
      exact h1 r j hX
  · rw [if_neg hc] at h3 ⊢
    exact h1.tr' h3
theorem pa_search_G (t : hy_T) (a : Int) : ∀ n, hy_F (fun r _ => r == 54 || r == 55) t (pa_searchN (pa_search0 t a) n)
  | 0 => by
    show hy_F _ t (pa_search0 t a)
    unfold pa_search0
    split
    · exact (pa_forgetN_G t 64).up rfl
    · exact pa_forgetN_G t 64
  | n + 1 => by
    refine (pa_search_G t a n).tr' ?_
    show hy_F _ _ (pa_leave (pa_searchN (pa_search0 t a) n) _)
    generalize pa_searchN (pa_search0 t a) n = u
    generalize pa_nearN u 64 = f
    unfold pa_leave
    split
    · have : ∀ m, hy_F (fun r _ => r == 54 || r == 55) u (pa_leaveN u f m) := by
        intro m
        induction m with
        | zero => exact hy_F.rf.up rfl
        | succ m ih =>
          simp only [pa_leaveN]
          split
          · exact ih.up rfl
          · exact ih
      exact this 4
    · exact hy_F.rf
abbrev wyX : Nat → Nat → Bool := fun r _ => r == 17 || r == 18 || r == 46 || r == 53 || r == 54 || r == 55
section WG
variable {sc : List Int32} {t : hy_T}
theorem c_W_gain {e c q : Int} (hk : lc_ok t) : hy_Ct sc hm_W_gain 6 [.inr (some 2), .inl e, .inl c, .inl q] t (fun r t' => (∃ x : Int, r = some x) ∧ hy_F pX t t') := by
  refine hy_mk_ct ok_W_gain ck_W_gain (Nat.le_of_ble_eq_true rfl) ?_
  refine hy_iload (i := 0) rfl rfl ?_
  refine hy_cS1e (i := 1) rfl (by decide) mj_W_isEmpire (by decide) rfl (Nat.le_of_ble_eq_true rfl) (c_W_isEmpire) ?_
  refine hy_ib_eq (i := 2) (tt := 11) rfl (fun zc1 => ?_) (fun zc1 => ?_)
  · refine hy_const (i := 11) rfl (by decide) ?_
    refine hy_ireturn (i := 12) rfl rfl ?_
    first | exact ⟨⟨_, rfl⟩, hy_F.rf⟩ | (refine ⟨⟨_, rfl⟩, ?_⟩; have hG := gain_F hF6 (by assumption); rw [show t6_ 34 = t 34 from funext fun j => hF6 34 j rfl] at hG; exact hG)
  · refine hy_aload (i := 3) rfl rfl ?_
    refine hy_getr (i := 4) rfl rfl ?_
    refine hy_iload (i := 5) rfl rfl ?_
    refine hy_cV1e (i := 6) rfl mj_P_isPlain (by decide) rfl (Nat.le_of_ble_eq_true rfl) rfl rfl rfl (c_P_isPlain) ?_
    refine hy_ib_eq (i := 7) (tt := 11) rfl (fun zc2 => ?_) (fun zc2 => ?_)
    · refine hy_const (i := 11) rfl (by decide) ?_
      refine hy_ireturn (i := 12) rfl rfl ?_
      first | exact ⟨⟨_, rfl⟩, hy_F.rf⟩ | (refine ⟨⟨_, rfl⟩, ?_⟩; have hG := gain_F hF6 (by assumption); rw [show t6_ 34 = t 34 from funext fun j => hF6 34 j rfl] at hG; exact hG)
    · refine hy_iload (i := 8) rfl rfl ?_
      refine hy_cS1e (i := 9) rfl (by decide) mj_W_isQuarter (by decide) rfl (Nat.le_of_ble_eq_true rfl) (c_W_isQuarter) ?_
      refine hy_ib_ne (i := 10) (tt := 13) rfl (fun zc3 => ?_) (fun zc3 => ?_)
      · refine hy_aload (i := 13) rfl rfl ?_
        refine hy_getr (i := 14) rfl rfl ?_
        refine hy_iload (i := 15) rfl rfl ?_
        refine hy_iload (i := 16) rfl rfl ?_
        refine hy_cV2e (i := 17) rfl mj_S_havers (by decide) rfl (Nat.le_of_ble_eq_true rfl) rfl rfl rfl (c_S_havers_33) ?_
        refine hy_istore (i := 18) rfl ?_
        refine hy_iload (i := 19) rfl rfl ?_
        refine hy_iload (i := 20) rfl rfl ?_
        refine hy_cS2e (i := 21) rfl (by decide) mj_W_bit (by decide) rfl (Nat.le_of_ble_eq_true rfl) (c_W_bit) ?_
        refine hy_const (i := 22) rfl (by decide) ?_
        refine hy_icb_ne (i := 23) (tt := 26) rfl (fun zc4 => ?_) (fun zc4 => ?_)
        · refine hy_aload (i := 26) rfl rfl ?_
          refine hy_getr (i := 27) rfl rfl ?_
          refine hy_iload (i := 28) rfl rfl ?_
          refine hy_iload (i := 29) rfl rfl ?_
          refine hy_cV2 (i := 30) rfl mj_U_worthTo (by decide) rfl (Nat.le_of_ble_eq_true rfl) rfl rfl rfl (c_U_worthTo hk) (fun r6_ t6_ h6 => ?_)
          obtain ⟨rfl, hF6⟩ := h6
          dsimp only [hy_st, List.cons_append, List.nil_append]
          refine hy_istore (i := 31) rfl ?_
          refine hy_aload (i := 32) rfl rfl ?_
          refine hy_getr (i := 33) rfl rfl ?_
          refine hy_iload (i := 34) rfl rfl ?_
          refine hy_iload (i := 35) rfl rfl ?_
          refine hy_iload (i := 36) rfl rfl ?_
          refine hy_const (i := 37) rfl (by decide) ?_
          refine hy_iload (i := 38) rfl rfl ?_
          refine hy_ishl (i := 39) rfl ?_
          refine hy_ior (i := 40) rfl ?_
          refine hy_cV3v (i := 41) rfl mj_S_setHavers (by decide) rfl (Nat.le_of_ble_eq_true rfl) rfl rfl rfl (c_S_setHavers_33) ?_
          refine hy_aload (i := 42) rfl rfl ?_
          refine hy_getr (i := 43) rfl rfl ?_
          refine hy_iload (i := 44) rfl rfl ?_
          refine hy_iload (i := 45) rfl rfl ?_
          have hk2 : lc_ok (sp_setH 33 t6_ c q (hz_ior (sp_hav (t 34) c q) (hz_ishl 1 e))) := lc_ok_same (lc_same_of (X := fun r _ => r == 34) (by unfold sp_setH; split; exact hy_F.rf.up rfl; exact hy_F.rf) (fun r j h => by revert h; simp [lawX]; omega)) (lc_ok_same (pX_law hF6) hk)
          refine hy_cV2 (i := 46) rfl mj_U_worthTo (by decide) rfl (Nat.le_of_ble_eq_true rfl) rfl rfl rfl (c_U_worthTo hk2) (fun r8_ t8_ h8 => ?_)
          obtain ⟨rfl, hF8⟩ := h8
          dsimp only [hy_st, List.cons_append, List.nil_append]
          refine hy_istore (i := 47) rfl ?_
          refine hy_aload (i := 48) rfl rfl ?_
          refine hy_getr (i := 49) rfl rfl ?_
          refine hy_iload (i := 50) rfl rfl ?_
          refine hy_iload (i := 51) rfl rfl ?_
          refine hy_iload (i := 52) rfl rfl ?_
          refine hy_cV3v (i := 53) rfl mj_S_setHavers (by decide) rfl (Nat.le_of_ble_eq_true rfl) rfl rfl rfl (c_S_setHavers_33) ?_
          refine hy_iload (i := 54) rfl rfl ?_
          refine hy_iload (i := 55) rfl rfl ?_
          refine hy_isubw (i := 56) rfl ?_
          refine hy_ireturn (i := 57) rfl rfl ?_
          first | exact ⟨⟨_, rfl⟩, hy_F.rf⟩ | (refine ⟨⟨_, rfl⟩, ?_⟩; have hG := gain_F hF6 (by assumption); rw [show t6_ 34 = t 34 from funext fun j => hF6 34 j rfl] at hG; exact hG)
        · refine hy_const (i := 24) rfl (by decide) ?_
          refine hy_ireturn (i := 25) rfl rfl ?_
          first | exact ⟨⟨_, rfl⟩, hy_F.rf⟩ | (refine ⟨⟨_, rfl⟩, ?_⟩; have hG := gain_F hF6 (by assumption); rw [show t6_ 34 = t 34 from funext fun j => hF6 34 j rfl] at hG; exact hG)
      · refine hy_const (i := 11) rfl (by decide) ?_
        refine hy_ireturn (i := 12) rfl rfl ?_
        first | exact ⟨⟨_, rfl⟩, hy_F.rf⟩ | (refine ⟨⟨_, rfl⟩, ?_⟩; have hG := gain_F hF6 (by assumption); rw [show t6_ 34 = t 34 from funext fun j => hF6 34 j rfl] at hG; exact hG)
theorem c_W_way {a b u e q w : Int} (hk : lc_ok t) : hy_Ct sc hm_W_way 5 [.inr (some 2), .inl a, .inl b, .inl u, .inl e, .inl q, .inl w] t (fun r t' => (∃ x : Int, r = some x) ∧ hy_F wyX t t') := by
  refine hy_mk_ct ok_W_way ck_W_way (Nat.le_of_ble_eq_true rfl) ?_
  have fin : ∀ (t1 : hy_T) (v7 : hy_V), hy_F wyX t t1 → hy_W sc hm_W_way 5 47 [.inr (some 2), .inl a, .inl b, .inl u, .inl e, .inl q, .inl w, v7] [] t1 (fun r t' => (∃ x : Int, r = some x) ∧ hy_F wyX t t') := by
    intro t1 v7 hF
    have hi := pa_searchN_inv (pa_search0_inv t1 a) 64
    have hG := hF.tr' ((pa_search_G t1 a 64).w (fun r j q => by revert q; simp [wyX]; omega))
    refine hy_aload (i := 47) rfl rfl ?_
    refine hy_getr (i := 48) rfl rfl ?_
    refine hy_iload (i := 49) rfl rfl ?_
    refine hy_cV1v (i := 50) rfl mj_A_search (by decide) rfl (Nat.le_of_ble_eq_true rfl) rfl rfl rfl (c_A_search) ?_
    refine hy_aload (i := 51) rfl rfl ?_
    refine hy_getr (i := 52) rfl rfl ?_
    refine hy_iload (i := 53) rfl rfl ?_
    refine hy_cV1e (i := 54) rfl mj_A_watchedTo (by decide) rfl (Nat.le_of_ble_eq_true rfl) rfl rfl rfl (c_A_watchedTo (by assumption)) ?_
    refine hy_istore (i := 55) rfl ?_
    refine hy_iload (i := 56) rfl rfl ?_
    by_cases zq1 : w = 0
    · refine hy_lsw (i := 57) (tt := 58) rfl (by rw [zq1]; rfl) ?_
      refine hy_iload (i := 58) rfl rfl ?_
      refine hy_if_ne (i := 59) (tt := 65) rfl (fun zc2 => ?_) (fun zc2 => ?_)
      · refine hy_const (i := 65) rfl (by decide) ?_
        refine hy_ireturn (i := 66) rfl rfl ?_
        exact ⟨⟨_, rfl⟩, hG⟩
      · refine hy_aload (i := 60) rfl rfl ?_
        refine hy_getr (i := 61) rfl rfl ?_
        refine hy_iload (i := 62) rfl rfl ?_
        refine hy_cV1e (i := 63) rfl mj_A_stepsTo (by decide) rfl (Nat.le_of_ble_eq_true rfl) rfl rfl rfl (c_A_stepsTo (by assumption)) ?_
        refine hy_goto (i := 64) (tt := 66) rfl ?_
        refine hy_ireturn (i := 66) rfl rfl ?_
        exact ⟨⟨_, rfl⟩, hG⟩
    · skip
      by_cases zq1 : w = 1
      · refine hy_lsw (i := 57) (tt := 67) rfl (by rw [zq1]; rfl) ?_
        refine hy_iload (i := 67) rfl rfl ?_
        refine hy_ireturn (i := 68) rfl rfl ?_
        exact ⟨⟨_, rfl⟩, hG⟩
      · skip
        refine hy_lsw (i := 57) (tt := 69) rfl (by simp [hx_look]; omega) ?_
        refine hy_aload (i := 69) rfl rfl ?_
        refine hy_getr (i := 70) rfl rfl ?_
        refine hy_iload (i := 71) rfl rfl ?_
        refine hy_cV1e (i := 72) rfl mj_A_stepsTo (by decide) rfl (Nat.le_of_ble_eq_true rfl) rfl rfl rfl (c_A_stepsTo (by assumption)) ?_
        refine hy_ireturn (i := 73) rfl rfl ?_
        exact ⟨⟨_, rfl⟩, hG⟩
  have loop : ∀ (m : Nat), ∀ (k : Nat) (t1 : hy_T), m + k = 64 → hy_F wyX t t1 → hy_W sc hm_W_way 5 34 [.inr (some 2), .inl a, .inl b, .inl u, .inl e, .inl q, .inl w, .inl (k : Int)] [] t1 (fun r t' => (∃ x : Int, r = some x) ∧ hy_F wyX t t') := by
    intro m
    induction m with
    | zero =>
      intro k t1 hm hF
      refine hy_iload (i := 34) rfl rfl ?_
      refine hy_const (i := 35) rfl (by decide) ?_
      refine hy_ic_ge (i := 36) (tt := 47) rfl (fun zc1 => ?_) (fun zc1 => ?_)
      · exact fin _ _ hF
      · omega
    | succ m ih =>
      intro k t1 hm hF
      refine hy_iload (i := 34) rfl rfl ?_
      refine hy_const (i := 35) rfl (by decide) ?_
      refine hy_ic_ge (i := 36) (tt := 47) rfl (fun zc1 => ?_) (fun zc1 => ?_)
      · omega
      · refine hy_aload (i := 37) rfl rfl ?_
        refine hy_getr (i := 38) rfl rfl ?_
        refine hy_iload (i := 39) rfl rfl ?_
        refine hy_aload (i := 40) rfl rfl ?_
        refine hy_iload (i := 41) rfl rfl ?_
        refine hy_iload (i := 42) rfl rfl ?_
        refine hy_cV2e (i := 43) rfl mj_W_isHidden (by decide) rfl (Nat.le_of_ble_eq_true rfl) rfl rfl rfl (c_W_isHidden) ?_
        refine hy_cV2v (i := 44) rfl mj_A_mark (by decide) rfl (Nat.le_of_ble_eq_true rfl) rfl rfl rfl (c_A_mark (hy_b01 _)) ?_
        refine hy_iinc (i := 45) rfl rfl (by omega) ?_
        refine hy_goto (i := 46) (tt := 34) rfl ?_
        exact ih (k + 1) _ (by omega) (by split; exact hF.up rfl; exact hF)
  refine hy_iload (i := 0) rfl rfl ?_
  refine hy_const (i := 1) rfl (by decide) ?_
  refine hy_cS2e (i := 2) rfl (by decide) mj_W_isAmong (by decide) rfl (Nat.le_of_ble_eq_true rfl) (c_W_isAmong) ?_
  refine hy_ib_eq (i := 3) (tt := 13) rfl (fun zc1 => ?_) (fun zc1 => ?_)
  · refine hy_const (i := 13) rfl (by decide) ?_
    refine hy_ireturn (i := 14) rfl rfl ?_
    exact ⟨⟨_, rfl⟩, hy_F.rf⟩
  · refine hy_iload (i := 4) rfl rfl ?_
    refine hy_const (i := 5) rfl (by decide) ?_
    refine hy_cS2e (i := 6) rfl (by decide) mj_W_isAmong (by decide) rfl (Nat.le_of_ble_eq_true rfl) (c_W_isAmong) ?_
    refine hy_ib_eq (i := 7) (tt := 13) rfl (fun zc2 => ?_) (fun zc2 => ?_)
    · refine hy_const (i := 13) rfl (by decide) ?_
      refine hy_ireturn (i := 14) rfl rfl ?_
      exact ⟨⟨_, rfl⟩, hy_F.rf⟩
    · refine hy_aload (i := 8) rfl rfl ?_
      refine hy_getr (i := 9) rfl rfl ?_
      refine hy_iload (i := 10) rfl rfl ?_
      refine hy_cV1e (i := 11) rfl mj_P_isTold (by decide) rfl (Nat.le_of_ble_eq_true rfl) rfl rfl rfl (c_P_isTold) ?_
      refine hy_ib_ne (i := 12) (tt := 15) rfl (fun zc3 => ?_) (fun zc3 => ?_)
      · refine hy_iload (i := 15) rfl rfl ?_
        refine hy_cS1e (i := 16) rfl (by decide) mj_W_isEmpire (by decide) rfl (Nat.le_of_ble_eq_true rfl) (c_W_isEmpire) ?_
        refine hy_ib_eq (i := 17) (tt := 25) rfl (fun zc4 => ?_) (fun zc4 => ?_)
        · refine hy_const (i := 25) rfl (by decide) ?_
          refine hy_ireturn (i := 26) rfl rfl ?_
          exact ⟨⟨_, rfl⟩, hy_F.rf⟩
        · refine hy_iload (i := 18) rfl rfl ?_
          refine hy_cS1e (i := 19) rfl (by decide) mj_W_isQuarter (by decide) rfl (Nat.le_of_ble_eq_true rfl) (c_W_isQuarter) ?_
          refine hy_ib_eq (i := 20) (tt := 25) rfl (fun zc5 => ?_) (fun zc5 => ?_)
          · refine hy_const (i := 25) rfl (by decide) ?_
            refine hy_ireturn (i := 26) rfl rfl ?_
            exact ⟨⟨_, rfl⟩, hy_F.rf⟩
          · refine hy_iload (i := 21) rfl rfl ?_
            refine hy_const (i := 22) rfl (by decide) ?_
            refine hy_cS2e (i := 23) rfl (by decide) mj_W_isAmong (by decide) rfl (Nat.le_of_ble_eq_true rfl) (c_W_isAmong) ?_
            refine hy_ib_ne (i := 24) (tt := 27) rfl (fun zc6 => ?_) (fun zc6 => ?_)
            · refine hy_aload (i := 27) rfl rfl ?_
              refine hy_getr (i := 28) rfl rfl ?_
              refine hy_iload (i := 29) rfl rfl ?_
              refine hy_iload (i := 30) rfl rfl ?_
              refine hy_cV2 (i := 31) rfl mj_E_look (by decide) rfl (Nat.le_of_ble_eq_true rfl) rfl rfl rfl (c_E_look (by assumption)) (fun r7_ t7_ h7 => ?_)
              obtain ⟨rfl, hL7, hF7⟩ := h7
              dsimp only [hy_st, List.nil_append]
              refine hy_const (i := 32) rfl (by decide) ?_
              refine hy_istore (i := 33) rfl ?_
              exact loop 64 0 _ rfl ((show hy_F lX t _ by assumption).w (fun r j q => by revert q; simp [lX, wyX]; omega))
            · refine hy_const (i := 25) rfl (by decide) ?_
              refine hy_ireturn (i := 26) rfl rfl ?_
              exact ⟨⟨_, rfl⟩, hy_F.rf⟩
      · refine hy_const (i := 13) rfl (by decide) ?_
        refine hy_ireturn (i := 14) rfl rfl ?_
        exact ⟨⟨_, rfl⟩, hy_F.rf⟩
theorem c_W_isMade_33 {k : Int} (hl : t 27 6 ≤ 8) (hc : 0 ≤ t 33 3 ∧ t 33 3 ≤ 16) : hy_Ct sc hm_W_isMade 4 [.inr (some 2), .inr (some 33), .inl k] t (hy_e (some (hy_b (wf_can 33 t k))) (wf_make 33 t k)) := by
  refine hy_mk_ct ok_W_isMade ck_W_isMade (Nat.le_of_ble_eq_true rfl) ?_
  by_cases h1 : wf_plain t (ln_v t 28 k) = true
  · have e1 : wf_can 33 t k = (decide (t 33 3 < 16) && sp_canGo (t 34) (ln_v t 28 k) (ln_v t 29 k) (ln_v t 31 k) (ln_v t 32 k)) := by unfold wf_can; rw [h1, Bool.true_and]
    have e2 : wf_make 33 t k = if (decide (t 33 3 < 16) && sp_canGo (t 34) (ln_v t 28 k) (ln_v t 29 k) (ln_v t 31 k) (ln_v t 32 k)) = true then sp_made 33 t (ln_v t 28 k) (ln_v t 29 k) (ln_v t 31 k) (ln_v t 32 k) (hy_b (decide ((0 ≤ k ∧ k < t 27 6) ∧ t 30 k.toNat = 43))) else t := by unfold wf_make; rw [e1]
    rw [e1, e2]
    refine hy_aload (i := 0) rfl rfl ?_
    refine hy_getr (i := 1) rfl rfl ?_
    refine hy_aload (i := 2) rfl rfl ?_
    refine hy_getr (i := 3) rfl rfl ?_
    refine hy_iload (i := 4) rfl rfl ?_
    refine hy_cV1e (i := 5) rfl mj_N_hue (by decide) rfl (Nat.le_of_ble_eq_true rfl) rfl rfl rfl (c_N_hue (by assumption)) ?_
    refine hy_cV1e (i := 6) rfl mj_P_isPlain (by decide) rfl (Nat.le_of_ble_eq_true rfl) rfl rfl rfl (c_P_isPlain) ?_
    refine hy_ib_eq (i := 7) (tt := 33) rfl (fun zc1 => ?_) (fun zc1 => ?_)
    · exact absurd (h1.symm.trans zc1) (by decide)
    · refine hy_aload (i := 8) rfl rfl ?_
      refine hy_aload (i := 9) rfl rfl ?_
      refine hy_getr (i := 10) rfl rfl ?_
      refine hy_iload (i := 11) rfl rfl ?_
      refine hy_cV1e (i := 12) rfl mj_N_hue (by decide) rfl (Nat.le_of_ble_eq_true rfl) rfl rfl rfl (c_N_hue (by assumption)) ?_
      refine hy_aload (i := 13) rfl rfl ?_
      refine hy_getr (i := 14) rfl rfl ?_
      refine hy_iload (i := 15) rfl rfl ?_
      refine hy_cV1e (i := 16) rfl mj_N_quarters (by decide) rfl (Nat.le_of_ble_eq_true rfl) rfl rfl rfl (c_N_quarters (by assumption)) ?_
      refine hy_aload (i := 17) rfl rfl ?_
      refine hy_getr (i := 18) rfl rfl ?_
      refine hy_iload (i := 19) rfl rfl ?_
      refine hy_cV1e (i := 20) rfl mj_N_giver (by decide) rfl (Nat.le_of_ble_eq_true rfl) rfl rfl rfl (c_N_giver (by assumption)) ?_
      refine hy_aload (i := 21) rfl rfl ?_
      refine hy_getr (i := 22) rfl rfl ?_
      refine hy_iload (i := 23) rfl rfl ?_
      refine hy_cV1e (i := 24) rfl mj_N_other (by decide) rfl (Nat.le_of_ble_eq_true rfl) rfl rfl rfl (c_N_other (by assumption)) ?_
      refine hy_aload (i := 25) rfl rfl ?_
      refine hy_getr (i := 26) rfl rfl ?_
      refine hy_iload (i := 27) rfl rfl ?_
      refine hy_cV1e (i := 28) rfl mj_N_isShared (by decide) rfl (Nat.le_of_ble_eq_true rfl) rfl rfl rfl (c_N_isShared (by assumption)) ?_
      refine hy_cV5e (i := 29) rfl mj_S_isMade (by decide) rfl (Nat.le_of_ble_eq_true rfl) rfl rfl rfl (c_S_isMade_33 hc (hy_b01 _)) ?_
      refine hy_ib_eq (i := 30) (tt := 33) rfl (fun zc2 => ?_) (fun zc2 => ?_)
      · refine hy_const (i := 33) rfl (by decide) ?_
        refine hy_zreturn (i := 34) rfl rfl (by first | decide | exact hy_b01 _) ?_
        first | exact ⟨congrArg some (by rw [show (decide (t 33 3 < 16) && sp_canGo (t 34) (ln_v t 28 k) (ln_v t 29 k) (ln_v t 31 k) (ln_v t 32 k)) = true from zc2]; rfl), rfl⟩ | exact ⟨congrArg some (by rw [show (decide (t 33 3 < 16) && sp_canGo (t 34) (ln_v t 28 k) (ln_v t 29 k) (ln_v t 31 k) (ln_v t 32 k)) = false from zc2]; rfl), rfl⟩
      · refine hy_const (i := 31) rfl (by decide) ?_
        refine hy_goto (i := 32) (tt := 34) rfl ?_
        refine hy_zreturn (i := 34) rfl rfl (by first | decide | exact hy_b01 _) ?_
        first | exact ⟨congrArg some (by rw [show (decide (t 33 3 < 16) && sp_canGo (t 34) (ln_v t 28 k) (ln_v t 29 k) (ln_v t 31 k) (ln_v t 32 k)) = true from zc2]; rfl), rfl⟩ | exact ⟨congrArg some (by rw [show (decide (t 33 3 < 16) && sp_canGo (t 34) (ln_v t 28 k) (ln_v t 29 k) (ln_v t 31 k) (ln_v t 32 k)) = false from zc2]; rfl), rfl⟩
  · rw [Bool.not_eq_true] at h1
    have e1 : wf_can 33 t k = false := by unfold wf_can; rw [h1, Bool.false_and]
    have e2 : wf_make 33 t k = t := by unfold wf_make; rw [e1]; rfl
    rw [e1, e2]
    refine hy_aload (i := 0) rfl rfl ?_
    refine hy_getr (i := 1) rfl rfl ?_
    refine hy_aload (i := 2) rfl rfl ?_
    refine hy_getr (i := 3) rfl rfl ?_
    refine hy_iload (i := 4) rfl rfl ?_
    refine hy_cV1e (i := 5) rfl mj_N_hue (by decide) rfl (Nat.le_of_ble_eq_true rfl) rfl rfl rfl (c_N_hue (by assumption)) ?_
    refine hy_cV1e (i := 6) rfl mj_P_isPlain (by decide) rfl (Nat.le_of_ble_eq_true rfl) rfl rfl rfl (c_P_isPlain) ?_
    refine hy_ib_eq (i := 7) (tt := 33) rfl (fun zc1 => ?_) (fun zc1 => ?_)
    · refine hy_const (i := 33) rfl (by decide) ?_
      refine hy_zreturn (i := 34) rfl rfl (by first | decide | exact hy_b01 _) ?_
      exact ⟨rfl, rfl⟩
    · exact absurd (h1.symm.trans zc1) (by decide)
theorem c_W_isMade_41 {k : Int} (hl : t 27 6 ≤ 8) (hc : 0 ≤ t 41 3 ∧ t 41 3 ≤ 16) : hy_Ct sc hm_W_isMade 4 [.inr (some 2), .inr (some 41), .inl k] t (hy_e (some (hy_b (wf_can 41 t k))) (wf_make 41 t k)) := by
  refine hy_mk_ct ok_W_isMade ck_W_isMade (Nat.le_of_ble_eq_true rfl) ?_
  by_cases h1 : wf_plain t (ln_v t 28 k) = true
  · have e1 : wf_can 41 t k = (decide (t 41 3 < 16) && sp_canGo (t 42) (ln_v t 28 k) (ln_v t 29 k) (ln_v t 31 k) (ln_v t 32 k)) := by unfold wf_can; rw [h1, Bool.true_and]
    have e2 : wf_make 41 t k = if (decide (t 41 3 < 16) && sp_canGo (t 42) (ln_v t 28 k) (ln_v t 29 k) (ln_v t 31 k) (ln_v t 32 k)) = true then sp_made 41 t (ln_v t 28 k) (ln_v t 29 k) (ln_v t 31 k) (ln_v t 32 k) (hy_b (decide ((0 ≤ k ∧ k < t 27 6) ∧ t 30 k.toNat = 43))) else t := by unfold wf_make; rw [e1]
    rw [e1, e2]
    refine hy_aload (i := 0) rfl rfl ?_
    refine hy_getr (i := 1) rfl rfl ?_
    refine hy_aload (i := 2) rfl rfl ?_
    refine hy_getr (i := 3) rfl rfl ?_
    refine hy_iload (i := 4) rfl rfl ?_
    refine hy_cV1e (i := 5) rfl mj_N_hue (by decide) rfl (Nat.le_of_ble_eq_true rfl) rfl rfl rfl (c_N_hue (by assumption)) ?_
    refine hy_cV1e (i := 6) rfl mj_P_isPlain (by decide) rfl (Nat.le_of_ble_eq_true rfl) rfl rfl rfl (c_P_isPlain) ?_
    refine hy_ib_eq (i := 7) (tt := 33) rfl (fun zc1 => ?_) (fun zc1 => ?_)
    · exact absurd (h1.symm.trans zc1) (by decide)
    · refine hy_aload (i := 8) rfl rfl ?_
      refine hy_aload (i := 9) rfl rfl ?_
      refine hy_getr (i := 10) rfl rfl ?_
      refine hy_iload (i := 11) rfl rfl ?_
      refine hy_cV1e (i := 12) rfl mj_N_hue (by decide) rfl (Nat.le_of_ble_eq_true rfl) rfl rfl rfl (c_N_hue (by assumption)) ?_
      refine hy_aload (i := 13) rfl rfl ?_
      refine hy_getr (i := 14) rfl rfl ?_
      refine hy_iload (i := 15) rfl rfl ?_
      refine hy_cV1e (i := 16) rfl mj_N_quarters (by decide) rfl (Nat.le_of_ble_eq_true rfl) rfl rfl rfl (c_N_quarters (by assumption)) ?_
      refine hy_aload (i := 17) rfl rfl ?_
      refine hy_getr (i := 18) rfl rfl ?_
      refine hy_iload (i := 19) rfl rfl ?_
      refine hy_cV1e (i := 20) rfl mj_N_giver (by decide) rfl (Nat.le_of_ble_eq_true rfl) rfl rfl rfl (c_N_giver (by assumption)) ?_
      refine hy_aload (i := 21) rfl rfl ?_
      refine hy_getr (i := 22) rfl rfl ?_
      refine hy_iload (i := 23) rfl rfl ?_
      refine hy_cV1e (i := 24) rfl mj_N_other (by decide) rfl (Nat.le_of_ble_eq_true rfl) rfl rfl rfl (c_N_other (by assumption)) ?_
      refine hy_aload (i := 25) rfl rfl ?_
      refine hy_getr (i := 26) rfl rfl ?_
      refine hy_iload (i := 27) rfl rfl ?_
      refine hy_cV1e (i := 28) rfl mj_N_isShared (by decide) rfl (Nat.le_of_ble_eq_true rfl) rfl rfl rfl (c_N_isShared (by assumption)) ?_
      refine hy_cV5e (i := 29) rfl mj_S_isMade (by decide) rfl (Nat.le_of_ble_eq_true rfl) rfl rfl rfl (c_S_isMade_41 hc (hy_b01 _)) ?_
      refine hy_ib_eq (i := 30) (tt := 33) rfl (fun zc2 => ?_) (fun zc2 => ?_)
      · refine hy_const (i := 33) rfl (by decide) ?_
        refine hy_zreturn (i := 34) rfl rfl (by first | decide | exact hy_b01 _) ?_
        first | exact ⟨congrArg some (by rw [show (decide (t 41 3 < 16) && sp_canGo (t 42) (ln_v t 28 k) (ln_v t 29 k) (ln_v t 31 k) (ln_v t 32 k)) = true from zc2]; rfl), rfl⟩ | exact ⟨congrArg some (by rw [show (decide (t 41 3 < 16) && sp_canGo (t 42) (ln_v t 28 k) (ln_v t 29 k) (ln_v t 31 k) (ln_v t 32 k)) = false from zc2]; rfl), rfl⟩
      · refine hy_const (i := 31) rfl (by decide) ?_
        refine hy_goto (i := 32) (tt := 34) rfl ?_
        refine hy_zreturn (i := 34) rfl rfl (by first | decide | exact hy_b01 _) ?_
        first | exact ⟨congrArg some (by rw [show (decide (t 41 3 < 16) && sp_canGo (t 42) (ln_v t 28 k) (ln_v t 29 k) (ln_v t 31 k) (ln_v t 32 k)) = true from zc2]; rfl), rfl⟩ | exact ⟨congrArg some (by rw [show (decide (t 41 3 < 16) && sp_canGo (t 42) (ln_v t 28 k) (ln_v t 29 k) (ln_v t 31 k) (ln_v t 32 k)) = false from zc2]; rfl), rfl⟩
  · rw [Bool.not_eq_true] at h1
    have e1 : wf_can 41 t k = false := by unfold wf_can; rw [h1, Bool.false_and]
    have e2 : wf_make 41 t k = t := by unfold wf_make; rw [e1]; rfl
    rw [e1, e2]
    refine hy_aload (i := 0) rfl rfl ?_
    refine hy_getr (i := 1) rfl rfl ?_
    refine hy_aload (i := 2) rfl rfl ?_
    refine hy_getr (i := 3) rfl rfl ?_
    refine hy_iload (i := 4) rfl rfl ?_
    refine hy_cV1e (i := 5) rfl mj_N_hue (by decide) rfl (Nat.le_of_ble_eq_true rfl) rfl rfl rfl (c_N_hue (by assumption)) ?_
    refine hy_cV1e (i := 6) rfl mj_P_isPlain (by decide) rfl (Nat.le_of_ble_eq_true rfl) rfl rfl rfl (c_P_isPlain) ?_
    refine hy_ib_eq (i := 7) (tt := 33) rfl (fun zc1 => ?_) (fun zc1 => ?_)
    · refine hy_const (i := 33) rfl (by decide) ?_
      refine hy_zreturn (i := 34) rfl rfl (by first | decide | exact hy_b01 _) ?_
      exact ⟨rfl, rfl⟩
    · exact absurd (h1.symm.trans zc1) (by decide)
end WG
