/-! the model: lines judged, days -/
theorem tr_ok_of {t t1 : hy_T} (h34 : t1 59 34 = t 59 34) (h2 : 0 ≤ t1 59 2 ∧ t1 59 2 ≤ 9999) (h1 : 0 ≤ t1 59 1 ∧ t1 59 1 ≤ 65535) (hr : ∀ i : Nat, i < 16 → tr_row t i → tr_row t1 i) (hk : tr_ok t) : tr_ok t1 := by
  obtain ⟨k1, k2, k3, k4⟩ := hk
  refine ⟨by omega, h2, h1, fun i hi => hr i (by omega) (k4 i (by omega))⟩
theorem tr_row_e {t t1 : hy_T} {i : Nat} (h : ∀ r, 85 ≤ r → r ≤ 90 → t1 r i = t r i) (hr : tr_row t i) : tr_row t1 i := by
  unfold tr_row
  rw [h 85 (by decide) (by decide), h 86 (by decide) (by decide), h 87 (by decide) (by decide), h 88 (by decide) (by decide), h 89 (by decide) (by decide), h 90 (by decide) (by decide)]
  exact hr
theorem mk_jdN_s : ∀ (m k : Nat) {t : hy_T}, ml_good t → tr_ok t → (m + k : Int) ≤ t 59 33 → hy_F stX t (mk_jdN t m k).2 ∧ tr_ok (mk_jdN t m k).2
  | 0, k, t, hg, ht, hm => ⟨hy_F.rf, ht⟩
  | m + 1, k, t, hg, ht, hm => by
    simp only [mk_jdN]
    split
    · obtain ⟨b1, b2⟩ := mk_make_s (hg.2 k (by omega)) ht
      have e : mk_make t k 59 33 = t 59 33 := b1 59 33 rfl
      obtain ⟨c1, c2⟩ := mk_jdN_s m (k + 1) (t := mk_make t k) (ml_good_F b1 rfl (fun r j h8 h9 => by simp [stX]; omega) hg) b2 (by omega)
      exact ⟨b1.tr' c1, c2⟩
    · exact ⟨hy_F.rf, ht⟩
abbrev jdX : Nat → Nat → Bool := fun r j => mlsX r j || mfaX r j
def mk_jd (t : hy_T) : Nat × hy_T := mk_jdN (mf_begins t) (t 59 33).toNat 0
section NC
variable {sc : List Int32} {t : hy_T}
theorem c_M_judged {n : Int} (ht : tr_ok t) : hy_Ct sc hm_M_judged 5 [.inr (some 59), .inl n] t (fun r t' => r = some (if ml_ntc t n then (if (ml_lines t n).1 = true then ((mk_jd (ml_lines t n).2).1 : Int) else (ml_lines t n).2 59 12) else -1) ∧ hy_F jdX t t' ∧ t' 59 9 = if ml_ntc t n then 0 else t 59 9) := by
  refine hy_mk_ct ok_M_judged ck_M_judged (Nat.le_of_ble_eq_true rfl) ?_
  by_cases hq : ml_ntc t n
  · simp only [if_pos hq]
    obtain ⟨hg, hF⟩ := ml_lines_s t (n := n) (by omega)
    have h9 : (ml_lines t n).2 59 9 = 0 := rfl
    have ht1 := tr_ok_F hF (fun r j h => by revert h; simp [stX, mlsX]; omega) ht
    generalize hG : ml_lines t n = G at hg hF ht1 h9
    obtain ⟨ha, hB⟩ := begins_as G.2
    have hgb := ml_good_F hB rfl (fun r j h8 h9 => by simp [mfaX]; omega) hg
    have htb := tr_ok_F hB (fun r j h => by revert h; simp [stX, mfaX]; omega) ht1
    have loop : G.1 = true → ∀ (m : Nat), ∀ (k : Nat) (u : hy_T), (m + k : Int) = u 59 33 → ml_good u → tr_ok u → hy_F stX (mf_begins G.2) u → mk_jdN u m k = mk_jd G.2 → hy_W sc hm_M_judged 5 22 [.inr (some 59), .inl n, .inl (k : Int)] [] u (fun r t' => r = some ((mk_jd G.2).1 : Int) ∧ hy_F jdX t t' ∧ t' 59 9 = 0) := by
      intro hx m
      have fin : ∀ (k : Nat) (u : hy_T), hy_F stX (mf_begins G.2) u → (mk_jd G.2).1 = k → hy_W sc hm_M_judged 5 35 [.inr (some 59), .inl n, .inl (k : Int)] [] u (fun r t' => r = some ((mk_jd G.2).1 : Int) ∧ hy_F jdX t t' ∧ t' 59 9 = 0) := by
        intro k u hu hv
        have hau : as_of G.2 u := as_of_F hu (fun r j h => by revert h; simp [mfaX, stX]; omega) ha
        refine hy_aload (i := 35) rfl rfl ?_
        refine hy_cV0v (i := 36) rfl mj_M_again (by decide) rfl (Nat.le_of_ble_eq_true rfl) rfl rfl rfl (c_M_again) ?_
        refine hy_iload (i := 37) rfl rfl ?_
        refine hy_ireturn (i := 38) rfl rfl ?_
        refine ⟨congrArg some (by rw [hv]), ?_, ?_⟩
        · refine (hF.w (fun r j q => by revert q; simp [jdX, mlsX]; omega)).tr' (again_back hau (fun r j hX hs => ?_))
          rw [hu r j hs]
          exact hB r j (by revert hX; simp only [jdX, Bool.or_eq_false_iff]; exact fun h => h.2)
        · rw [again_F u 59 9 rfl, hu 59 9 rfl, hB 59 9 rfl]
          exact h9
      induction m with
      | zero =>
        intro k u hm hgu htu hu hv
        refine hy_iload (i := 22) rfl rfl ?_
        refine hy_aload (i := 23) rfl rfl ?_
        refine hy_get (i := 24) (fk := 33) rfl rfl rfl ?_
        refine hy_ic_ge (i := 25) (tt := 35) rfl (fun zc1 => ?_) (fun zc1 => ?_)
        · exact fin k u hu (by rw [← hv]; rfl)
        · omega
      | succ m ih =>
        intro k u hm hgu htu hu hv
        have hr := hgu.2 k (by omega)
        have hg1 := hgu.1
        have hn := htu.1
        obtain ⟨b1, b2⟩ := mk_make_s hr htu
        have e : mk_make u k 59 33 = u 59 33 := b1 59 33 rfl
        simp only [mk_jdN] at hv
        by_cases hc : mk_can u k = true
        · rw [if_pos hc] at hv
          refine hy_iload (i := 22) rfl rfl ?_
          refine hy_aload (i := 23) rfl rfl ?_
          refine hy_get (i := 24) (fk := 33) rfl rfl rfl ?_
          refine hy_ic_ge (i := 25) (tt := 35) rfl (fun zc1 => ?_) (fun zc1 => ?_)
          · omega
          · refine hy_aload (i := 26) rfl rfl ?_
            refine hy_iload (i := 27) rfl rfl ?_
            refine hy_cV1e (i := 28) rfl mj_M_makes (by decide) rfl (Nat.le_of_ble_eq_true rfl) rfl rfl rfl (c_M_makes (k := k) (by omega) hr hn) ?_
            refine hy_ib_eq (i := 29) (tt := 35) rfl (fun zc2 => ?_) (fun zc2 => ?_)
            · exact bb_abs hc (by assumption)
            · refine hy_iload (i := 30) rfl rfl ?_
              refine hy_const (i := 31) rfl (by decide) ?_
              refine hy_iadd (i := 32) rfl (by omega) ?_
              refine hy_istore (i := 33) rfl ?_
              refine hy_goto (i := 34) (tt := 22) rfl ?_
              exact ih (k + 1) _ (by omega) (ml_good_F b1 rfl (fun r j h8 h9 => by simp [stX]; omega) hgu) b2 (hu.tr' b1) hv
        · rw [if_neg hc] at hv
          have e2 : mk_make u k = u := by unfold mk_make; rw [if_neg hc]
          refine hy_iload (i := 22) rfl rfl ?_
          refine hy_aload (i := 23) rfl rfl ?_
          refine hy_get (i := 24) (fk := 33) rfl rfl rfl ?_
          refine hy_ic_ge (i := 25) (tt := 35) rfl (fun zc1 => ?_) (fun zc1 => ?_)
          · omega
          · refine hy_aload (i := 26) rfl rfl ?_
            refine hy_iload (i := 27) rfl rfl ?_
            refine hy_cV1e (i := 28) rfl mj_M_makes (by decide) rfl (Nat.le_of_ble_eq_true rfl) rfl rfl rfl (c_M_makes (k := k) (by omega) hr hn) ?_
            refine hy_ib_eq (i := 29) (tt := 35) rfl (fun zc2 => ?_) (fun zc2 => ?_)
            · rw [e2]; exact fin k u hu (by rw [← hv])
            · exact absurd (by assumption) hc
    have eb : mf_begins G.2 59 33 = G.2 59 33 := hB 59 33 rfl
    have hg1 := hg.1
    refine hy_iload (i := 0) rfl rfl ?_
    refine hy_const (i := 1) rfl (by decide) ?_
    refine hy_const (i := 2) rfl (by decide) ?_
    refine hy_cS3e (i := 3) rfl (by decide) mj_M_in (by decide) rfl (Nat.le_of_ble_eq_true rfl) (c_M_in) ?_
    refine hy_ib_eq (i := 4) (tt := 9) rfl (fun zc1 => ?_) (fun zc1 => ?_)
    · simp only [decide_eq_false_iff_not] at zc1; omega
    · refine hy_iload (i := 5) rfl rfl ?_
      refine hy_aload (i := 6) rfl rfl ?_
      refine hy_get (i := 7) (fk := 9) rfl rfl rfl ?_
      refine hy_ic_le (i := 8) (tt := 11) rfl (fun zc2 => ?_) (fun zc2 => ?_)
      · refine hy_aload (i := 11) rfl rfl ?_
        refine hy_iload (i := 12) rfl rfl ?_
        refine hy_cV1e (i := 13) rfl mj_M_readsLines (by decide) rfl (Nat.le_of_ble_eq_true rfl) rfl rfl rfl (c_M_readsLines (by omega)) ?_
        rw [hG]
        refine hy_ib_ne (i := 14) (tt := 18) rfl (fun zc3 => ?_) (fun zc3 => ?_)
        · refine hy_aload (i := 18) rfl rfl ?_
          refine hy_cV0v (i := 19) rfl mj_M_begins (by decide) rfl (Nat.le_of_ble_eq_true rfl) rfl rfl rfl (c_M_begins) ?_
          refine hy_const (i := 20) rfl (by decide) ?_
          refine hy_istore (i := 21) rfl ?_
          rw [if_pos (by assumption)]; exact loop (by assumption) (G.2 59 33).toNat 0 _ (by omega) hgb htb hy_F.rf rfl
        · refine hy_aload (i := 15) rfl rfl ?_
          refine hy_get (i := 16) (fk := 12) rfl rfl rfl ?_
          refine hy_ireturn (i := 17) rfl rfl ?_
          exact ⟨by rw [if_neg (fun h => bb_abs h (by assumption))], hF.w (fun r j q => by revert q; simp [jdX, mlsX]; omega), h9⟩
      · omega
  · simp only [if_neg hq]
    refine hy_iload (i := 0) rfl rfl ?_
    refine hy_const (i := 1) rfl (by decide) ?_
    refine hy_const (i := 2) rfl (by decide) ?_
    refine hy_cS3e (i := 3) rfl (by decide) mj_M_in (by decide) rfl (Nat.le_of_ble_eq_true rfl) (c_M_in) ?_
    refine hy_ib_eq (i := 4) (tt := 9) rfl (fun zc1 => ?_) (fun zc1 => ?_)
    · refine hy_const (i := 9) rfl (by decide) ?_
      refine hy_ireturn (i := 10) rfl rfl ?_
      exact ⟨rfl, hy_F.rf, rfl⟩
    · refine hy_iload (i := 5) rfl rfl ?_
      refine hy_aload (i := 6) rfl rfl ?_
      refine hy_get (i := 7) (fk := 9) rfl rfl rfl ?_
      refine hy_ic_le (i := 8) (tt := 11) rfl (fun zc2 => ?_) (fun zc2 => ?_)
      · exfalso; simp only [decide_eq_true_eq] at zc1; exact hq ⟨by omega, by omega⟩
      · refine hy_const (i := 9) rfl (by decide) ?_
        refine hy_ireturn (i := 10) rfl rfl ?_
        exact ⟨rfl, hy_F.rf, rfl⟩
end NC
theorem lw_in : ∀ w : Nat, w < 16 → 1 ≤ w → 0 ≤ sp_lowN (w : Int) 4 0 ∧ sp_lowN (w : Int) 4 0 < 4 := by decide +kernel
theorem lw_in' {w : Int} (h : 1 ≤ w ∧ w ≤ 15) : 0 ≤ sp_lowN w 4 0 ∧ sp_lowN w 4 0 < 4 := by
  have := lw_in w.toNat (by omega) (by omega)
  rw [show ((w.toNat : Nat) : Int) = w by omega] at this
  exact this
def mb_br (t : hy_T) (i : Nat) : Int := mb_amt t (mq_V t (t 87 i) (t 85 i) (sp_lowN (t 86 i) 4 0) 0 0 0 (t 59 2 - t 90 i)) 98 10
def me_e0 (t : hy_T) (i : Nat) : hy_T := if t 59 58 = 0 then hy_up (hy_up t 59 59 (t 59 2)) 59 60 (t 87 i) else t
def me_e1 (t : hy_T) (i : Nat) : hy_T := hy_up (me_e0 t i) 59 58 (me_e0 t i 59 58 + 1)
def me_e2 (u : hy_T) (i : Nat) : hy_T := mf_chN u (u 85 i) (u 86 i) (u 88 i) 0 4
def me_e3 (u : hy_T) (i : Nat) : hy_T := mf_chN u (u 85 i) (u 86 i) (u 87 i) 1 4
def me_e4 (u : hy_T) : hy_T := hy_up u 59 34 (u 59 34 - 1)
def me_sh1 (t : hy_T) (k : Nat) : hy_T :=
  let a := hy_up t 85 k (t 85 (k + 1))
  let b := hy_up a 86 k (a 86 (k + 1))
  let c := hy_up b 87 k (b 87 (k + 1))
  let d := hy_up c 88 k (c 88 (k + 1))
  let e := hy_up d 89 k (d 89 (k + 1))
  hy_up e 90 k (e 90 (k + 1))
def me_shN : Nat → Nat → hy_T → hy_T
  | 0, _, t => t
  | n + 1, k, t => me_shN n (k + 1) (me_sh1 t k)
def me_pre (t : hy_T) (i : Nat) : hy_T := me_e4 (me_e3 (me_e2 (me_e1 t i) i) i)
def me_end (t : hy_T) (i : Nat) : hy_T := me_shN ((t 59 34).toNat - 1 - i) i (me_pre t i)
abbrev enX : Nat → Nat → Bool := fun r j => hvX r j || mftX r j || (r == 59 && (j == 34 || j == 58 || j == 59 || j == 60))
theorem me_e0_F (t : hy_T) (i : Nat) : hy_F (fun r j => r == 59 && (j == 59 || j == 60)) t (me_e0 t i) := by
  unfold me_e0
  split
  · exact (hy_F.rf.up rfl).up rfl
  · exact hy_F.rf
theorem me_e1_F (t : hy_T) (i : Nat) : hy_F (fun r j => r == 59 && (j == 58 || j == 59 || j == 60)) t (me_e1 t i) :=
  ((me_e0_F t i).w (fun r j q => by revert q; simp; omega)).up rfl
theorem me_pre_F {t : hy_T} {i : Nat} (hr : tr_row t i) : hy_F enX t (me_pre t i) := by
  have h1 := me_e1_F t i
  have r1 : ∀ r j, r ≠ 59 → me_e1 t i r j = t r j := fun r j h => h1 r j (by simp; omega)
  have h2 : hy_F hvX (me_e1 t i) (me_e2 (me_e1 t i) i) := mf_chN_F (by rw [r1 85 i (by decide)]; exact hr.1) _ 4 (by omega)
  have h3 : hy_F hvX (me_e2 (me_e1 t i) i) (me_e3 (me_e2 (me_e1 t i) i) i) := mf_chN_F (by rw [h2 85 i rfl, r1 85 i (by decide)]; exact hr.1) _ 4 (by omega)
  exact (((h1.w (fun r j q => by revert q; simp [enX]; omega)).tr' (h2.w (fun r j q => by revert q; simp [enX, hvX]; omega))).tr' (h3.w (fun r j q => by revert q; simp [enX, hvX]; omega))).up rfl
theorem me_sh1_F (t : hy_T) {k : Nat} (hk : k < 16) : hy_F mftX t (me_sh1 t k) := by
  unfold me_sh1
  exact (((((hy_F.rf.up (by simp [mftX]; omega)).up (by simp [mftX]; omega)).up (by simp [mftX]; omega)).up (by simp [mftX]; omega)).up (by simp [mftX]; omega)).up (by simp [mftX]; omega)
theorem me_sh1_v (t : hy_T) (k : Nat) {r : Nat} (h8 : 85 ≤ r) (h9 : r ≤ 90) (i : Nat) : me_sh1 t k r i = if i = k then t r (k + 1) else t r i := by
  rcases (show r = 85 ∨ r = 86 ∨ r = 87 ∨ r = 88 ∨ r = 89 ∨ r = 90 by omega) with rfl | rfl | rfl | rfl | rfl | rfl <;> simp [me_sh1, hy_up]
theorem me_shN_F : ∀ (n k : Nat) (t : hy_T), n + k ≤ 16 → hy_F mftX t (me_shN n k t)
  | 0, _, _, _ => hy_F.rf
  | n + 1, k, t, h => (me_sh1_F t (k := k) (by omega)).tr' (me_shN_F n (k + 1) _ (by omega))
theorem me_shN_row : ∀ (n k : Nat) (t : hy_T), (∀ i, i ≤ n + k → tr_row t i) → ∀ i, i < n + k → tr_row (me_shN n k t) i
  | 0, k, t, h, i, hi => h i (by omega)
  | n + 1, k, t, h, i, hi => by
    refine me_shN_row n (k + 1) _ (fun j hj => ?_) i (by omega)
    unfold tr_row
    rw [me_sh1_v t k (by decide) (by decide) j, me_sh1_v t k (by decide) (by decide) j, me_sh1_v t k (by decide) (by decide) j, me_sh1_v t k (by decide) (by decide) j, me_sh1_v t k (by decide) (by decide) j, me_sh1_v t k (by decide) (by decide) j]
    by_cases hjk : j = k
    · simp only [if_pos hjk]
      exact h (k + 1) (by omega)
    · simp only [if_neg hjk]
      exact h j (by omega)
theorem me_end_s {t : hy_T} {i : Nat} (ht : tr_ok t) (hi : (i : Int) < t 59 34) (hb : 0 ≤ t 59 58 ∧ t 59 58 ≤ 100) : hy_F enX t (me_end t i) ∧ tr_ok (me_end t i) ∧ me_end t i 59 34 = t 59 34 - 1 ∧ me_end t i 59 58 = t 59 58 + 1 := by
  obtain ⟨t1, t2, t3, t4⟩ := id ht
  have hr := t4 i hi
  have h1 := me_pre_F hr
  have h2 := me_shN_F ((t 59 34).toNat - 1 - i) i (me_pre t i) (by omega)
  have e58 : me_e0 t i 59 58 = t 59 58 := me_e0_F t i 59 58 rfl
  have p34 : me_pre t i 59 34 = t 59 34 - 1 := by
    have g : (me_e3 (me_e2 (me_e1 t i) i) i) 59 34 = t 59 34 := by
      have a := me_e1_F t i
      have r1 : ∀ r j, r ≠ 59 → me_e1 t i r j = t r j := fun r j h => a r j (by simp; omega)
      have b : hy_F hvX (me_e1 t i) (me_e2 (me_e1 t i) i) := mf_chN_F (by rw [r1 85 i (by decide)]; exact hr.1) _ 4 (by omega)
      have c : hy_F hvX (me_e2 (me_e1 t i) i) (me_e3 (me_e2 (me_e1 t i) i) i) := mf_chN_F (by rw [b 85 i rfl, r1 85 i (by decide)]; exact hr.1) _ 4 (by omega)
      rw [c 59 34 rfl, b 59 34 rfl, a 59 34 rfl]
    show (me_e3 (me_e2 (me_e1 t i) i) i) 59 34 - 1 = _
    rw [g]
  have p58 : me_pre t i 59 58 = t 59 58 + 1 := by
    have a := me_e1_F t i
    have r1 : ∀ r j, r ≠ 59 → me_e1 t i r j = t r j := fun r j h => a r j (by simp; omega)
    have b : hy_F hvX (me_e1 t i) (me_e2 (me_e1 t i) i) := mf_chN_F (by rw [r1 85 i (by decide)]; exact hr.1) _ 4 (by omega)
    have c : hy_F hvX (me_e2 (me_e1 t i) i) (me_e3 (me_e2 (me_e1 t i) i) i) := mf_chN_F (by rw [b 85 i rfl, r1 85 i (by decide)]; exact hr.1) _ 4 (by omega)
    show (me_e3 (me_e2 (me_e1 t i) i) i) 59 58 = _
    rw [c 59 58 rfl, b 59 58 rfl]
    show me_e0 t i 59 58 + 1 = _
    rw [e58]
  have q34 : me_end t i 59 34 = t 59 34 - 1 := (h2 59 34 rfl).trans p34
  have q2 : me_end t i 59 2 = t 59 2 := (h2 59 2 rfl).trans (h1 59 2 rfl)
  have p1 : me_pre t i 59 1 = t 59 1 := by
    have a := me_e1_F t i
    have r1 : ∀ r j, r ≠ 59 → me_e1 t i r j = t r j := fun r j h => a r j (by simp; omega)
    have b : hy_F hvX (me_e1 t i) (me_e2 (me_e1 t i) i) := mf_chN_F (by rw [r1 85 i (by decide)]; exact hr.1) _ 4 (by omega)
    have c : hy_F hvX (me_e2 (me_e1 t i) i) (me_e3 (me_e2 (me_e1 t i) i) i) := mf_chN_F (by rw [b 85 i rfl, r1 85 i (by decide)]; exact hr.1) _ 4 (by omega)
    show (me_e3 (me_e2 (me_e1 t i) i) i) 59 1 = _
    rw [c 59 1 rfl, b 59 1 rfl, a 59 1 rfl]
  have prow : ∀ r j, 85 ≤ r → me_pre t i r j = t r j := by
    intro r j hr8
    have a := me_e1_F t i
    have r1 : ∀ r j, r ≠ 59 → me_e1 t i r j = t r j := fun r j h => a r j (by simp; omega)
    have b : hy_F hvX (me_e1 t i) (me_e2 (me_e1 t i) i) := mf_chN_F (by rw [r1 85 i (by decide)]; exact hr.1) _ 4 (by omega)
    have c : hy_F hvX (me_e2 (me_e1 t i) i) (me_e3 (me_e2 (me_e1 t i) i) i) := mf_chN_F (by rw [b 85 i rfl, r1 85 i (by decide)]; exact hr.1) _ 4 (by omega)
    show hy_up (me_e3 (me_e2 (me_e1 t i) i) i) 59 34 _ r j = _
    rw [hy_up_ne (by omega), c r j (by simp [hvX]; omega), b r j (by simp [hvX]; omega), r1 r j (by omega)]
  have q1 : me_end t i 59 1 = t 59 1 := (h2 59 1 rfl).trans p1
  refine ⟨h1.tr' (h2.w (fun r j q => by revert q; simp [enX, mftX]; omega)), ⟨by omega, by omega, by omega, fun k hk => ?_⟩, q34, (h2 59 58 rfl).trans p58⟩
  refine me_shN_row _ _ _ (fun j hj => tr_row_e (fun r h8 _ => prow r j h8) (t4 j (by omega))) k (by omega)
theorem hF_up {X : Nat → Nat → Bool} {t t1 : hy_T} (h : hy_F X t t1) (r j : Nat) {v w : Int} (e : w = v) : hy_F X (hy_up t r j v) (hy_up t1 r j w) := by
  subst e
  intro r' j' q
  simp only [hy_up]
  split
  · rfl
  · exact h r' j' q
theorem me_sh1_E {t t1 : hy_T} (h : hy_F mvX t t1) (k : Nat) : hy_F mvX (me_sh1 t k) (me_sh1 t1 k) := by
  unfold me_sh1
  have a := hF_up h 85 k (h 85 (k + 1) rfl)
  have b := hF_up a 86 k (a 86 (k + 1) rfl)
  have c := hF_up b 87 k (b 87 (k + 1) rfl)
  have d := hF_up c 88 k (c 88 (k + 1) rfl)
  have e := hF_up d 89 k (d 89 (k + 1) rfl)
  exact hF_up e 90 k (e 90 (k + 1) rfl)
theorem me_shN_E : ∀ (n k : Nat) {t t1 : hy_T}, hy_F mvX t t1 → hy_F mvX (me_shN n k t) (me_shN n k t1)
  | 0, _, _, _, h => h
  | n + 1, k, _, _, h => me_shN_E n (k + 1) (me_sh1_E h k)
theorem me_end_E {t t1 : hy_T} (h : hy_F mvX t t1) (i : Nat) : hy_F mvX (me_end t i) (me_end t1 i) := by
  have h0 : hy_F mvX (me_e0 t i) (me_e0 t1 i) := by
    unfold me_e0
    rw [h 59 58 rfl]
    split
    · exact hF_up (hF_up h 59 59 (h 59 2 rfl)) 59 60 (h 87 i rfl)
    · exact h
  have h1 : hy_F mvX (me_e1 t i) (me_e1 t1 i) := hF_up h0 59 58 (by rw [h0 59 58 rfl])
  have h2 : hy_F mvX (me_e2 (me_e1 t i) i) (me_e2 (me_e1 t1 i) i) := by
    unfold me_e2
    rw [h1 85 i rfl, h1 86 i rfl, h1 88 i rfl]
    exact mf_chN_G h1 (fun _ => rfl) _ _ _ _ 4
  have h3 : hy_F mvX (me_e3 (me_e2 (me_e1 t i) i) i) (me_e3 (me_e2 (me_e1 t1 i) i) i) := by
    unfold me_e3
    rw [h2 85 i rfl, h2 86 i rfl, h2 87 i rfl]
    exact mf_chN_G h2 (fun _ => rfl) _ _ _ _ 4
  unfold me_end
  rw [h 59 34 rfl]
  exact me_shN_E _ _ (hF_up h3 59 34 (by rw [h3 59 34 rfl]))
theorem mb_br_E {t t1 : hy_T} (h : hy_F mvX t t1) (i : Nat) : mb_br t1 i = mb_br t i := by
  unfold mb_br
  rw [mb_amt_F h (meq_law mvX_meq), mq_V_F h mvX_meq, h 87 i rfl, h 85 i rfl, h 86 i rfl, h 59 2 rfl, h 90 i rfl]
def md_x (t : hy_T) : hy_T := hy_up t 59 1 ((25173 * t 59 1 + 13849) % 65536)
def md_turnN : Nat → hy_T → Nat → hy_T
  | 0, t, _ => t
  | n + 1, t, i => if (i : Int) < t 59 34 then (if md_x t 59 1 % 10 < mb_br (md_x t) i then md_turnN n (me_end (md_x t) i) i else md_turnN n (md_x t) (i + 1)) else t
def md_day (t : hy_T) : hy_T := hy_up (md_turnN 17 t 0) 59 2 (md_turnN 17 t 0 59 2 + 1)
def md_daysN : Nat → hy_T → hy_T
  | 0, t => t
  | n + 1, t => if t 59 2 < 9999 then md_daysN n (md_day t) else t
def md_t0 (t : hy_T) : hy_T := hy_up (hy_up (hy_up t 59 58 0) 59 59 (-2)) 59 60 (-2)
def md_days (t : hy_T) (n : Int) : hy_T := md_daysN n.toNat (md_t0 t)
abbrev dsX : Nat → Nat → Bool := fun r j => enX r j || (r == 59 && (j == 1 || j == 2))
theorem md_x_s {t : hy_T} (ht : tr_ok t) : tr_ok (md_x t) ∧ hy_F dsX t (md_x t) := by
  obtain ⟨t1, t2, t3, t4⟩ := ht
  refine ⟨⟨t1, t2, ?_, fun i hi => tr_row_e (fun r h8 _ => hy_up_ne (by omega)) (t4 i hi)⟩, hy_F.rf.up rfl⟩
  show 0 ≤ (25173 * t 59 1 + 13849) % 65536 ∧ (25173 * t 59 1 + 13849) % 65536 ≤ 65535
  omega
/-- broken ones and those that are left -/
def md_ok (t : hy_T) : Prop := tr_ok t ∧ 0 ≤ t 59 58 ∧ t 59 58 + t 59 34 ≤ 16
theorem md_turnN_s : ∀ (n : Nat) {t : hy_T} (i : Nat), md_ok t → md_ok (md_turnN n t i) ∧ hy_F dsX t (md_turnN n t i) ∧ md_turnN n t i 59 2 = t 59 2
  | 0, t, i, h => ⟨h, hy_F.rf, rfl⟩
  | n + 1, t, i, h => by
    obtain ⟨h1, h2, h3⟩ := id h
    obtain ⟨x1, x2⟩ := md_x_s h1
    have hx : md_ok (md_x t) := ⟨x1, h2, h3⟩
    have hc := h1.1
    simp only [md_turnN]
    split
    · next hi =>
      split
      · obtain ⟨e1, e2, e3, e4⟩ := me_end_s (i := i) x1 hi (by show 0 ≤ t 59 58 ∧ t 59 58 ≤ 100; omega)
        have a34 : md_x t 59 34 = t 59 34 := rfl
        have a58 : md_x t 59 58 = t 59 58 := rfl
        obtain ⟨b1, b2, b3⟩ := md_turnN_s n (t := me_end (md_x t) i) i ⟨e2, by omega, by omega⟩
        exact ⟨b1, (x2.tr' (e1.w (fun r j q => by revert q; simp [dsX, enX]; omega))).tr' b2, b3.trans ((e1 59 2 rfl).trans rfl)⟩
      · obtain ⟨b1, b2, b3⟩ := md_turnN_s n (t := md_x t) (i + 1) hx
        exact ⟨b1, x2.tr' b2, b3.trans rfl⟩
    · exact ⟨h, hy_F.rf, rfl⟩
theorem md_day_s {t : hy_T} (h : md_ok t) (hd : t 59 2 < 9999) : md_ok (md_day t) ∧ hy_F dsX t (md_day t) := by
  obtain ⟨a1, a2, a3⟩ := md_turnN_s 17 0 h
  obtain ⟨⟨b1, b2, b3, b4⟩, b5, b6⟩ := a1
  refine ⟨⟨⟨b1, ?_, b3, fun i hi => tr_row_e (fun r h8 _ => hy_up_ne (by omega)) (b4 i hi)⟩, b5, b6⟩, a2.up rfl⟩
  show 0 ≤ md_turnN 17 t 0 59 2 + 1 ∧ md_turnN 17 t 0 59 2 + 1 ≤ 9999
  omega
theorem md_daysN_s : ∀ (n : Nat) {t : hy_T}, md_ok t → md_ok (md_daysN n t) ∧ hy_F dsX t (md_daysN n t)
  | 0, t, h => ⟨h, hy_F.rf⟩
  | n + 1, t, h => by
    simp only [md_daysN]
    split
    · next hd =>
      obtain ⟨a1, a2⟩ := md_day_s h hd
      obtain ⟨b1, b2⟩ := md_daysN_s n a1
      exact ⟨b1, a2.tr' b2⟩
    · exact ⟨h, hy_F.rf⟩
theorem md_t0_s {t : hy_T} (ht : tr_ok t) : md_ok (md_t0 t) ∧ hy_F dsX t (md_t0 t) := by
  obtain ⟨t1, t2, t3, t4⟩ := ht
  refine ⟨⟨⟨t1, t2, t3, fun i hi => tr_row_e (fun r h8 _ => ?_) (t4 i hi)⟩, Int.le_refl _, ?_⟩, ((hy_F.rf.up rfl).up rfl).up rfl⟩
  · unfold md_t0; rw [hy_up_ne (by omega), hy_up_ne (by omega), hy_up_ne (by omega)]
  · show 0 + t 59 34 ≤ 16
    omega
theorem md_days_s {t : hy_T} (ht : tr_ok t) (n : Int) : md_ok (md_days t n) ∧ hy_F dsX t (md_days t n) := by
  obtain ⟨a1, a2⟩ := md_t0_s ht
  obtain ⟨b1, b2⟩ := md_daysN_s n.toNat a1
  exact ⟨b1, a2.tr' b2⟩
theorem dsX_law : ∀ r j, mlawX r j = true → dsX r j = false := fun r j h => by revert h; simp [mlawX, dsX, enX, hvX, mftX]; omega
theorem tr_mv {t t1 : hy_T} (h : hy_F mvX t t1) (hk : tr_ok t) : tr_ok t1 := tr_ok_F h (fun r j q => by revert q; simp [stX, mvX]; omega) hk
