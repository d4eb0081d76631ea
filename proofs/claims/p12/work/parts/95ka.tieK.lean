/-! the full relation: treaties, days, gain -/
theorem wf_make_F (b : Nat) (t : hy_T) (k : Int) : hy_F (mkX b) t (wf_make b t k) := by
  unfold wf_make
  split
  · intro r j hX
    simp only [mkX, Bool.or_eq_false_iff, Bool.and_eq_false_iff, beq_eq_false_iff_ne] at hX
    unfold sp_made
    rw [show ∀ (T : hy_T) (v : Int), hy_up T b 3 v r j = T r j from fun T v => by simp only [hy_up]; rw [if_neg (by omega)]]
    unfold sp_lay
    rw [hy_up_ne (by omega), hy_up_ne (by omega), hy_up_ne (by omega), hy_up_ne (by omega), hy_up_ne (by omega), hy_up_ne (by omega)]
    exact sp_moveN_F b t _ _ _ _ 4 r j (by simp only [beq_eq_false_iff_ne]; omega)
  · exact hy_F.rf
theorem mk_make_62 {u : hy_T} {k : Nat} (hw : ml_row u k) (hh : fh u) (hm : mk_can u k = true) : ∀ j : Nat, j < 48 → (0 ≤ mk_make u k 62 j ∧ mk_make u k 62 j ≤ 63) ∧ (mf_plain u ((j / 4 : Nat) : Int) = false → mk_make u k 62 j = 0) := fun j hj => by
  obtain ⟨w1, w2, w3, w4, w5⟩ := hw
  have hp : mf_plain u (u 80 k) = true := by
    unfold mk_can at hm
    rw [Bool.and_eq_true, Bool.and_eq_true] at hm
    exact hm.1.1
  have e : mk_make u k 62 j = mk_c2 u k 62 j := by
    unfold mk_make
    rw [if_pos hm]
    unfold mk_lay
    rw [hy_up_ne (by decide), hy_up_ne (by decide), hy_up_ne (by decide), hy_up_ne (by decide), hy_up_ne (by decide), hy_up_ne (by decide), hy_up_ne (by decide)]
  have c62 : mk_c1 u k 62 j = if fs_in (u 80 k) (u 81 k) 4 j then hz_ior (u 62 j) (hz_ishl 1 (u 83 k)) else u 62 j := by
    unfold mk_c1
    rw [ch_v u w1 4 j, if_neg (show ¬ (1 : Int) = 0 by decide)]
  rw [e]
  unfold mk_c2
  have c80 : mk_c1 u k 80 k = u 80 k := by unfold mk_c1; rw [ch_r _ _ _ _ _ 4 80 k (by decide)]
  have c81 : mk_c1 u k 81 k = u 81 k := by unfold mk_c1; rw [ch_r _ _ _ _ _ 4 81 k (by decide)]
  have hv := hh j hj
  have hne : fs_in (u 80 k) (u 81 k) 4 j → mf_plain u ((j / 4 : Nat) : Int) = false → False := fun hf q => by
    rw [show ((j / 4 : Nat) : Int) = u 80 k by have := hf.1; omega, hp] at q
    cases q
  by_cases h84 : mk_c1 u k 84 k = 0
  · rw [if_pos h84, c80, c81, ch_v (mk_c1 u k) w1 4 j, c62]
    by_cases hf : fs_in (u 80 k) (u 81 k) 4 j
    · rw [if_pos hf, if_pos rfl, if_pos hf]
      exact ⟨hv_and (hv_or' hv.1 w4), fun q => (hne hf q).elim⟩
    · rw [if_neg hf, if_neg hf]
      exact hv
  · rw [if_neg h84, c62]
    by_cases hf : fs_in (u 80 k) (u 81 k) 4 j
    · rw [if_pos hf]
      exact ⟨hv_or' hv.1 w4, fun q => (hne hf q).elim⟩
    · rw [if_neg hf]
      exact hv
theorem mk_make_pal {u : hy_T} {k : Nat} (hw : ml_row u k) (ht : tr_ok u) (c : Int) : mf_plain (mk_make u k) c = mf_plain u c :=
  mf_plain_F ((mk_make_s hw ht).1 59 0 rfl) (fun j => (mk_make_s hw ht).1 60 j rfl) c
theorem mk_make_h {u : hy_T} {k : Nat} (hw : ml_row u k) (ht : tr_ok u) (hh : fh u) : fh (mk_make u k) := by
  by_cases hm : mk_can u k = true
  · intro j hj
    rw [mk_make_pal hw ht]
    exact mk_make_62 hw hh hm j hj
  · have e : mk_make u k = u := by unfold mk_make; rw [if_neg hm]
    rw [e]
    exact hh
theorem mk_make_t {u : hy_T} {k : Nat} (hw : ml_row u k) (ht : tr_ok u) (hf : ft u) : ft (mk_make u k) := by
  by_cases hm : mk_can u k = true
  · intro i hi
    rw [mk_make_pal hw ht]
    have hp : mf_plain u (u 80 k) = true := by
      unfold mk_can at hm
      rw [Bool.and_eq_true, Bool.and_eq_true] at hm
      exact hm.1.1
    have cr : ∀ r j, r ≠ 62 → mk_c2 u k r j = u r j := fun r j hr => by
      unfold mk_c2
      split
      · rw [ch_r _ _ _ _ _ 4 r j hr]
        unfold mk_c1
        rw [ch_r _ _ _ _ _ 4 r j hr]
      · unfold mk_c1
        rw [ch_r _ _ _ _ _ 4 r j hr]
    have e : mk_make u k = mk_lay (mk_c2 u k) k := by unfold mk_make; rw [if_pos hm]
    have e34 : mk_make u k 59 34 = u 59 34 + 1 := by
      rw [e]
      unfold mk_lay
      rw [cr 59 34 (by decide)]
      simp [hy_up]
    have e85 : mk_make u k 85 i = if i = (u 59 34).toNat then u 80 k else u 85 i := by
      rw [e]
      unfold mk_lay
      rw [hy_up_ne (by decide), hy_up_ne (by decide), hy_up_ne (by decide), hy_up_ne (by decide), hy_up_ne (by decide), hy_up_ne (by decide)]
      simp only [hy_up, true_and]
      rw [cr 59 34 (by decide), cr 80 k (by decide), cr 85 i (by decide)]
    rw [e85]
    split
    · exact hp
    · exact hf i (by omega)
  · have e : mk_make u k = u := by unfold mk_make; rw [if_neg hm]
    rw [e]
    exact hf
/-- lines that are made, one behind the other, in the class -/
def wf_mdN (t : hy_T) : Nat → Int × hy_T
  | 0 => (0, t)
  | k + 1 => if wf_can 33 (wf_mdN t k).2 k = true then ((wf_mdN t k).1 + 1, wf_make 33 (wf_mdN t k).2 k) else wf_mdN t k
def wf_jdN : Nat → Nat → hy_T → Nat × hy_T
  | 0, k, t => (k, t)
  | m + 1, k, t => if wf_can 41 t k = true then wf_jdN m (k + 1) (wf_make 41 t k) else (k, t)
theorem tz_r_F {XW XM : Nat → Nat → Bool} {t u t1 u1 : hy_T} {i : Nat} (h : tz_r t u i) (F : hy_F XW t t1) (G : hy_F XM u u1) (a : ∀ r j, 28 ≤ r → r ≤ 32 → XW r j = false) (b : ∀ r j, 80 ≤ r → r ≤ 84 → XM r j = false) : tz_r t1 u1 i := by
  unfold tz_r
  rw [F 28 i (a 28 i (by decide) (by decide)), F 29 i (a 29 i (by decide) (by decide)), F 30 i (a 30 i (by decide) (by decide)), F 31 i (a 31 i (by decide) (by decide)), F 32 i (a 32 i (by decide) (by decide)), G 80 i (b 80 i (by decide) (by decide)), G 81 i (b 81 i (by decide) (by decide)), G 82 i (b 82 i (by decide) (by decide)), G 83 i (b 83 i (by decide) (by decide)), G 84 i (b 84 i (by decide) (by decide))]
  exact h
theorem stX_80 : ∀ r j, 80 ≤ r → r ≤ 84 → stX r j = false := fun r j h1 h2 => by simp only [Bool.or_eq_true, Bool.and_eq_true, decide_eq_true_eq, decide_eq_false_iff_not, beq_iff_eq, Bool.or_eq_false_iff, Bool.and_eq_false_iff, beq_eq_false_iff_ne, stX]; omega
theorem mkX_28 {b : Nat} (hb : b = 33 ∨ b = 41) : ∀ r j, 28 ≤ r → r ≤ 32 → mkX b r j = false := fun r j h1 h2 => by simp only [Bool.or_eq_true, Bool.and_eq_true, decide_eq_true_eq, decide_eq_false_iff_not, beq_iff_eq, Bool.or_eq_false_iff, Bool.and_eq_false_iff, beq_eq_false_iff_ne, mkX]; omega
theorem fm_mdN {t u : hy_T} {cnt : Nat} (h : fs_S 33 t u) (hr : ∀ i, i < cnt → tz_r t u i) (h27 : t 27 6 = cnt) (h33 : u 59 33 = cnt) (hp : ∀ c, wf_plain t c = mf_plain u c) (hg : ml_good u) (ht : tr_ok u) (hh : fh u) (hf : ft u) : ∀ n : Nat, n ≤ cnt →
    (wf_mdN t n).1 = (mk_madeN u n).1 ∧ fs_S 33 (wf_mdN t n).2 (mk_madeN u n).2 ∧ hy_F (mkX 33) t (wf_mdN t n).2 ∧ fh (mk_madeN u n).2 ∧ ft (mk_madeN u n).2
  | 0, _ => ⟨rfl, h, hy_F.rf, hh, hf⟩
  | n + 1, hn => by
    obtain ⟨a1, a2, a3, a4, a5⟩ := fm_mdN h hr h27 h33 hp hg ht hh hf n (by omega)
    obtain ⟨b1, b2, b3, b4⟩ := mk_madeN_s hg ht n (by omega)
    have row : ml_row (mk_madeN u n).2 n := b3.2 n (by rw [b1 59 33 rfl, h33]; omega)
    have rr := tz_r_F (hr n (by omega)) a3 b1 (mkX_28 (.inl rfl)) stX_80
    have hk : (n : Int) < (wf_mdN t n).2 27 6 := by rw [a3 27 6 rfl, h27]; omega
    have hp2 : ∀ c, wf_plain (wf_mdN t n).2 c = mf_plain (mk_madeN u n).2 c := fun c => by
      rw [mf_plain_F (b1 59 0 rfl) (fun j => b1 60 j rfl), ← hp c]
      unfold wf_plain
      rw [a3 5 2 rfl, a3 5 3 rfl]
    have ec := fs_can a2 rr hk hp2 row
    have em := fs_make (.inl rfl) a2 rr hk hp2 row
    have F := wf_make_F 33 (wf_mdN t n).2 n
    simp only [wf_mdN, mk_madeN]
    rw [ec]
    by_cases hc : mk_can (mk_madeN u n).2 n = true
    · rw [if_pos hc, if_pos hc]
      exact ⟨by rw [a1], em, a3.tr' F, mk_make_h row b2 a4, mk_make_t row b2 a5⟩
    · rw [if_neg hc, if_neg hc]
      exact ⟨a1, a2, a3, a4, a5⟩
theorem fj_jdN {cnt : Nat} : ∀ (m k : Nat) {t u : hy_T}, fs_S 41 t u → (∀ i, i < cnt → tz_r t u i) → t 27 6 = cnt → u 59 33 = cnt → (∀ c, wf_plain t c = mf_plain u c) → ml_good u → tr_ok u → k + m = cnt → (wf_jdN m k t).1 = (mk_jdN u m k).1
  | 0, k, t, u, h, hr, h27, h33, hp, hg, ht, hm => rfl
  | m + 1, k, t, u, h, hr, h27, h33, hp, hg, ht, hm => by
    have row : ml_row u k := hg.2 k (by omega)
    have hk : (k : Int) < t 27 6 := by omega
    have ec := fs_can h (hr k (by omega)) hk hp row
    have em := fs_make (.inr rfl) h (hr k (by omega)) hk hp row
    have F := wf_make_F 41 t k
    obtain ⟨G, g2⟩ := mk_make_s row ht
    simp only [wf_jdN, mk_jdN]
    rw [ec]
    by_cases hc : mk_can u k = true
    · rw [if_pos hc, if_pos hc]
      refine fj_jdN m (k + 1) em (fun i hi => tz_r_F (hr i hi) F G (mkX_28 (.inr rfl)) stX_80) ((F 27 6 rfl).trans h27) ((G 59 33 rfl).trans h33) (fun c => ?_) ⟨by rw [G 59 33 rfl]; exact hg.1, fun i hi => ?_⟩ g2 (by omega)
      · rw [mf_plain_F (G 59 0 rfl) (fun j => G 60 j rfl), ← hp c]
        unfold wf_plain
        rw [F 5 2 rfl, F 5 3 rfl]
      · rw [G 59 33 rfl] at hi
        have q := hg.2 i hi
        unfold ml_row at q ⊢
        rw [G 80 i (stX_80 80 i (by decide) (by decide)), G 81 i (stX_80 81 i (by decide) (by decide)), G 82 i (stX_80 82 i (by decide) (by decide)), G 83 i (stX_80 83 i (by decide) (by decide)), G 84 i (stX_80 84 i (by decide) (by decide))]
        exact q
    · rw [if_neg hc, if_neg hc]
/-- what treaties() answers and leaves, what judged() answers -/
def wf_tr (t : hy_T) (n : Int) : Int × hy_T := if 1 ≤ n ∧ n ≤ 120 ∧ n ≤ t 3 1 then (if rd_lines t n 3 4 = 0 then wf_mdN (hy_up (rd_lines t n) 3 1 0) (rd_lines t n 27 6).toNat else (rd_lines t n 3 4, hy_up (rd_lines t n) 3 1 0)) else (-1, t)
def wf_jd (t : hy_T) (n : Int) : Int := if 1 ≤ n ∧ n ≤ 120 ∧ n ≤ t 3 1 then (if rd_lines t n 3 4 = 0 then ((wf_jdN (rd_lines t n 27 6).toNat 0 (sp_scopy (hy_up (rd_lines t n) 3 1 0) 33 41)).1 : Int) else rd_lines t n 3 4) else -1
theorem fr_treaties {t t1 t2 : hy_T} {n : Int} {r1 r2 : Option Int} (k : cK t) (k1 : mK t1) (h : fr t) (F : hy_F (tyX 33) t t1) (F2 : hy_F trsX t1 t2) (c : t1 3 1 = if 1 ≤ n ∧ n ≤ 120 ∧ n ≤ t 3 1 then 0 else t 3 1) (d : t2 59 9 = if ml_ntc t1 n then 0 else t1 59 9) (q1 : r1 = some (wf_tr t n).1 ∧ t1 = (wf_tr t n).2) (q2 : r2 = some (if ml_ntc t1 n then (if (ml_lines t1 n).1 = true then (mk_madeN (ml_lines t1 n).2 ((ml_lines t1 n).2 59 33).toNat).1 else (ml_lines t1 n).2 59 12) else -1) ∧ t2 = if ml_ntc t1 n then (if (ml_lines t1 n).1 = true then (mk_madeN (ml_lines t1 n).2 ((ml_lines t1 n).2 59 33).toNat).2 else (ml_lines t1 n).2) else t1) : r2 = r1 ∧ fr t2 := by
  have x9 : t1 59 9 = t 59 9 := F 59 9 rfl
  have h0 : t 3 1 = t 59 9 := h.1.1.1
  have fin : fr_n t2 → fr t2 := fun hn => ⟨⟨fr_len h.1.1 F F2 (fun _ => rfl) (fun _ => rfl) (fun _ => rfl) (fun _ => rfl) (p5_lines (t := t) h.1.1.1 F F2 rfl rfl c d), (fr_p_F h.1.2 (ff F F2 (Y := fr_pY) (fun r j q => by revert q; simp only [fr_tY, fr_pY, fr_gY, fl_Y, fr_nY, fr_kY, fsC, fsM, lawX, eX, lX, pX, fX, snX, brX, wyX, paX, trX, asX, gdX, lnX, lkX, lpX, lwcX, tyX, jyX, mkX, dzX, cpX, taX, glX, t1X, spX, dgX, kpX, mlawX, mvX, meX, mlX, mfaX, stX, hvX, pwX, btX, sgX, mlsX, jdX, tdX, dsX, enX, mftX, ldrX, wmX, maX, lwX, lrX, mrX, feX, ngX, trsX, dysX, gnX, t9X, spmX, kpmX, udX, Bool.or_eq_true, Bool.and_eq_true, decide_eq_true_eq, decide_eq_false_iff_not, beq_iff_eq, Bool.or_eq_false_iff, Bool.and_eq_false_iff, beq_eq_false_iff_ne]; omega) (fun r j q => by revert q; simp only [fr_tY, fr_pY, fr_gY, fl_Y, fr_nY, fr_kY, fsC, fsM, lawX, eX, lX, pX, fX, snX, brX, wyX, paX, trX, asX, gdX, lnX, lkX, lpX, lwcX, tyX, jyX, mkX, dzX, cpX, taX, glX, t1X, spX, dgX, kpX, mlawX, mvX, meX, mlX, mfaX, stX, hvX, pwX, btX, sgX, mlsX, jdX, tdX, dsX, enX, mftX, ldrX, wmX, maX, lwX, lrX, mrX, feX, ngX, trsX, dysX, gnX, t9X, spmX, kpmX, udX, Bool.or_eq_true, Bool.and_eq_true, decide_eq_true_eq, decide_eq_false_iff_not, beq_iff_eq, Bool.or_eq_false_iff, Bool.and_eq_false_iff, beq_eq_false_iff_ne]; omega)))⟩, ⟨(fr_g_F h.2.1.1 (ff F F2 (Y := fr_gY) (fun r j q => by revert q; simp only [fr_tY, fr_pY, fr_gY, fl_Y, fr_nY, fr_kY, fsC, fsM, lawX, eX, lX, pX, fX, snX, brX, wyX, paX, trX, asX, gdX, lnX, lkX, lpX, lwcX, tyX, jyX, mkX, dzX, cpX, taX, glX, t1X, spX, dgX, kpX, mlawX, mvX, meX, mlX, mfaX, stX, hvX, pwX, btX, sgX, mlsX, jdX, tdX, dsX, enX, mftX, ldrX, wmX, maX, lwX, lrX, mrX, feX, ngX, trsX, dysX, gnX, t9X, spmX, kpmX, udX, Bool.or_eq_true, Bool.and_eq_true, decide_eq_true_eq, decide_eq_false_iff_not, beq_iff_eq, Bool.or_eq_false_iff, Bool.and_eq_false_iff, beq_eq_false_iff_ne]; omega) (fun r j q => by revert q; simp only [fr_tY, fr_pY, fr_gY, fl_Y, fr_nY, fr_kY, fsC, fsM, lawX, eX, lX, pX, fX, snX, brX, wyX, paX, trX, asX, gdX, lnX, lkX, lpX, lwcX, tyX, jyX, mkX, dzX, cpX, taX, glX, t1X, spX, dgX, kpX, mlawX, mvX, meX, mlX, mfaX, stX, hvX, pwX, btX, sgX, mlsX, jdX, tdX, dsX, enX, mftX, ldrX, wmX, maX, lwX, lrX, mrX, feX, ngX, trsX, dysX, gnX, t9X, spmX, kpmX, udX, Bool.or_eq_true, Bool.and_eq_true, decide_eq_true_eq, decide_eq_false_iff_not, beq_iff_eq, Bool.or_eq_false_iff, Bool.and_eq_false_iff, beq_eq_false_iff_ne]; omega))), (fl_law_F h.2.1.2 (ff F F2 (Y := fl_Y) (fun r j q => by revert q; simp only [fr_tY, fr_pY, fr_gY, fl_Y, fr_nY, fr_kY, fsC, fsM, lawX, eX, lX, pX, fX, snX, brX, wyX, paX, trX, asX, gdX, lnX, lkX, lpX, lwcX, tyX, jyX, mkX, dzX, cpX, taX, glX, t1X, spX, dgX, kpX, mlawX, mvX, meX, mlX, mfaX, stX, hvX, pwX, btX, sgX, mlsX, jdX, tdX, dsX, enX, mftX, ldrX, wmX, maX, lwX, lrX, mrX, feX, ngX, trsX, dysX, gnX, t9X, spmX, kpmX, udX, Bool.or_eq_true, Bool.and_eq_true, decide_eq_true_eq, decide_eq_false_iff_not, beq_iff_eq, Bool.or_eq_false_iff, Bool.and_eq_false_iff, beq_eq_false_iff_ne]; omega) (fun r j q => by revert q; simp only [fr_tY, fr_pY, fr_gY, fl_Y, fr_nY, fr_kY, fsC, fsM, lawX, eX, lX, pX, fX, snX, brX, wyX, paX, trX, asX, gdX, lnX, lkX, lpX, lwcX, tyX, jyX, mkX, dzX, cpX, taX, glX, t1X, spX, dgX, kpX, mlawX, mvX, meX, mlX, mfaX, stX, hvX, pwX, btX, sgX, mlsX, jdX, tdX, dsX, enX, mftX, ldrX, wmX, maX, lwX, lrX, mrX, feX, ngX, trsX, dysX, gnX, t9X, spmX, kpmX, udX, Bool.or_eq_true, Bool.and_eq_true, decide_eq_true_eq, decide_eq_false_iff_not, beq_iff_eq, Bool.or_eq_false_iff, Bool.and_eq_false_iff, beq_eq_false_iff_ne]; omega)))⟩, hn, (fr_k_F h.2.2.2 (ff F F2 (Y := fr_kY) (fun r j q => by revert q; simp only [fr_tY, fr_pY, fr_gY, fl_Y, fr_nY, fr_kY, fsC, fsM, lawX, eX, lX, pX, fX, snX, brX, wyX, paX, trX, asX, gdX, lnX, lkX, lpX, lwcX, tyX, jyX, mkX, dzX, cpX, taX, glX, t1X, spX, dgX, kpX, mlawX, mvX, meX, mlX, mfaX, stX, hvX, pwX, btX, sgX, mlsX, jdX, tdX, dsX, enX, mftX, ldrX, wmX, maX, lwX, lrX, mrX, feX, ngX, trsX, dysX, gnX, t9X, spmX, kpmX, udX, Bool.or_eq_true, Bool.and_eq_true, decide_eq_true_eq, decide_eq_false_iff_not, beq_iff_eq, Bool.or_eq_false_iff, Bool.and_eq_false_iff, beq_eq_false_iff_ne]; omega) (fun r j q => by revert q; simp only [fr_tY, fr_pY, fr_gY, fl_Y, fr_nY, fr_kY, fsC, fsM, lawX, eX, lX, pX, fX, snX, brX, wyX, paX, trX, asX, gdX, lnX, lkX, lpX, lwcX, tyX, jyX, mkX, dzX, cpX, taX, glX, t1X, spX, dgX, kpX, mlawX, mvX, meX, mlX, mfaX, stX, hvX, pwX, btX, sgX, mlsX, jdX, tdX, dsX, enX, mftX, ldrX, wmX, maX, lwX, lrX, mrX, feX, ngX, trsX, dysX, gnX, t9X, spmX, kpmX, udX, Bool.or_eq_true, Bool.and_eq_true, decide_eq_true_eq, decide_eq_false_iff_not, beq_iff_eq, Bool.or_eq_false_iff, Bool.and_eq_false_iff, beq_eq_false_iff_ne]; omega)))⟩
  have own : ∀ j : Nat, j < 64 → t2 35 j = t2 64 j := fun j hj => by
    rw [F2 35 j rfl, F2 64 j rfl, F 35 j rfl, F 64 j rfl]
    exact h.2.2.1.2.2 j hj
  by_cases hn : 1 ≤ n ∧ n ≤ 120 ∧ n ≤ t 3 1
  · have hn2 : ml_ntc t1 n := ⟨⟨hn.1, hn.2.1⟩, by omega⟩
    rw [if_pos hn2, if_pos hn2] at q2
    obtain ⟨a1, a2, a3, a4⟩ := rd_lines_s k.tp n
    obtain ⟨g1, g2⟩ := ml_lines_s t1 (n := n) (by omega)
    have base : fs_S 33 (hy_up (rd_lines t n) 3 1 0) (ml_lines t1 n).2 := fs_S_of h.2.2.1.1 (fun r j q => by
      have hr : r ≠ 3 := by revert q; simp only [fsC, Bool.or_eq_true, Bool.and_eq_true, decide_eq_true_eq, decide_eq_false_iff_not, beq_iff_eq, Bool.or_eq_false_iff, Bool.and_eq_false_iff, beq_eq_false_iff_ne]; omega
      rw [hy_up_ne (by omega)]
      exact a2 r j (by revert q; simp only [fsC, lnX, Bool.or_eq_true, Bool.and_eq_true, decide_eq_true_eq, decide_eq_false_iff_not, beq_iff_eq, Bool.or_eq_false_iff, Bool.and_eq_false_iff, beq_eq_false_iff_ne]; omega)) (fun r j q => (g2 r j (by revert q; simp only [fsM, mlsX, Bool.or_eq_true, Bool.and_eq_true, decide_eq_true_eq, decide_eq_false_iff_not, beq_iff_eq, Bool.or_eq_false_iff, Bool.and_eq_false_iff, beq_eq_false_iff_ne]; omega)).trans (F r j (by revert q; simp only [fsM, tyX, lnX, mkX, Bool.or_eq_true, Bool.and_eq_true, decide_eq_true_eq, decide_eq_false_iff_not, beq_iff_eq, Bool.or_eq_false_iff, Bool.and_eq_false_iff, beq_eq_false_iff_ne]; omega)))
    have pal : ∀ x, mf_plain (ml_lines t1 n).2 x = mf_plain t x := fun x => mf_plain_F ((g2 59 0 rfl).trans (F 59 0 rfl)) (fun j => (g2 60 j rfl).trans (F 60 j rfl)) x
    have e62 : ∀ j, (ml_lines t1 n).2 62 j = t 62 j := fun j => (g2 62 j rfl).trans (F 62 j rfl)
    have bh : fh (ml_lines t1 n).2 := fun j hj => by
      rw [pal, e62]
      exact h.2.2.1.2.1.1 j hj
    have bt : ft (ml_lines t1 n).2 := fun i hi => by
      rw [pal, show (ml_lines t1 n).2 85 i = t 85 i from (g2 85 i rfl).trans (F 85 i rfl)]
      rw [show (ml_lines t1 n).2 59 34 = t 59 34 from (g2 59 34 rfl).trans (F 59 34 rfl)] at hi
      exact h.2.2.1.2.1.2 i hi
    have T := tz_lines (t := t) (u := t1) (n := n) (by omega) k.tp.l.2 (fun j hj => by rw [F 65 j rfl]; exact h.1.1.2 j hj) hn
    rcases T with ⟨d1, d2, d3⟩ | ⟨c1, c2, cnt, c3, ⟨c4, c5⟩, c6⟩
    · have ew : wf_tr t n = (rd_lines t n 3 4, hy_up (rd_lines t n) 3 1 0) := by unfold wf_tr; rw [if_pos hn, if_neg d1]
      rw [ew] at q1
      rw [d2, if_neg Bool.false_ne_true, if_neg Bool.false_ne_true] at q2
      refine ⟨by rw [q1.1, q2.1, d3], fin ⟨fs_S_of base (fun r j q => ?_) (fun r j q => by rw [q2.2]), ⟨by rw [q2.2]; exact bh, by rw [q2.2]; exact bt⟩, own⟩⟩
      rw [F2 r j (by revert q; simp only [fsC, trsX, mlsX, stX, Bool.or_eq_true, Bool.and_eq_true, decide_eq_true_eq, decide_eq_false_iff_not, beq_iff_eq, Bool.or_eq_false_iff, Bool.and_eq_false_iff, beq_eq_false_iff_ne]; omega), q1.2]
    · have ew : wf_tr t n = wf_mdN (hy_up (rd_lines t n) 3 1 0) cnt := by unfold wf_tr; rw [if_pos hn, if_pos c1, c4, Int.toNat_natCast]
      rw [ew] at q1
      rw [c2, if_pos rfl, if_pos rfl, c5, Int.toNat_natCast] at q2
      have hp : ∀ x, wf_plain (hy_up (rd_lines t n) 3 1 0) x = mf_plain (ml_lines t1 n).2 x := fun x => by
        rw [pal, ← p3_plain h.1.2.1 x]
        unfold wf_plain
        rw [hy_up_ne (by decide), hy_up_ne (by decide), a2 5 2 rfl, a2 5 3 rfl]
      have htr : tr_ok (ml_lines t1 n).2 := tr_ok_F g2 (fun r j q => by revert q; simp only [stX, mlsX, Bool.or_eq_true, Bool.and_eq_true, decide_eq_true_eq, decide_eq_false_iff_not, beq_iff_eq, Bool.or_eq_false_iff, Bool.and_eq_false_iff, beq_eq_false_iff_ne]; omega) k1.tr
      obtain ⟨m1, m2, m3, m4, m5⟩ := fm_mdN (cnt := cnt) base (fun i hi => c6 i hi) c4 c5 hp g1 htr bh bt cnt (Nat.le_refl _)
      refine ⟨by rw [q1.1, q2.1, m1], fin ⟨fs_S_of m2 (fun r j q => ?_) (fun r j q => by rw [q2.2]), ⟨by rw [q2.2]; exact m4, by rw [q2.2]; exact m5⟩, own⟩⟩
      rw [F2 r j (by revert q; simp only [fsC, trsX, mlsX, stX, Bool.or_eq_true, Bool.and_eq_true, decide_eq_true_eq, decide_eq_false_iff_not, beq_iff_eq, Bool.or_eq_false_iff, Bool.and_eq_false_iff, beq_eq_false_iff_ne]; omega), q1.2]
  · have hn2 : ¬ ml_ntc t1 n := fun q => hn ⟨q.1.1, q.1.2, by have := q.2; omega⟩
    have ew : wf_tr t n = (-1, t) := by unfold wf_tr; rw [if_neg hn]
    rw [ew] at q1
    rw [if_neg hn2, if_neg hn2] at q2
    refine ⟨by rw [q1.1, q2.1], ?_⟩
    rw [q2.2, q1.2]
    exact h
theorem fs_begins (t : hy_T) {T : hy_T} (h : fs_S 33 T t) : fs_S 41 (sp_scopy T 33 41) (mf_begins t) := by
  obtain ⟨⟨⟨s1, s2, s3⟩, s4, s5⟩, s6, s7⟩ := h
  have F := (begins_as t).2
  have c3 : sp_scopy T 33 41 41 3 = T 33 3 := rfl
  refine ⟨⟨⟨by rw [c3, F 59 34 rfl]; exact s1, by rw [c3]; exact s2, by rw [c3]; exact s3⟩, by rw [F 59 2 rfl]; exact s4, by rw [F 59 1 rfl]; exact s5⟩, fun j hj => ?_, fun i w hi hw => ?_⟩
  · rw [F 62 j rfl, ← s6 j hj]
    simp [sp_scopy, hy_up, hy_cp, hj]
  · rw [c3] at hi
    have hw6 : w = 0 ∨ w = 1 ∨ w = 2 ∨ w = 3 ∨ w = 4 ∨ w = 5 := by omega
    rw [F (85 + w) i (by rcases hw6 with rfl | rfl | rfl | rfl | rfl | rfl <;> rfl), ← s7 i w hi hw]
    have : 6 * i + w < 96 := by omega
    simp [sp_scopy, hy_up, hy_cp, this]
theorem fr_jdA {t t1 : hy_T} {n : Int} {r1 r2 : Option Int} (k : cK t) (k1 : mK t1) (h : fr t) (F : hy_F jyX t t1) (q1 : r1 = some (wf_jd t n)) (q2 : r2 = some (if ml_ntc t1 n then (if (ml_lines t1 n).1 = true then ((mk_jd (ml_lines t1 n).2).1 : Int) else (ml_lines t1 n).2 59 12) else -1)) : r2 = r1 := by
  have x9 : t1 59 9 = t 59 9 := F 59 9 rfl
  have h0 : t 3 1 = t 59 9 := h.1.1.1
  rw [q1, q2]
  unfold wf_jd
  by_cases hn : 1 ≤ n ∧ n ≤ 120 ∧ n ≤ t 3 1
  · have hn2 : ml_ntc t1 n := ⟨⟨hn.1, hn.2.1⟩, by omega⟩
    rw [if_pos hn2, if_pos hn]
    obtain ⟨a1, a2, a3, a4⟩ := rd_lines_s k.tp n
    obtain ⟨g1, g2⟩ := ml_lines_s t1 (n := n) (by omega)
    have base : fs_S 33 (hy_up (rd_lines t n) 3 1 0) (ml_lines t1 n).2 := fs_S_of h.2.2.1.1 (fun r j q => by
      have hr : r ≠ 3 := by revert q; simp only [fsC, Bool.or_eq_true, Bool.and_eq_true, decide_eq_true_eq, decide_eq_false_iff_not, beq_iff_eq, Bool.or_eq_false_iff, Bool.and_eq_false_iff, beq_eq_false_iff_ne]; omega
      rw [hy_up_ne (by omega)]
      exact a2 r j (by revert q; simp only [fsC, lnX, Bool.or_eq_true, Bool.and_eq_true, decide_eq_true_eq, decide_eq_false_iff_not, beq_iff_eq, Bool.or_eq_false_iff, Bool.and_eq_false_iff, beq_eq_false_iff_ne]; omega)) (fun r j q => (g2 r j (by revert q; simp only [fsM, mlsX, Bool.or_eq_true, Bool.and_eq_true, decide_eq_true_eq, decide_eq_false_iff_not, beq_iff_eq, Bool.or_eq_false_iff, Bool.and_eq_false_iff, beq_eq_false_iff_ne]; omega)).trans (F r j (by revert q; simp only [fsM, jyX, trX, lnX, mkX, Bool.or_eq_true, Bool.and_eq_true, decide_eq_true_eq, decide_eq_false_iff_not, beq_iff_eq, Bool.or_eq_false_iff, Bool.and_eq_false_iff, beq_eq_false_iff_ne]; omega)))
    have T := tz_lines (t := t) (u := t1) (n := n) (by omega) k.tp.l.2 (fun j hj => by rw [F 65 j rfl]; exact h.1.1.2 j hj) hn
    rcases T with ⟨d1, d2, d3⟩ | ⟨c1, c2, cnt, c3, ⟨c4, c5⟩, c6⟩
    · rw [if_neg d1, d2, if_neg Bool.false_ne_true, d3]
    · rw [if_pos c1, c2, if_pos rfl, c4, Int.toNat_natCast]
      unfold mk_jd
      rw [c5, Int.toNat_natCast]
      have G := (begins_as (ml_lines t1 n).2).2
      have S := sp_scopy41_F (hy_up (rd_lines t n) 3 1 0)
      have htr : tr_ok (ml_lines t1 n).2 := tr_ok_F g2 (fun r j q => by revert q; simp only [stX, mlsX, Bool.or_eq_true, Bool.and_eq_true, decide_eq_true_eq, decide_eq_false_iff_not, beq_iff_eq, Bool.or_eq_false_iff, Bool.and_eq_false_iff, beq_eq_false_iff_ne]; omega) k1.tr
      have e := fj_jdN (cnt := cnt) cnt 0 (fs_begins (ml_lines t1 n).2 base) (fun i hi => tz_r_F (c6 i hi) (show hy_F (fun r j => trX r j || r == 3) (rd_lines t n) _ from ((hy_F.rf (X := fun r j => trX r j || r == 3)).up rfl).tr' (S.w (fun r j q => (Bool.or_eq_false_iff.mp q).1))) G (fun r j x1 x2 => by simp only [trX, Bool.or_eq_true, Bool.and_eq_true, decide_eq_true_eq, decide_eq_false_iff_not, beq_iff_eq, Bool.or_eq_false_iff, Bool.and_eq_false_iff, beq_eq_false_iff_ne]; omega) (fun r j x1 x2 => by simp only [mfaX, Bool.or_eq_true, Bool.and_eq_true, decide_eq_true_eq, decide_eq_false_iff_not, beq_iff_eq, Bool.or_eq_false_iff, Bool.and_eq_false_iff, beq_eq_false_iff_ne]; omega)) ((S 27 6 rfl).trans c4) ((G 59 33 rfl).trans c5) (fun x => ?_) ⟨by rw [G 59 33 rfl]; exact g1.1, fun i hi => ?_⟩ (tr_ok_F G (fun r j q => by revert q; simp only [stX, mfaX, Bool.or_eq_true, Bool.and_eq_true, decide_eq_true_eq, decide_eq_false_iff_not, beq_iff_eq, Bool.or_eq_false_iff, Bool.and_eq_false_iff, beq_eq_false_iff_ne]; omega) htr) (Nat.zero_add _)
      · rw [e]
      · rw [mf_plain_F ((G 59 0 rfl).trans ((g2 59 0 rfl).trans (F 59 0 rfl))) (fun j => (G 60 j rfl).trans ((g2 60 j rfl).trans (F 60 j rfl))), ← p3_plain h.1.2.1 x]
        unfold wf_plain
        rw [S 5 2 rfl, S 5 3 rfl, hy_up_ne (by decide), hy_up_ne (by decide), a2 5 2 rfl, a2 5 3 rfl]
      · rw [G 59 33 rfl] at hi
        have q := g1.2 i hi
        unfold ml_row at q ⊢
        rw [G 80 i rfl, G 81 i rfl, G 82 i rfl, G 83 i rfl, G 84 i rfl]
        exact q
  · have hn2 : ¬ ml_ntc t1 n := fun q => hn ⟨q.1.1, q.1.2, by have := q.2; omega⟩
    rw [if_neg hn2, if_neg hn]
/-! days -/
theorem fd_law {X : Nat → Nat → Bool} {t t1 : hy_T} (h : fl_law t) (m : mK t) (F : hy_F X t t1) (hX : ∀ r j, mlawX r j = true → X r j = false) : fd_L t t1 := fun V V' hV => by
  rw [mb_amt_F F hX]
  exact fl_amt h m.ml hV (.inl rfl) (by decide)
theorem md_sumT : ∀ (n : Nat) {t : hy_T} (i : Nat), md_ok t → md_turnN n t i 59 58 + md_turnN n t i 59 34 = t 59 58 + t 59 34
  | 0, t, i, h => rfl
  | n + 1, t, i, h => by
    obtain ⟨h1, h2, h3⟩ := id h
    obtain ⟨x1, x2⟩ := md_x_s h1
    have e58 : md_x t 59 58 = t 59 58 := by simp [md_x, hy_up]
    have e34 : md_x t 59 34 = t 59 34 := by simp [md_x, hy_up]
    have hx : md_ok (md_x t) := ⟨x1, by rw [e58]; exact h2, by rw [e58, e34]; exact h3⟩
    have hc := h1.1
    simp only [md_turnN]
    split
    · next hi =>
      split
      · obtain ⟨m1, m2, m3, m4⟩ := me_end_s x1 (i := i) (by rw [e34]; exact hi) ⟨by rw [e58]; exact h2, by rw [e58]; omega⟩
        rw [md_sumT n i ⟨m2, by omega, by omega⟩, m3, m4, e58, e34]
        omega
      · rw [md_sumT n (i + 1) hx, e58, e34]
    · rfl
theorem md_sumD : ∀ (n : Nat) {t : hy_T}, md_ok t → md_daysN n t 59 58 + md_daysN n t 59 34 = t 59 58 + t 59 34
  | 0, t, h => rfl
  | n + 1, t, h => by
    simp only [md_daysN]
    split
    · next hd =>
      rw [md_sumD n (md_day_s h hd).1]
      have e : ∀ j, j ≠ 2 → md_day t 59 j = md_turnN 17 t 0 59 j := fun j hj => by
        unfold md_day
        simp [hy_up, hj]
      rw [e 58 (by decide), e 34 (by decide)]
      exact md_sumT 17 0 h
    · rfl
theorem md_sum {t : hy_T} (ht : tr_ok t) (n : Int) : md_days t n 59 58 + md_days t n 59 34 = t 59 34 := by
  unfold md_days
  rw [md_sumD _ (md_t0_s ht).1]
  simp [md_t0, hy_up]
theorem fr_days {t t1 t2 : hy_T} {n : Int} {r1 r2 : Option Int} (k : cK t) (m : mK t) (h : fr t) (F : hy_F dgX t t1) (F2 : hy_F dysX t1 t2) (q1 : if 1 ≤ n ∧ n ≤ 99 then r1 = some (t 33 3 - sp_days 33 t n 33 3) ∧ hy_F eX (sp_days 33 t n) t1 else r1 = some (-1) ∧ t1 = t) (q2 : r2 = some (if 1 ≤ n ∧ n ≤ 99 then md_days t1 n 59 58 else -1) ∧ hy_F mvX (if 1 ≤ n ∧ n ≤ 99 then md_days t1 n else t1) t2) : r2 = r1 ∧ fr t2 := by
  obtain ⟨q2, q3⟩ := q2
  have fin : fr_n t2 → fr t2 := fun hn => ⟨⟨(fr_t_F h.1.1 (ff F F2 (Y := fr_tY) (fun r j q => by revert q; simp only [fr_tY, fr_pY, fr_gY, fl_Y, fr_nY, fr_kY, fsC, fsM, lawX, eX, lX, pX, fX, snX, brX, wyX, paX, trX, asX, gdX, lnX, lkX, lpX, lwcX, tyX, jyX, mkX, dzX, cpX, taX, glX, t1X, spX, dgX, kpX, mlawX, mvX, meX, mlX, mfaX, stX, hvX, pwX, btX, sgX, mlsX, jdX, tdX, dsX, enX, mftX, ldrX, wmX, maX, lwX, lrX, mrX, feX, ngX, trsX, dysX, gnX, t9X, spmX, kpmX, udX, Bool.or_eq_true, Bool.and_eq_true, decide_eq_true_eq, decide_eq_false_iff_not, beq_iff_eq, Bool.or_eq_false_iff, Bool.and_eq_false_iff, beq_eq_false_iff_ne]; omega) (fun r j q => by revert q; simp only [fr_tY, fr_pY, fr_gY, fl_Y, fr_nY, fr_kY, fsC, fsM, lawX, eX, lX, pX, fX, snX, brX, wyX, paX, trX, asX, gdX, lnX, lkX, lpX, lwcX, tyX, jyX, mkX, dzX, cpX, taX, glX, t1X, spX, dgX, kpX, mlawX, mvX, meX, mlX, mfaX, stX, hvX, pwX, btX, sgX, mlsX, jdX, tdX, dsX, enX, mftX, ldrX, wmX, maX, lwX, lrX, mrX, feX, ngX, trsX, dysX, gnX, t9X, spmX, kpmX, udX, Bool.or_eq_true, Bool.and_eq_true, decide_eq_true_eq, decide_eq_false_iff_not, beq_iff_eq, Bool.or_eq_false_iff, Bool.and_eq_false_iff, beq_eq_false_iff_ne]; omega))), (fr_p_F h.1.2 (ff F F2 (Y := fr_pY) (fun r j q => by revert q; simp only [fr_tY, fr_pY, fr_gY, fl_Y, fr_nY, fr_kY, fsC, fsM, lawX, eX, lX, pX, fX, snX, brX, wyX, paX, trX, asX, gdX, lnX, lkX, lpX, lwcX, tyX, jyX, mkX, dzX, cpX, taX, glX, t1X, spX, dgX, kpX, mlawX, mvX, meX, mlX, mfaX, stX, hvX, pwX, btX, sgX, mlsX, jdX, tdX, dsX, enX, mftX, ldrX, wmX, maX, lwX, lrX, mrX, feX, ngX, trsX, dysX, gnX, t9X, spmX, kpmX, udX, Bool.or_eq_true, Bool.and_eq_true, decide_eq_true_eq, decide_eq_false_iff_not, beq_iff_eq, Bool.or_eq_false_iff, Bool.and_eq_false_iff, beq_eq_false_iff_ne]; omega) (fun r j q => by revert q; simp only [fr_tY, fr_pY, fr_gY, fl_Y, fr_nY, fr_kY, fsC, fsM, lawX, eX, lX, pX, fX, snX, brX, wyX, paX, trX, asX, gdX, lnX, lkX, lpX, lwcX, tyX, jyX, mkX, dzX, cpX, taX, glX, t1X, spX, dgX, kpX, mlawX, mvX, meX, mlX, mfaX, stX, hvX, pwX, btX, sgX, mlsX, jdX, tdX, dsX, enX, mftX, ldrX, wmX, maX, lwX, lrX, mrX, feX, ngX, trsX, dysX, gnX, t9X, spmX, kpmX, udX, Bool.or_eq_true, Bool.and_eq_true, decide_eq_true_eq, decide_eq_false_iff_not, beq_iff_eq, Bool.or_eq_false_iff, Bool.and_eq_false_iff, beq_eq_false_iff_ne]; omega)))⟩, ⟨(fr_g_F h.2.1.1 (ff F F2 (Y := fr_gY) (fun r j q => by revert q; simp only [fr_tY, fr_pY, fr_gY, fl_Y, fr_nY, fr_kY, fsC, fsM, lawX, eX, lX, pX, fX, snX, brX, wyX, paX, trX, asX, gdX, lnX, lkX, lpX, lwcX, tyX, jyX, mkX, dzX, cpX, taX, glX, t1X, spX, dgX, kpX, mlawX, mvX, meX, mlX, mfaX, stX, hvX, pwX, btX, sgX, mlsX, jdX, tdX, dsX, enX, mftX, ldrX, wmX, maX, lwX, lrX, mrX, feX, ngX, trsX, dysX, gnX, t9X, spmX, kpmX, udX, Bool.or_eq_true, Bool.and_eq_true, decide_eq_true_eq, decide_eq_false_iff_not, beq_iff_eq, Bool.or_eq_false_iff, Bool.and_eq_false_iff, beq_eq_false_iff_ne]; omega) (fun r j q => by revert q; simp only [fr_tY, fr_pY, fr_gY, fl_Y, fr_nY, fr_kY, fsC, fsM, lawX, eX, lX, pX, fX, snX, brX, wyX, paX, trX, asX, gdX, lnX, lkX, lpX, lwcX, tyX, jyX, mkX, dzX, cpX, taX, glX, t1X, spX, dgX, kpX, mlawX, mvX, meX, mlX, mfaX, stX, hvX, pwX, btX, sgX, mlsX, jdX, tdX, dsX, enX, mftX, ldrX, wmX, maX, lwX, lrX, mrX, feX, ngX, trsX, dysX, gnX, t9X, spmX, kpmX, udX, Bool.or_eq_true, Bool.and_eq_true, decide_eq_true_eq, decide_eq_false_iff_not, beq_iff_eq, Bool.or_eq_false_iff, Bool.and_eq_false_iff, beq_eq_false_iff_ne]; omega))), (fl_law_F h.2.1.2 (ff F F2 (Y := fl_Y) (fun r j q => by revert q; simp only [fr_tY, fr_pY, fr_gY, fl_Y, fr_nY, fr_kY, fsC, fsM, lawX, eX, lX, pX, fX, snX, brX, wyX, paX, trX, asX, gdX, lnX, lkX, lpX, lwcX, tyX, jyX, mkX, dzX, cpX, taX, glX, t1X, spX, dgX, kpX, mlawX, mvX, meX, mlX, mfaX, stX, hvX, pwX, btX, sgX, mlsX, jdX, tdX, dsX, enX, mftX, ldrX, wmX, maX, lwX, lrX, mrX, feX, ngX, trsX, dysX, gnX, t9X, spmX, kpmX, udX, Bool.or_eq_true, Bool.and_eq_true, decide_eq_true_eq, decide_eq_false_iff_not, beq_iff_eq, Bool.or_eq_false_iff, Bool.and_eq_false_iff, beq_eq_false_iff_ne]; omega) (fun r j q => by revert q; simp only [fr_tY, fr_pY, fr_gY, fl_Y, fr_nY, fr_kY, fsC, fsM, lawX, eX, lX, pX, fX, snX, brX, wyX, paX, trX, asX, gdX, lnX, lkX, lpX, lwcX, tyX, jyX, mkX, dzX, cpX, taX, glX, t1X, spX, dgX, kpX, mlawX, mvX, meX, mlX, mfaX, stX, hvX, pwX, btX, sgX, mlsX, jdX, tdX, dsX, enX, mftX, ldrX, wmX, maX, lwX, lrX, mrX, feX, ngX, trsX, dysX, gnX, t9X, spmX, kpmX, udX, Bool.or_eq_true, Bool.and_eq_true, decide_eq_true_eq, decide_eq_false_iff_not, beq_iff_eq, Bool.or_eq_false_iff, Bool.and_eq_false_iff, beq_eq_false_iff_ne]; omega)))⟩, hn, (fr_k_F h.2.2.2 (ff F F2 (Y := fr_kY) (fun r j q => by revert q; simp only [fr_tY, fr_pY, fr_gY, fl_Y, fr_nY, fr_kY, fsC, fsM, lawX, eX, lX, pX, fX, snX, brX, wyX, paX, trX, asX, gdX, lnX, lkX, lpX, lwcX, tyX, jyX, mkX, dzX, cpX, taX, glX, t1X, spX, dgX, kpX, mlawX, mvX, meX, mlX, mfaX, stX, hvX, pwX, btX, sgX, mlsX, jdX, tdX, dsX, enX, mftX, ldrX, wmX, maX, lwX, lrX, mrX, feX, ngX, trsX, dysX, gnX, t9X, spmX, kpmX, udX, Bool.or_eq_true, Bool.and_eq_true, decide_eq_true_eq, decide_eq_false_iff_not, beq_iff_eq, Bool.or_eq_false_iff, Bool.and_eq_false_iff, beq_eq_false_iff_ne]; omega) (fun r j q => by revert q; simp only [fr_tY, fr_pY, fr_gY, fl_Y, fr_nY, fr_kY, fsC, fsM, lawX, eX, lX, pX, fX, snX, brX, wyX, paX, trX, asX, gdX, lnX, lkX, lpX, lwcX, tyX, jyX, mkX, dzX, cpX, taX, glX, t1X, spX, dgX, kpX, mlawX, mvX, meX, mlX, mfaX, stX, hvX, pwX, btX, sgX, mlsX, jdX, tdX, dsX, enX, mftX, ldrX, wmX, maX, lwX, lrX, mrX, feX, ngX, trsX, dysX, gnX, t9X, spmX, kpmX, udX, Bool.or_eq_true, Bool.and_eq_true, decide_eq_true_eq, decide_eq_false_iff_not, beq_iff_eq, Bool.or_eq_false_iff, Bool.and_eq_false_iff, beq_eq_false_iff_ne]; omega)))⟩
  have own : ∀ j : Nat, j < 64 → t2 35 j = t2 64 j := fun j hj => by
    rw [F2 35 j rfl, F2 64 j rfl, F 35 j rfl, F 64 j rfl]
    exact h.2.2.1.2.2 j hj
  by_cases hn : 1 ≤ n ∧ n ≤ 99
  · rw [if_pos hn] at q1 q2 q3
    obtain ⟨q1, q4⟩ := q1
    have hF : hy_F dgX t t1 := F
    have tr1 : tr_ok t1 := tr_ok_F F (fun r j q => by revert q; simp only [stX, dgX, dzX, eX, Bool.or_eq_true, Bool.and_eq_true, decide_eq_true_eq, decide_eq_false_iff_not, beq_iff_eq, Bool.or_eq_false_iff, Bool.and_eq_false_iff, beq_eq_false_iff_ne]; omega) m.tr
    have s0 : fs_S 33 t t1 := fs_S_of h.2.2.1.1 (fun _ _ _ => rfl) (fun r j q => F r j (by revert q; simp only [fsM, dgX, dzX, eX, Bool.or_eq_true, Bool.and_eq_true, decide_eq_true_eq, decide_eq_false_iff_not, beq_iff_eq, Bool.or_eq_false_iff, Bool.and_eq_false_iff, beq_eq_false_iff_ne]; omega))
    have pal : ∀ x, mf_plain t1 x = mf_plain t x := fun x => mf_plain_F (F 59 0 rfl) (fun j => F 60 j rfl) x
    have h0 : fh t1 := fun j hj => by rw [pal, F 62 j rfl]; exact h.2.2.1.2.1.1 j hj
    have f0 : ft t1 := fun i hi => by
      rw [pal, F 85 i rfl]
      rw [F 59 34 rfl] at hi
      exact h.2.2.1.2.1.2 i hi
    obtain ⟨⟨s1, -⟩, -, h1, f1⟩ := fd_days (.inl rfl) s0 tr1 (fd_law h.2.1.2 m F (fun r j q => by revert q; simp only [mlawX, dgX, dzX, eX, Bool.or_eq_true, Bool.and_eq_true, decide_eq_true_eq, decide_eq_false_iff_not, beq_iff_eq, Bool.or_eq_false_iff, Bool.and_eq_false_iff, beq_eq_false_iff_ne]; omega)) h0 f0 n
    have e34 := md_sum tr1 n
    have x34 : t1 59 34 = t 59 34 := F 59 34 rfl
    have c3 := s1.1.1.1
    have z34 : t 33 3 = t 59 34 := h.2.2.1.1.1.1.1
    have pal2 : ∀ x, mf_plain t2 x = mf_plain (md_days t1 n) x := fun x => mf_plain_F (q3 59 0 rfl) (fun j => q3 60 j rfl) x
    refine ⟨by rw [q1, q2]; congr 1; omega, fin ⟨fs_S_of s1 (fun r j q => ?_) (fun r j q => q3 r j (by revert q; simp only [fsM, mvX, Bool.or_eq_true, Bool.and_eq_true, decide_eq_true_eq, decide_eq_false_iff_not, beq_iff_eq, Bool.or_eq_false_iff, Bool.and_eq_false_iff, beq_eq_false_iff_ne]; omega)), ⟨fun j hj => by rw [pal2, q3 62 j rfl]; exact h1 j hj, fun i hi => ?_⟩, own⟩⟩
    · rw [F2 r j (by revert q; simp only [fsC, dysX, dsX, enX, hvX, mftX, mvX, Bool.or_eq_true, Bool.and_eq_true, decide_eq_true_eq, decide_eq_false_iff_not, beq_iff_eq, Bool.or_eq_false_iff, Bool.and_eq_false_iff, beq_eq_false_iff_ne]; omega)]
      exact q4 r j (by revert q; simp only [fsC, eX, Bool.or_eq_true, Bool.and_eq_true, decide_eq_true_eq, decide_eq_false_iff_not, beq_iff_eq, Bool.or_eq_false_iff, Bool.and_eq_false_iff, beq_eq_false_iff_ne]; omega)
    · rw [q3 59 34 rfl] at hi
      rw [pal2, q3 85 i rfl]
      exact f1 i hi
  · rw [if_neg hn] at q1 q2 q3
    obtain ⟨q1, q4⟩ := q1
    refine ⟨by rw [q1, q2], fin (fr_n_F h.2.2.1 (fun r j q => ?_))⟩
    rw [q3 r j (by revert q; simp only [fr_nY, fsC, fsM, mvX, Bool.or_eq_true, Bool.and_eq_true, decide_eq_true_eq, decide_eq_false_iff_not, beq_iff_eq, Bool.or_eq_false_iff, Bool.and_eq_false_iff, beq_eq_false_iff_ne]; omega), q4]
/-! gain: what was added is taken away again -/
theorem gn_bit : ∀ x : Fin 64, ∀ e : Fin 6, hz_b (x.val : Int) (e.val : Int) = false → hz_iand (hz_ior (x.val : Int) (hz_ishl 1 (e.val : Int))) (hz_ixor (hz_ishl 1 (e.val : Int)) (-1)) = (x.val : Int) := by decide +kernel
theorem gn_bit' {x e : Int} (h : 0 ≤ x ∧ x ≤ 63) (he : 0 ≤ e ∧ e < 6) (hb : hz_b x e = false) : hz_iand (hz_ior x (hz_ishl 1 e)) (hz_ixor (hz_ishl 1 e) (-1)) = x := by
  have := gn_bit ⟨x.toNat, by omega⟩ ⟨e.toNat, by omega⟩
  dsimp only at this
  rw [show ((x.toNat : Nat) : Int) = x by omega, show ((e.toNat : Nat) : Int) = e by omega] at this
  exact this hb
theorem gn_q : ∀ q k : Fin 4, hz_b (hz_ishl 1 (q.val : Int)) (k.val : Int) = true → q = k := by decide
theorem fr_gain {t t1 t2 : hy_T} {e c q : Int} (h : fr t) (F : hy_F pX t t1) (F2 : hy_F gnX t1 t2) (q2 : hy_F mvX (if ((0 ≤ e ∧ e < 6) ∧ mf_plain t1 c = true ∧ 0 ≤ q ∧ q < 4) ∧ hz_b (t1 62 (4 * c + q).toNat) e = false then mf_chN (mf_chN t1 c (hz_ishl 1 q) e 1 4) c (hz_ishl 1 q) e 0 4 else t1) t2) : fr t2 := by
  have e62 : ∀ j : Nat, j < 48 → t2 62 j = t 62 j := fun j hj => by
    rw [q2 62 j rfl]
    split
    · next hc =>
      obtain ⟨⟨he, hp, hq⟩, hb⟩ := hc
      have hc12 : 0 ≤ c ∧ c < 12 := by
        unfold mf_plain at hp
        rw [Bool.and_eq_true] at hp
        exact sp_told_in hp.1
      rw [ch_v _ hc12 4 j, ch_v _ hc12 4 j, if_pos rfl, if_neg (show ¬ (1 : Int) = 0 by decide), F 62 j rfl]
      by_cases hf : fs_in c (hz_ishl 1 q) 4 j
      · rw [if_pos hf, if_pos hf]
        have hk := gn_q ⟨q.toNat, by omega⟩ ⟨((j : Int) - 4 * c).toNat, by have := hf.1; omega⟩
        dsimp only at hk
        rw [show ((q.toNat : Nat) : Int) = q by omega, show ((((j : Int) - 4 * c).toNat : Nat) : Int) = (j : Int) - 4 * c by have := hf.1; omega] at hk
        have hk2 := congrArg Fin.val (hk hf.2)
        dsimp only at hk2
        have ej : (4 * c + q).toNat = j := by have := hf.1; omega
        rw [ej, F 62 j rfl] at hb
        exact gn_bit' (h.2.2.1.2.1.1 j hj).1 he hb
      · rw [if_neg hf, if_neg hf]
    · exact F 62 j rfl
  have oth : ∀ r j, fr_Y r j = true → r ≠ 62 → t2 r j = t r j := fun r j hY hr => (F2 r j (by revert hY; simp only [fr_Y, fr_tY, fr_pY, fr_gY, fl_Y, fr_nY, fr_kY, fsC, fsM, lawX, mlawX, gnX, hvX, mvX, Bool.or_eq_true, Bool.and_eq_true, decide_eq_true_eq, decide_eq_false_iff_not, beq_iff_eq, Bool.or_eq_false_iff, Bool.and_eq_false_iff, beq_eq_false_iff_ne]; omega)).trans (F r j (by revert hY; simp only [fr_Y, fr_tY, fr_pY, fr_gY, fl_Y, fr_nY, fr_kY, fsC, fsM, lawX, mlawX, pX, Bool.or_eq_true, Bool.and_eq_true, decide_eq_true_eq, decide_eq_false_iff_not, beq_iff_eq, Bool.or_eq_false_iff, Bool.and_eq_false_iff, beq_eq_false_iff_ne]; omega))
  have n0 : t2 59 0 = t 59 0 := oth 59 0 rfl (by decide)
  have n60 : ∀ j, t2 60 j = t 60 j := fun j => oth 60 j rfl (by decide)
  refine ⟨⟨(fr_t_F h.1.1 (ff F F2 (Y := fr_tY) (fun r j q => by revert q; simp only [fr_tY, fr_pY, fr_gY, fl_Y, fr_nY, fr_kY, fsC, fsM, lawX, eX, lX, pX, fX, snX, brX, wyX, paX, trX, asX, gdX, lnX, lkX, lpX, lwcX, tyX, jyX, mkX, dzX, cpX, taX, glX, t1X, spX, dgX, kpX, mlawX, mvX, meX, mlX, mfaX, stX, hvX, pwX, btX, sgX, mlsX, jdX, tdX, dsX, enX, mftX, ldrX, wmX, maX, lwX, lrX, mrX, feX, ngX, trsX, dysX, gnX, t9X, spmX, kpmX, udX, Bool.or_eq_true, Bool.and_eq_true, decide_eq_true_eq, decide_eq_false_iff_not, beq_iff_eq, Bool.or_eq_false_iff, Bool.and_eq_false_iff, beq_eq_false_iff_ne]; omega) (fun r j q => by revert q; simp only [fr_tY, fr_pY, fr_gY, fl_Y, fr_nY, fr_kY, fsC, fsM, lawX, eX, lX, pX, fX, snX, brX, wyX, paX, trX, asX, gdX, lnX, lkX, lpX, lwcX, tyX, jyX, mkX, dzX, cpX, taX, glX, t1X, spX, dgX, kpX, mlawX, mvX, meX, mlX, mfaX, stX, hvX, pwX, btX, sgX, mlsX, jdX, tdX, dsX, enX, mftX, ldrX, wmX, maX, lwX, lrX, mrX, feX, ngX, trsX, dysX, gnX, t9X, spmX, kpmX, udX, Bool.or_eq_true, Bool.and_eq_true, decide_eq_true_eq, decide_eq_false_iff_not, beq_iff_eq, Bool.or_eq_false_iff, Bool.and_eq_false_iff, beq_eq_false_iff_ne]; omega))), (fr_p_F h.1.2 (ff F F2 (Y := fr_pY) (fun r j q => by revert q; simp only [fr_tY, fr_pY, fr_gY, fl_Y, fr_nY, fr_kY, fsC, fsM, lawX, eX, lX, pX, fX, snX, brX, wyX, paX, trX, asX, gdX, lnX, lkX, lpX, lwcX, tyX, jyX, mkX, dzX, cpX, taX, glX, t1X, spX, dgX, kpX, mlawX, mvX, meX, mlX, mfaX, stX, hvX, pwX, btX, sgX, mlsX, jdX, tdX, dsX, enX, mftX, ldrX, wmX, maX, lwX, lrX, mrX, feX, ngX, trsX, dysX, gnX, t9X, spmX, kpmX, udX, Bool.or_eq_true, Bool.and_eq_true, decide_eq_true_eq, decide_eq_false_iff_not, beq_iff_eq, Bool.or_eq_false_iff, Bool.and_eq_false_iff, beq_eq_false_iff_ne]; omega) (fun r j q => by revert q; simp only [fr_tY, fr_pY, fr_gY, fl_Y, fr_nY, fr_kY, fsC, fsM, lawX, eX, lX, pX, fX, snX, brX, wyX, paX, trX, asX, gdX, lnX, lkX, lpX, lwcX, tyX, jyX, mkX, dzX, cpX, taX, glX, t1X, spX, dgX, kpX, mlawX, mvX, meX, mlX, mfaX, stX, hvX, pwX, btX, sgX, mlsX, jdX, tdX, dsX, enX, mftX, ldrX, wmX, maX, lwX, lrX, mrX, feX, ngX, trsX, dysX, gnX, t9X, spmX, kpmX, udX, Bool.or_eq_true, Bool.and_eq_true, decide_eq_true_eq, decide_eq_false_iff_not, beq_iff_eq, Bool.or_eq_false_iff, Bool.and_eq_false_iff, beq_eq_false_iff_ne]; omega)))⟩, ⟨(fr_g_F h.2.1.1 (ff F F2 (Y := fr_gY) (fun r j q => by revert q; simp only [fr_tY, fr_pY, fr_gY, fl_Y, fr_nY, fr_kY, fsC, fsM, lawX, eX, lX, pX, fX, snX, brX, wyX, paX, trX, asX, gdX, lnX, lkX, lpX, lwcX, tyX, jyX, mkX, dzX, cpX, taX, glX, t1X, spX, dgX, kpX, mlawX, mvX, meX, mlX, mfaX, stX, hvX, pwX, btX, sgX, mlsX, jdX, tdX, dsX, enX, mftX, ldrX, wmX, maX, lwX, lrX, mrX, feX, ngX, trsX, dysX, gnX, t9X, spmX, kpmX, udX, Bool.or_eq_true, Bool.and_eq_true, decide_eq_true_eq, decide_eq_false_iff_not, beq_iff_eq, Bool.or_eq_false_iff, Bool.and_eq_false_iff, beq_eq_false_iff_ne]; omega) (fun r j q => by revert q; simp only [fr_tY, fr_pY, fr_gY, fl_Y, fr_nY, fr_kY, fsC, fsM, lawX, eX, lX, pX, fX, snX, brX, wyX, paX, trX, asX, gdX, lnX, lkX, lpX, lwcX, tyX, jyX, mkX, dzX, cpX, taX, glX, t1X, spX, dgX, kpX, mlawX, mvX, meX, mlX, mfaX, stX, hvX, pwX, btX, sgX, mlsX, jdX, tdX, dsX, enX, mftX, ldrX, wmX, maX, lwX, lrX, mrX, feX, ngX, trsX, dysX, gnX, t9X, spmX, kpmX, udX, Bool.or_eq_true, Bool.and_eq_true, decide_eq_true_eq, decide_eq_false_iff_not, beq_iff_eq, Bool.or_eq_false_iff, Bool.and_eq_false_iff, beq_eq_false_iff_ne]; omega))), (fl_law_F h.2.1.2 (ff F F2 (Y := fl_Y) (fun r j q => by revert q; simp only [fr_tY, fr_pY, fr_gY, fl_Y, fr_nY, fr_kY, fsC, fsM, lawX, eX, lX, pX, fX, snX, brX, wyX, paX, trX, asX, gdX, lnX, lkX, lpX, lwcX, tyX, jyX, mkX, dzX, cpX, taX, glX, t1X, spX, dgX, kpX, mlawX, mvX, meX, mlX, mfaX, stX, hvX, pwX, btX, sgX, mlsX, jdX, tdX, dsX, enX, mftX, ldrX, wmX, maX, lwX, lrX, mrX, feX, ngX, trsX, dysX, gnX, t9X, spmX, kpmX, udX, Bool.or_eq_true, Bool.and_eq_true, decide_eq_true_eq, decide_eq_false_iff_not, beq_iff_eq, Bool.or_eq_false_iff, Bool.and_eq_false_iff, beq_eq_false_iff_ne]; omega) (fun r j q => by revert q; simp only [fr_tY, fr_pY, fr_gY, fl_Y, fr_nY, fr_kY, fsC, fsM, lawX, eX, lX, pX, fX, snX, brX, wyX, paX, trX, asX, gdX, lnX, lkX, lpX, lwcX, tyX, jyX, mkX, dzX, cpX, taX, glX, t1X, spX, dgX, kpX, mlawX, mvX, meX, mlX, mfaX, stX, hvX, pwX, btX, sgX, mlsX, jdX, tdX, dsX, enX, mftX, ldrX, wmX, maX, lwX, lrX, mrX, feX, ngX, trsX, dysX, gnX, t9X, spmX, kpmX, udX, Bool.or_eq_true, Bool.and_eq_true, decide_eq_true_eq, decide_eq_false_iff_not, beq_iff_eq, Bool.or_eq_false_iff, Bool.and_eq_false_iff, beq_eq_false_iff_ne]; omega)))⟩, ⟨?_, ⟨fun j hj => by rw [mf_plain_F n0 n60, e62 j hj]; exact h.2.2.1.2.1.1 j hj, ft_F h.2.2.1.2.1.2 (oth 59 34 rfl (by decide)) (fun j => oth 85 j rfl (by decide)) n0 n60⟩, fun j hj => ?_⟩, (fr_k_F h.2.2.2 (ff F F2 (Y := fr_kY) (fun r j q => by revert q; simp only [fr_tY, fr_pY, fr_gY, fl_Y, fr_nY, fr_kY, fsC, fsM, lawX, eX, lX, pX, fX, snX, brX, wyX, paX, trX, asX, gdX, lnX, lkX, lpX, lwcX, tyX, jyX, mkX, dzX, cpX, taX, glX, t1X, spX, dgX, kpX, mlawX, mvX, meX, mlX, mfaX, stX, hvX, pwX, btX, sgX, mlsX, jdX, tdX, dsX, enX, mftX, ldrX, wmX, maX, lwX, lrX, mrX, feX, ngX, trsX, dysX, gnX, t9X, spmX, kpmX, udX, Bool.or_eq_true, Bool.and_eq_true, decide_eq_true_eq, decide_eq_false_iff_not, beq_iff_eq, Bool.or_eq_false_iff, Bool.and_eq_false_iff, beq_eq_false_iff_ne]; omega) (fun r j q => by revert q; simp only [fr_tY, fr_pY, fr_gY, fl_Y, fr_nY, fr_kY, fsC, fsM, lawX, eX, lX, pX, fX, snX, brX, wyX, paX, trX, asX, gdX, lnX, lkX, lpX, lwcX, tyX, jyX, mkX, dzX, cpX, taX, glX, t1X, spX, dgX, kpX, mlawX, mvX, meX, mlX, mfaX, stX, hvX, pwX, btX, sgX, mlsX, jdX, tdX, dsX, enX, mftX, ldrX, wmX, maX, lwX, lrX, mrX, feX, ngX, trsX, dysX, gnX, t9X, spmX, kpmX, udX, Bool.or_eq_true, Bool.and_eq_true, decide_eq_true_eq, decide_eq_false_iff_not, beq_iff_eq, Bool.or_eq_false_iff, Bool.and_eq_false_iff, beq_eq_false_iff_ne]; omega)))⟩
  · obtain ⟨⟨⟨s1, s2, s3⟩, s4, s5⟩, s6, s7⟩ := h.2.2.1.1
    have c3 : t2 33 3 = t 33 3 := oth 33 3 rfl (by decide)
    refine ⟨⟨⟨by rw [c3, oth 59 34 rfl (by decide)]; exact s1, by rw [c3]; exact s2, by rw [c3]; exact s3⟩, by rw [oth 33 4 rfl (by decide), oth 59 2 rfl (by decide)]; exact s4, by rw [oth 33 5 rfl (by decide), oth 59 1 rfl (by decide)]; exact s5⟩, fun j hj => ?_, fun i w hi hw => ?_⟩
    · show t2 34 j = _
      rw [oth 34 j rfl (by decide), e62 j hj]
      exact s6 j hj
    · rw [c3] at hi
      have hw6 : w = 0 ∨ w = 1 ∨ w = 2 ∨ w = 3 ∨ w = 4 ∨ w = 5 := by omega
      show t2 36 _ = _
      rw [oth 36 _ rfl (by decide), oth (85 + w) i (by rcases hw6 with rfl | rfl | rfl | rfl | rfl | rfl <;> rfl) (by omega)]
      exact s7 i w hi hw
  · rw [oth 35 j rfl (by decide), oth 64 j rfl (by decide)]
    exact h.2.2.1.2.2 j hj
