/-! the full relation: treaties, days, gain -/
theorem wf_make_F (b : Nat) (t : hy_T) (k : Int) : hy_F (mkX b) t (wf_make b t k) := by
  unfold wf_make
  split
  · intro r j hX
    simp only [mkX, Bool.or_eq_false_iff, Bool.and_eq_false_iff, beq_eq_false_iff_ne] at hX
    unfold sp_made
    rw [show ∀ (T : hy_T) (v : Int), hy_up T b 3 v r j = T r j from fun T v => by simp only [hy_up]; rw [if_neg (by omega)]]
    unfold sp_lay
    rw [hy_up_ne (by omega), hy_up_ne (by omega), hy_up_ne (by omega), hy_up_ne (by omega), hy_up_ne (by omega), hy_up_ne (by omega)]
    exact sp_moveN_F b t _ _ _ _ 4 r j (by simp only [beq_eq_false_iff_ne]; omega)
  · exact hy_F.rf
theorem mk_make_62 {u : hy_T} {k : Nat} (hw : ml_row u k) (hh : fh u) (hm : mk_can u k = true) : ∀ j : Nat, j < 48 → (0 ≤ mk_make u k 62 j ∧ mk_make u k 62 j ≤ 63) ∧ (mf_plain u ((j / 4 : Nat) : Int) = false → mk_make u k 62 j = 0) := fun j hj => by
  obtain ⟨w1, w2, w3, w4, w5⟩ := hw
  have hp : mf_plain u (u 80 k) = true := by
    unfold mk_can at hm
    rw [Bool.and_eq_true, Bool.and_eq_true] at hm
    exact hm.1.1
  have e : mk_make u k 62 j = mk_c2 u k 62 j := by
    unfold mk_make
    rw [if_pos hm]
    unfold mk_lay
    rw [hy_up_ne (by decide), hy_up_ne (by decide), hy_up_ne (by decide), hy_up_ne (by decide), hy_up_ne (by decide), hy_up_ne (by decide), hy_up_ne (by decide)]
  have c62 : mk_c1 u k 62 j = if fs_in (u 80 k) (u 81 k) 4 j then hz_ior (u 62 j) (hz_ishl 1 (u 83 k)) else u 62 j := by
    unfold mk_c1
    rw [ch_v u w1 4 j, if_neg (show ¬ (1 : Int) = 0 by decide)]
  rw [e]
  unfold mk_c2
  have c80 : mk_c1 u k 80 k = u 80 k := by unfold mk_c1; rw [ch_r _ _ _ _ _ 4 80 k (by decide)]
  have c81 : mk_c1 u k 81 k = u 81 k := by unfold mk_c1; rw [ch_r _ _ _ _ _ 4 81 k (by decide)]
  have hv := hh j hj
  have hne : fs_in (u 80 k) (u 81 k) 4 j → mf_plain u ((j / 4 : Nat) : Int) = false → False := fun hf q => by
    rw [show ((j / 4 : Nat) : Int) = u 80 k by have := hf.1; omega, hp] at q
    cases q
  by_cases h84 : mk_c1 u k 84 k = 0
  · rw [if_pos h84, c80, c81, ch_v (mk_c1 u k) w1 4 j, c62]
    by_cases hf : fs_in (u 80 k) (u 81 k) 4 j
    · rw [if_pos hf, if_pos rfl, if_pos hf]
      exact ⟨hv_and (hv_or' hv.1 w4), fun q => (hne hf q).elim⟩
    · rw [if_neg hf, if_neg hf]
      exact hv
  · rw [if_neg h84, c62]
    by_cases hf : fs_in (u 80 k) (u 81 k) 4 j
    · rw [if_pos hf]
      exact ⟨hv_or' hv.1 w4, fun q => (hne hf q).elim⟩
    · rw [if_neg hf]
      exact hv
theorem mk_make_pal {u : hy_T} {k : Nat} (hw : ml_row u k) (ht : tr_ok u) (c : Int) : mf_plain (mk_make u k) c = mf_plain u c :=
  mf_plain_F ((mk_make_s hw ht).1 59 0 rfl) (fun j => (mk_make_s hw ht).1 60 j rfl) c
theorem mk_make_h {u : hy_T} {k : Nat} (hw : ml_row u k) (ht : tr_ok u) (hh : fh u) : fh (mk_make u k) := by
  by_cases hm : mk_can u k = true
  · intro j hj
    rw [mk_make_pal hw ht]
    exact mk_make_62 hw hh hm j hj
  · have e : mk_make u k = u := by unfold mk_make; rw [if_neg hm]
    rw [e]
    exact hh
theorem mk_make_t {u : hy_T} {k : Nat} (hw : ml_row u k) (ht : tr_ok u) (hf : ft u) : ft (mk_make u k) := by
  by_cases hm : mk_can u k = true
  · intro i hi
    rw [mk_make_pal hw ht]
    have hp : mf_plain u (u 80 k) = true := by
      unfold mk_can at hm
      rw [Bool.and_eq_true, Bool.and_eq_true] at hm
      exact hm.1.1
    have cr : ∀ r j, r ≠ 62 → mk_c2 u k r j = u r j := fun r j hr => by
      unfold mk_c2
      split
      · rw [ch_r _ _ _ _ _ 4 r j hr]
        unfold mk_c1
        rw [ch_r _ _ _ _ _ 4 r j hr]
      · unfold mk_c1
        rw [ch_r _ _ _ _ _ 4 r j hr]
    have e : mk_make u k = mk_lay (mk_c2 u k) k := by unfold mk_make; rw [if_pos hm]
    have e34 : mk_make u k 59 34 = u 59 34 + 1 := by
      rw [e]
      unfold mk_lay
      rw [cr 59 34 (by decide)]
      simp [hy_up]
    have e85 : mk_make u k 85 i = if i = (u 59 34).toNat then u 80 k else u 85 i := by
      rw [e]
      unfold mk_lay
      rw [hy_up_ne (by decide), hy_up_ne (by decide), hy_up_ne (by decide), hy_up_ne (by decide), hy_up_ne (by decide), hy_up_ne (by decide)]
      simp only [hy_up, true_and]
      rw [cr 59 34 (by decide), cr 80 k (by decide), cr 85 i (by decide)]
    rw [e85]
    split
    · exact hp
    · exact hf i (by omega)
  · have e : mk_make u k = u := by unfold mk_make; rw [if_neg hm]
    rw [e]
    exact hf
/-- lines that are made, one behind the other, in the class -/
def wf_mdN (t : hy_T) : Nat → Int × hy_T
  | 0 => (0, t)
  | k + 1 => if wf_can 33 (wf_mdN t k).2 k = true then ((wf_mdN t k).1 + 1, wf_make 33 (wf_mdN t k).2 k) else wf_mdN t k
def wf_jdN : Nat → Nat → hy_T → Nat × hy_T
  | 0, k, t => (k, t)
  | m + 1, k, t => if wf_can 41 t k = true then wf_jdN m (k + 1) (wf_make 41 t k) else (k, t)
theorem tz_r_F {XW XM : Nat → Nat → Bool} {t u t1 u1 : hy_T} {i : Nat} (h : tz_r t u i) (F : hy_F XW t t1) (G : hy_F XM u u1) (a : ∀ r j, 28 ≤ r → r ≤ 32 → XW r j = false) (b : ∀ r j, 80 ≤ r → r ≤ 84 → XM r j = false) : tz_r t1 u1 i := by
  unfold tz_r
  rw [F 28 i (a 28 i (by decide) (by decide)), F 29 i (a 29 i (by decide) (by decide)), F 30 i (a 30 i (by decide) (by decide)), F 31 i (a 31 i (by decide) (by decide)), F 32 i (a 32 i (by decide) (by decide)), G 80 i (b 80 i (by decide) (by decide)), G 81 i (b 81 i (by decide) (by decide)), G 82 i (b 82 i (by decide) (by decide)), G 83 i (b 83 i (by decide) (by decide)), G 84 i (b 84 i (by decide) (by decide))]
  exact h
theorem stX_80 : ∀ r j, 80 ≤ r → r ≤ 84 → stX r j = false := fun r j h1 h2 => by simp only [Bool.or_eq_true, Bool.and_eq_true, decide_eq_true_eq, decide_eq_false_iff_not, beq_iff_eq, Bool.or_eq_false_iff, Bool.and_eq_false_iff, beq_eq_false_iff_ne, stX]; omega
theorem mkX_28 {b : Nat} (hb : b = 33 ∨ b = 41) : ∀ r j, 28 ≤ r → r ≤ 32 → mkX b r j = false := fun r j h1 h2 => by simp only [Bool.or_eq_true, Bool.and_eq_true, decide_eq_true_eq, decide_eq_false_iff_not, beq_iff_eq, Bool.or_eq_false_iff, Bool.and_eq_false_iff, beq_eq_false_iff_ne, mkX]; omega
theorem fm_mdN {t u : hy_T} {cnt : Nat} (h : fs_S 33 t u) (hr : ∀ i, i < cnt → tz_r t u i) (h27 : t 27 6 = cnt) (h33 : u 59 33 = cnt) (hp : ∀ c, wf_plain t c = mf_plain u c) (hg : ml_good u) (ht : tr_ok u) (hh : fh u) (hf : ft u) : ∀ n : Nat, n ≤ cnt →
    (wf_mdN t n).1 = (mk_madeN u n).1 ∧ fs_S 33 (wf_mdN t n).2 (mk_madeN u n).2 ∧ hy_F (mkX 33) t (wf_mdN t n).2 ∧ fh (mk_madeN u n).2 ∧ ft (mk_madeN u n).2
  | 0, _ => ⟨rfl, h, hy_F.rf, hh, hf⟩
  | n + 1, hn => by
    obtain ⟨a1, a2, a3, a4, a5⟩ := fm_mdN h hr h27 h33 hp hg ht hh hf n (by omega)
    obtain ⟨b1, b2, b3, b4⟩ := mk_madeN_s hg ht n (by omega)
    have row : ml_row (mk_madeN u n).2 n := b3.2 n (by rw [b1 59 33 rfl, h33]; omega)
    have rr := tz_r_F (hr n (by omega)) a3 b1 (mkX_28 (.inl rfl)) stX_80
    have hk : (n : Int) < (wf_mdN t n).2 27 6 := by rw [a3 27 6 rfl, h27]; omega
    have hp2 : ∀ c, wf_plain (wf_mdN t n).2 c = mf_plain (mk_madeN u n).2 c := fun c => by
      rw [mf_plain_F (b1 59 0 rfl) (fun j => b1 60 j rfl), ← hp c]
      unfold wf_plain
      rw [a3 5 2 rfl, a3 5 3 rfl]
    have ec := fs_can a2 rr hk hp2 row
    have em := fs_make (.inl rfl) a2 rr hk hp2 row
    have F := wf_make_F 33 (wf_mdN t n).2 n
    simp only [wf_mdN, mk_madeN]
    rw [ec]
    by_cases hc : mk_can (mk_madeN u n).2 n = true
    · rw [if_pos hc, if_pos hc]
      exact ⟨by rw [a1], em, a3.tr' F, mk_make_h row b2 a4, mk_make_t row b2 a5⟩
    · rw [if_neg hc, if_neg hc]
      exact ⟨a1, a2, a3, a4, a5⟩
theorem fj_jdN {cnt : Nat} : ∀ (m k : Nat) {t u : hy_T}, fs_S 41 t u → (∀ i, i < cnt → tz_r t u i) → t 27 6 = cnt → u 59 33 = cnt → (∀ c, wf_plain t c = mf_plain u c) → ml_good u → tr_ok u → k + m = cnt → (wf_jdN m k t).1 = (mk_jdN u m k).1
  | 0, k, t, u, h, hr, h27, h33, hp, hg, ht, hm => rfl
  | m + 1, k, t, u, h, hr, h27, h33, hp, hg, ht, hm => by
    have row : ml_row u k := hg.2 k (by omega)
    have hk : (k : Int) < t 27 6 := by omega
    have ec := fs_can h (hr k (by omega)) hk hp row
    have em := fs_make (.inr rfl) h (hr k (by omega)) hk hp row
    have F := wf_make_F 41 t k
    obtain ⟨G, g2⟩ := mk_make_s row ht
    simp only [wf_jdN, mk_jdN]
    rw [ec]
    by_cases hc : mk_can u k = true
    · rw [if_pos hc, if_pos hc]
      refine fj_jdN m (k + 1) em (fun i hi => tz_r_F (hr i hi) F G (mkX_28 (.inr rfl)) stX_80) ((F 27 6 rfl).trans h27) ((G 59 33 rfl).trans h33) (fun c => ?_) ⟨by rw [G 59 33 rfl]; exact hg.1, fun i hi => ?_⟩ g2 (by omega)
      · rw [mf_plain_F (G 59 0 rfl) (fun j => G 60 j rfl), ← hp c]
        unfold wf_plain
        rw [F 5 2 rfl, F 5 3 rfl]
      · rw [G 59 33 rfl] at hi
        have q := hg.2 i hi
        unfold ml_row at q ⊢
        rw [G 80 i (stX_80 80 i (by decide) (by decide)), G 81 i (stX_80 81 i (by decide) (by decide)), G 82 i (stX_80 82 i (by decide) (by decide)), G 83 i (stX_80 83 i (by decide) (by decide)), G 84 i (stX_80 84 i (by decide) (by decide))]
        exact q
    · rw [if_neg hc, if_neg hc]
/-- what treaties() answers and leaves, what judged() answers -/
def wf_tr (t : hy_T) (n : Int) : Int × hy_T := if 1 ≤ n ∧ n ≤ 120 ∧ n ≤ t 3 1 then (if rd_lines t n 3 4 = 0 then wf_mdN (hy_up (rd_lines t n) 3 1 0) (rd_lines t n 27 6).toNat else (rd_lines t n 3 4, hy_up (rd_lines t n) 3 1 0)) else (-1, t)
def wf_jd (t : hy_T) (n : Int) : Int := if 1 ≤ n ∧ n ≤ 120 ∧ n ≤ t 3 1 then (if rd_lines t n 3 4 = 0 then ((wf_jdN (rd_lines t n 27 6).toNat 0 (sp_scopy (hy_up (rd_lines t n) 3 1 0) 33 41)).1 : Int) else rd_lines t n 3 4) else -1
theorem fr_treaties {t t1 t2 : hy_T} {n : Int} {r1 r2 : Option Int} (k : cK t) (k1 : mK t1) (h : fr t) (F : hy_F (tyX 33) t t1) (F2 : hy_F trsX t1 t2) (c : t1 3 1 = if 1 ≤ n ∧ n ≤ 120 ∧ n ≤ t 3 1 then 0 else t 3 1) (d : t2 59 9 = if ml_ntc t1 n then 0 else t1 59 9) (q1 : r1 = some (wf_tr t n).1 ∧ t1 = (wf_tr t n).2) (q2 : r2 = some (if ml_ntc t1 n then (if (ml_lines t1 n).1 = true then (mk_madeN (ml_lines t1 n).2 ((ml_lines t1 n).2 59 33).toNat).1 else (ml_lines t1 n).2 59 12) else -1) ∧ t2 = if ml_ntc t1 n then (if (ml_lines t1 n).1 = true then (mk_madeN (ml_lines t1 n).2 ((ml_lines t1 n).2 59 33).toNat).2 else (ml_lines t1 n).2) else t1) : r2 = r1 ∧ fr t2 := by
  have x9 : t1 59 9 = t 59 9 := F 59 9 rfl
  have h0 : t 3 1 = t 59 9 := h.1.1.1
  have fin : fr_n t2 → fr t2 := fun hn => ⟨⟨fr_len h.1.1 F F2 (fun _ => rfl) (fun _ => rfl) (fun _ => rfl) (fun _ => rfl) (p5_lines (t := t) h.1.1.1 F F2 rfl rfl c d), (fr_p_F h.1.2 (ff F F2 (Y := fr_pY) (fun r j q => by revert q; simp only [fr_tY, fr_pY, fr_gY, fl_Y, fr_nY, fr_kY, fsC, fsM, lawX, eX, lX, pX, fX, snX, brX, wyX, paX, trX, asX, gdX, lnX, lkX, lpX, lwcX, tyX, jyX, mkX, dzX, cpX, taX, glX, t1X, spX, dgX, kpX, mlawX, mvX, meX, mlX, mfaX, stX, hvX, pwX, btX, sgX, mlsX, jdX, tdX, dsX, enX, mftX, ldrX, wmX, maX, lwX, lrX, mrX, feX, ngX, trsX, dysX, gnX, t9X, spmX, kpmX, udX, Bool.or_eq_true, Bool.and_eq_true, decide_eq_true_eq, decide_eq_false_iff_not, beq_iff_eq, Bool.or_eq_false_iff, Bool.and_eq_false_iff, beq_eq_false_iff_ne]; omega) (fun r j q => by revert q; simp only [fr_tY, fr_pY, fr_gY, fl_Y, fr_nY, fr_kY, fsC, fsM, lawX, eX, lX, pX, fX, snX, brX, wyX, paX, trX, asX, gdX, lnX, lkX, lpX, lwcX, tyX, jyX, mkX, dzX, cpX, taX, glX, t1X, spX, dgX, kpX, mlawX, mvX, meX, mlX, mfaX, stX, hvX, pwX, btX, sgX, mlsX, jdX, tdX, dsX, enX, mftX, ldrX, wmX, maX, lwX, lrX, mrX, feX, ngX, trsX, dysX, gnX, t9X, spmX, kpmX, udX, Bool.or_eq_true, Bool.and_eq_true, decide_eq_true_eq, decide_eq_false_iff_not, beq_iff_eq, Bool.or_eq_false_iff, Bool.and_eq_false_iff, beq_eq_false_iff_ne]; omega)))⟩, ⟨(fr_g_F h.2.1.1 (ff F F2 (Y := fr_gY) (fun r j q => by revert q; simp only [fr_tY, fr_pY, fr_gY, fl_Y, fr_nY, fr_kY, fsC, fsM, lawX, eX, lX, pX, fX, snX, brX, wyX, paX, trX, asX, gdX, lnX, lkX, lpX, lwcX, tyX, jyX, mkX, dzX, cpX, taX, glX, t1X, spX, dgX, kpX, mlawX, mvX, meX, mlX, mfaX, stX, hvX, pwX, btX, sgX, mlsX, jdX, tdX, dsX, enX, mftX, ldrX, wmX, maX, lwX, lrX, mrX, feX, ngX, trsX, dysX, gnX, t9X, spmX, kpmX, udX, Bool.or_eq_true, Bool.and_eq_true, decide_eq_true_eq, decide_eq_false_iff_not, beq_iff_eq, Bool.or_eq_false_iff, Bool.and_eq_false_iff, beq_eq_false_iff_ne]; omega) (fun r j q => by revert q; simp only [fr_tY, fr_pY, fr_gY, fl_Y, fr_nY, fr_kY, fsC, fsM, lawX, eX, lX, pX, fX, snX, brX, wyX, paX, trX, asX, gdX, lnX, lkX, lpX, lwcX, tyX, jyX, mkX, dzX, cpX, taX, glX, t1X, spX, dgX, kpX, mlawX, mvX, meX, mlX, mfaX, stX, hvX, pwX, btX, sgX, mlsX, jdX, tdX, dsX, enX, mftX, ldrX, wmX, maX, lwX, lrX, mrX, feX, ngX, trsX, dysX, gnX, t9X, spmX, kpmX, udX, Bool.or_eq_true, Bool.and_eq_true, decide_eq_true_eq, decide_eq_false_iff_not, beq_iff_eq, Bool.or_eq_false_iff, Bool.and_eq_false_iff, beq_eq_false_iff_ne]; omega))), (fl_law_F h.2.1.2 (ff F F2 (Y := fl_Y) (fun r j q => by revert q; simp only [fr_tY, fr_pY, fr_gY, fl_Y, fr_nY, fr_kY, fsC, fsM, lawX, eX, lX, pX, fX, snX, brX, wyX, paX, trX, asX, gdX, lnX, lkX, lpX, lwcX, tyX, jyX, mkX, dzX, cpX, taX, glX, t1X, spX, dgX, kpX, mlawX, mvX, meX, mlX, mfaX, stX, hvX, pwX, btX, sgX, mlsX, jdX, tdX, dsX, enX, mftX, ldrX, wmX, maX, lwX, lrX, mrX, feX, ngX, trsX, dysX, gnX, t9X, spmX, kpmX, udX, Bool.or_eq_true, Bool.and_eq_true, decide_eq_true_eq, decide_eq_false_iff_not, beq_iff_eq, Bool.or_eq_false_iff, Bool.and_eq_false_iff, beq_eq_false_iff_ne]; omega) (fun r j q => by revert q; simp only [fr_tY, fr_pY, fr_gY, fl_Y, fr_nY, fr_kY, fsC, fsM, lawX, eX, lX, pX, fX, snX, brX, wyX, paX, trX, asX, gdX, lnX, lkX, lpX, lwcX, tyX, jyX, mkX, dzX, cpX, taX, glX, t1X, spX, dgX, kpX, mlawX, mvX, meX, mlX, mfaX, stX, hvX, pwX, btX, sgX, mlsX, jdX, tdX, dsX, enX, mftX, ldrX, wmX, maX, lwX, lrX, mrX, feX, ngX, trsX, dysX, gnX, t9X, spmX, kpmX, udX, Bool.or_eq_true, Bool.and_eq_true, decide_eq_true_eq, decide_eq_false_iff_not, beq_iff_eq, Bool.or_eq_false_iff, Bool.and_eq_false_iff, beq_eq_false_iff_ne]; omega)))⟩, hn, (fr_k_F h.2.2.2 (ff F F2 (Y := fr_kY) (fun r j q => by revert q; simp only [fr_tY, fr_pY, fr_gY, fl_Y, fr_nY, fr_kY, fsC, fsM, lawX, eX, lX, pX, fX, snX, brX, wyX, paX, trX, asX, gdX, lnX, lkX, lpX, lwcX, tyX, jyX, mkX, dzX, cpX, taX, glX, t1X, spX, dgX, kpX, mlawX, mvX, meX, mlX, mfaX, stX, hvX, pwX, btX, sgX, mlsX, jdX, tdX, dsX, enX, mftX, ldrX, wmX, maX, lwX, lrX, mrX, feX, ngX, trsX, dysX, gnX, t9X, spmX, kpmX, udX, Bool.or_eq_true, Bool.and_eq_true, decide_eq_true_eq, decide_eq_false_iff_not, beq_iff_eq, Bool.or_eq_false_iff, Bool.and_eq_false_iff, beq_eq_false_iff_ne]; omega) (fun r j q => by revert q; simp only [fr_tY, fr_pY, fr_gY, fl_Y, fr_nY, fr_kY, fsC, fsM, lawX, eX, lX, pX, fX, snX, brX, wyX, paX, trX, asX, gdX, lnX, lkX, lpX, lwcX, tyX, jyX, mkX, dzX, cpX, taX, glX, t1X, spX, dgX, kpX, mlawX, mvX, meX, mlX, mfaX, stX, hvX, pwX, btX, sgX, mlsX, jdX, tdX, dsX, enX, mftX, ldrX, wmX, maX, lwX, lrX, mrX, feX, ngX, trsX, dysX, gnX, t9X, spmX, kpmX, udX, Bool.or_eq_true, Bool.and_eq_true, decide_eq_true_eq, decide_eq_false_iff_not, beq_iff_eq, Bool.or_eq_false_iff, Bool.and_eq_false_iff, beq_eq_false_iff_ne]; omega)))⟩
  have own : ∀ j : Nat, j < 64 → t2 35 j = t2 64 j := fun j hj => by
    rw [F2 35 j rfl, F2 64 j rfl, F 35 j rfl, F 64 j rfl]
    exact h.2.2.1.2.2 j hj
  by_cases hn : 1 ≤ n ∧ n ≤ 120 ∧ n ≤ t 3 1
  · have hn2 : ml_ntc t1 n := ⟨⟨hn.1, hn.2.1⟩, by omega⟩
    rw [if_pos hn2, if_pos hn2] at q2
    obtain ⟨a1, a2, a3, a4⟩ := rd_lines_s k.tp n
    obtain ⟨g1, g2⟩ := ml_lines_s t1 (n := n) (by omega)
    have base : fs_S 33 (hy_up (rd_lines t n) 3 1 0) (ml_lines t1 n).2 := fs_S_of h.2.2.1.1 (fun r j q => by
      have hr : r ≠ 3 := by revert q; simp only [fsC, Bool.or_eq_true, Bool.and_eq_true, decide_eq_true_eq, decide_eq_false_iff_not, beq_iff_eq, Bool.or_eq_false_iff, Bool.and_eq_false_iff, beq_eq_false_iff_ne]; omega
      rw [hy_up_ne (by omega)]
      exact a2 r j (by revert q; simp only [fsC, lnX, Bool.or_eq_true, Bool.and_eq_true, decide_eq_true_eq, decide_eq_false_iff_not, beq_iff_eq, Bool.or_eq_false_iff, Bool.and_eq_false_iff, beq_eq_false_iff_ne]; omega)) (fun r j q => (g2 r j (by revert q; simp only [fsM, mlsX, Bool.or_eq_true, Bool.and_eq_true, decide_eq_true_eq, decide_eq_false_iff_not, beq_iff_eq, Bool.or_eq_false_iff, Bool.and_eq_false_iff, beq_eq_false_iff_ne]; omega)).trans (F r j (by revert q; simp only [fsM, tyX, lnX, mkX, Bool.or_eq_true, Bool.and_eq_true, decide_eq_true_eq, decide_eq_false_iff_not, beq_iff_eq, Bool.or_eq_false_iff, Bool.and_eq_false_iff, beq_eq_false_iff_ne]; omega)))
    have pal : ∀ x, mf_plain (ml_lines t1 n).2 x = mf_plain t x := fun x => mf_plain_F ((g2 59 0 rfl).trans (F 59 0 rfl)) (fun j => (g2 60 j rfl).trans (F 60 j rfl)) x
    have e62 : ∀ j, (ml_lines t1 n).2 62 j = t 62 j := fun j => (g2 62 j rfl).trans (F 62 j rfl)
    have bh : fh (ml_lines t1 n).2 := fun j hj => by
      rw [pal, e62]
      exact h.2.2.1.2.1.1 j hj
    have bt : ft (ml_lines t1 n).2 := fun i hi => by
      rw [pal, show (ml_lines t1 n).2 85 i = t 85 i from (g2 85 i rfl).trans (F 85 i rfl)]
      rw [show (ml_lines t1 n).2 59 34 = t 59 34 from (g2 59 34 rfl).trans (F 59 34 rfl)] at hi
      exact h.2.2.1.2.1.2 i hi
    have T := tz_lines (t := t) (u := t1) (n := n) (by omega) k.tp.l.2 (fun j hj => by rw [F 65 j rfl]; exact h.1.1.2 j hj) hn
    rcases T with ⟨d1, d2, d3⟩ | ⟨c1, c2, cnt, c3, ⟨c4, c5⟩, c6⟩
    · have ew : wf_tr t n = (rd_lines t n 3 4, hy_up (rd_lines t n) 3 1 0) := by unfold wf_tr; rw [if_pos hn, if_neg d1]
      rw [ew] at q1
      rw [d2, if_neg Bool.false_ne_true, if_neg Bool.false_ne_true] at q2
      refine ⟨by rw [q1.1, q2.1, d3], fin ⟨fs_S_of base (fun r j q => ?_) (fun r j q => by rw [q2.2]), ⟨by rw [q2.2]; exact bh, by rw [q2.2]; exact bt⟩, own⟩⟩
      rw [F2 r j (by revert q; simp only [fsC, trsX, mlsX, stX, Bool.or_eq_true, Bool.and_eq_true, decide_eq_true_eq, decide_eq_false_iff_not, beq_iff_eq, Bool.or_eq_false_iff, Bool.and_eq_false_iff, beq_eq_false_iff_ne]; omega), q1.2]
    · have ew : wf_tr t n = wf_mdN (hy_up (rd_lines t n) 3 1 0) cnt := by unfold wf_tr; rw [if_pos hn, if_pos c1, c4, Int.toNat_natCast]
      rw [ew] at q1
      rw [c2, if_pos rfl, if_pos rfl, c5, Int.toNat_natCast] at q2
      have hp : ∀ x, wf_plain (hy_up (rd_lines t n) 3 1 0) x = mf_plain (ml_lines t1 n).2 x := fun x => by
        rw [pal, ← p3_plain h.1.2.1 x]
        unfold wf_plain
        rw [hy_up_ne (by decide), hy_up_ne (by decide), a2 5 2 rfl, a2 5 3 rfl]
      have htr : tr_ok (ml_lines t1 n).2 := tr_ok_F g2 (fun r j q => by revert q; simp only [stX, mlsX, Bool.or_eq_true, Bool.and_eq_true, decide_eq_true_eq, decide_eq_false_iff_not, beq_iff_eq, Bool.or_eq_false_iff, Bool.and_eq_false_iff, beq_eq_false_iff_ne]; omega) k1.tr
      obtain ⟨m1, m2, m3, m4, m5⟩ := fm_mdN (cnt := cnt) base (fun i hi => c6 i hi) c4 c5 hp g1 htr bh bt cnt (Nat.le_refl _)
      refine ⟨by rw [q1.1, q2.1, m1], fin ⟨fs_S_of m2 (fun r j q => ?_) (fun r j q => by rw [q2.2]), ⟨by rw [q2.2]; exact m4, by rw [q2.2]; exact m5⟩, own⟩⟩
      rw [F2 r j (by revert q; simp only [fsC, trsX, mlsX, stX, Bool.or_eq_true, Bool.and_eq_true, decide_eq_true_eq, decide_eq_false_iff_not, beq_iff_eq, Bool.or_eq_false_iff, Bool.and_eq_false_iff, beq_eq_false_iff_ne]; omega), q1.2]
  · have hn2 : ¬ ml_ntc t1 n := fun q => hn ⟨q.1.1, q.1.2, by have := q.2; omega⟩
    have ew : wf_tr t n = (-1, t) := by unfold wf_tr; rw [if_neg hn]
    rw [ew] at q1
    rw [if_neg hn2, if_neg hn2] at q2
    refine ⟨by rw [q1.1, q2.1], ?_⟩
    rw [q2.2, q1.2]
    exact h
theorem fs_begins (t : hy_T) {T : hy_T} (h : fs_S 33 T t) : fs_S 41 (sp_scopy T 33 41) (mf_begins t) := by
  obtain ⟨⟨⟨s1, s2, s3⟩, s4, s5⟩, s6, s7⟩ := h
  have F := (begins_as t).2
  have c3 : sp_scopy T 33 41 41 3 = T 33 3 := rfl
  refine ⟨⟨⟨by rw [c3, F 59 34 rfl]; exact s1, by rw [c3]; exact s2, by rw [c3]; exact s3⟩, by rw [F 59 2 rfl]; exact s4, by rw [F 59 1 rfl]; exact s5⟩, fun j hj => ?_, fun i w hi hw => ?_⟩
  · rw [F 62 j rfl, ← s6 j hj]
    simp [sp_scopy, hy_up, hy_cp, hj]
  · rw [c3] at hi
    have hw6 : w = 0 ∨ w = 1 ∨ w = 2 ∨ w = 3 ∨ w = 4 ∨ w = 5 := by omega
    rw [F (85 + w) i (by rcases hw6 with rfl | rfl | rfl | rfl | rfl | rfl <;> rfl), ← s7 i w hi hw]
    have : 6 * i + w < 96 := by omega
    simp [sp_scopy, hy_up, hy_cp, this]
theorem fr_jdA {t t1 : hy_T} {n : Int} {r1 r2 : Option Int} (k : cK t) (k1 : mK t1) (h : fr t) (F : hy_F jyX t t1) (q1 : r1 = some (wf_jd t n)) (q2 : r2 = some (if ml_ntc t1 n then (if (ml_lines t1 n).1 = true then ((mk_jd (ml_lines t1 n).2).1 : Int) else (ml_lines t1 n).2 59 12) else -1)) : r2 = r1 := by
  have x9 : t1 59 9 = t 59 9 := F 59 9 rfl
  have h0 : t 3 1 = t 59 9 := h.1.1.1
  rw [q1, q2]
  unfold wf_jd
  by_cases hn : 1 ≤ n ∧ n ≤ 120 ∧ n ≤ t 3 1
  · have hn2 : ml_ntc t1 n := ⟨⟨hn.1, hn.2.1⟩, by omega⟩
    rw [if_pos hn2, if_pos hn]
    obtain ⟨a1, a2, a3, a4⟩ := rd_lines_s k.tp n
    obtain ⟨g1, g2⟩ := ml_lines_s t1 (n := n) (by omega)
    have base : fs_S 33 (hy_up (rd_lines t n) 3 1 0) (ml_lines t1 n).2 := fs_S_of h.2.2.1.1 (fun r j q => by
      have hr : r ≠ 3 := by revert q; simp only [fsC, Bool.or_eq_true, Bool.and_eq_true, decide_eq_true_eq, decide_eq_false_iff_not, beq_iff_eq, Bool.or_eq_false_iff, Bool.and_eq_false_iff, beq_eq_false_iff_ne]; omega
      rw [hy_up_ne (by omega)]
      exact a2 r j (by revert q; simp only [fsC, lnX, Bool.or_eq_true, Bool.and_eq_true, decide_eq_true_eq, decide_eq_false_iff_not, beq_iff_eq, Bool.or_eq_false_iff, Bool.and_eq_false_iff, beq_eq_false_iff_ne]; omega)) (fun r j q => (g2 r j (by revert q; simp only [fsM, mlsX, Bool.or_eq_true, Bool.and_eq_true, decide_eq_true_eq, decide_eq_false_iff_not, beq_iff_eq, Bool.or_eq_false_iff, Bool.and_eq_false_iff, beq_eq_false_iff_ne]; omega)).trans (F r j (by revert q; simp only [fsM, jyX, trX, lnX, mkX, Bool.or_eq_true, Bool.and_eq_true, decide_eq_true_eq, decide_eq_false_iff_not, beq_iff_eq, Bool.or_eq_false_iff, Bool.and_eq_false_iff, beq_eq_false_iff_ne]; omega)))
    have T := tz_lines (t := t) (u := t1) (n := n) (by omega) k.tp.l.2 (fun j hj => by rw [F 65 j rfl]; exact h.1.1.2 j hj) hn
    rcases T with ⟨d1, d2, d3⟩ | ⟨c1, c2, cnt, c3, ⟨c4, c5⟩, c6⟩
    · rw [if_neg d1, d2, if_neg Bool.false_ne_true, d3]
    · rw [if_pos c1, c2, if_pos rfl, c4, Int.toNat_natCast]
      unfold mk_jd
      rw [c5, Int.toNat_natCast]
      have G := (begins_as (ml_lines t1 n).2).2
      have S := sp_scopy41_F (hy_up (rd_lines t n) 3 1 0)
      have htr : tr_ok (ml_lines t1 n).2 := tr_ok_F g2 (fun r j q => by revert q; simp only [stX, mlsX, Bool.or_eq_true, Bool.and_eq_true, decide_eq_true_eq, decide_eq_false_iff_not, beq_iff_eq, Bool.or_eq_false_iff, Bool.and_eq_false_iff, beq_eq_false_iff_ne]; omega) k1.tr
      have e := fj_jdN (cnt := cnt) cnt 0 (fs_begins (ml_lines t1 n).2 base) (fun i hi => tz_r_F (c6 i hi) (show hy_F (fun r j => trX r j || r == 3) (rd_lines t n) _ from ((hy_F.rf (X := fun r j => trX r j || r == 3)).up rfl).tr' (S.w (fun r j q => (Bool.or_eq_false_iff.mp q).1))) G (fun r j x1 x2 => by simp only [trX, Bool.or_eq_true, Bool.and_eq_true, decide_eq_true_eq, decide_eq_false_iff_not, beq_iff_eq, Bool.or_eq_false_iff, Bool.and_eq_false_iff, beq_eq_false_iff_ne]; omega) (fun r j x1 x2 => by simp only [mfaX, Bool.or_eq_true, Bool.and_eq_true, decide_eq_true_eq, decide_eq_false_iff_not, beq_iff_eq, Bool.or_eq_false_iff, Bool.and_eq_false_iff, beq_eq_false_iff_ne]; omega)) ((S 27 6 rfl).trans c4) ((G 59 33 rfl).trans c5) (fun x => ?_) ⟨by rw [G 59 33 rfl]; exact g1.1, fun i hi => ?_⟩ (tr_ok_F G (fun r j q => by revert q; simp only [stX, mfaX, Bool.or_eq_true, Bool.and_eq_true, decide_eq_true_eq, decide_eq_false_iff_not, beq_iff_eq, Bool.or_eq_false_iff, Bool.and_eq_false_iff, beq_eq_false_iff_ne]; omega) htr) (Nat.zero_add _)
      · rw [e]
      · rw [mf_plain_F ((G 59 0 rfl).trans ((g2 59 0 rfl).trans (F 59 0 rfl))) (fun j => (G 60 j rfl).trans ((g2 60 j rfl).trans (F 60 j rfl))), ← p3_plain h.1.2.1 x]
        unfold wf_plain
        rw [S 5 2 rfl, S 5 3 rfl, hy_up_ne (by decide), hy_up_ne (by decide), a2 5 2 rfl, a2 5 3 rfl]
      · rw [G 59 33 rfl] at hi
        have q := g1.2 i hi
        unfold ml_row at q ⊢
        rw [G 80 i rfl, G 81 i rfl, G 82 i rfl, G 83 i rfl, G 84 i rfl]
        exact q
  · have hn2 : ¬ ml_ntc t1 n := fun q => hn ⟨q.1.1, q.1.2, by have := q.2; omega⟩
    rw [if_neg hn2, if_neg hn]
/-! days -/
theorem fd_law {X : Nat → Nat → Bool} {t t1 : hy_T} (h : fl_law t) (m : mK t) (F : hy_F X t t1) (hX : ∀ r j, mlawX r j = true → X r j = false) : fd_L t t1 := fun V V' hV => by
  rw [mb_amt_F F hX]
  exact fl_amt h m.ml hV (.inl rfl) (by decide)
theorem md_sumT : ∀ (n : Nat) {t : hy_T} (i : Nat), md_ok t → md_turnN n t i 59 58 + md_turnN n t i 59 34 = t 59 58 + t 59 34
  | 0, t, i, h => rfl
  | n + 1, t, i, h => by
    obtain ⟨h1, h2, h3⟩ := id h
    obtain ⟨x1, x2⟩ := md_x_s h1
    have e58 : md_x t 59 58 = t 59 58 := by simp [md_x, hy_up]
    have e34 : md_x t 59 34 = t 59 34 := by simp [md_x, hy_up]
    have hx : md_ok (md_x t) := ⟨x1, by rw [e58]; exact h2, by rw [e58, e34]; exact h3⟩
    have hc := h1.1
    simp only [md_turnN]
    split
    · next hi =>
      split
      · obtain ⟨m1, m2, m3, m4⟩ := me_end_s x1 (i := i) (by rw [e34]; exact hi) ⟨by rw [e58]; exact h2, by rw [e58]; omega⟩
        rw [md_sumT n i ⟨m2, by omega, by omega⟩, m3, m4, e58, e34]
        omega
      · rw [md_sumT n (i + 1) hx, e58, e34]
    · rfl
theorem md_sumD : ∀ (n : Nat) {t : hy_T}, md_ok t → md_daysN n t 59 58 + md_daysN n t 59 34 = t 59 58 + t 59 34
  | 0, t, h => rfl
  | n + 1, t, h => by
    simp only [md_daysN]
    split
    · next hd =>
      rw [md_sumD n (md_day_s h hd).1]
      have e : ∀ j, j ≠ 2 → md_day t 59 j = md_turnN 17 t 0 59 j := fun j hj => by
        unfold md_day
        simp [hy_up, hj]
      rw [e 58 (by decide), e 34 (by decide)]
      exact md_sumT 17 0 h
    · rfl
theorem md_sum {t : hy_T} (ht : tr_ok t) (n : Int) : md_days t n 59 58 + md_days t n 59 34 = t 59 34 := by
  unfold md_days
  rw [md_sumD _ (md_t0_s ht).1]
  simp [md_t0, hy_up]
theorem fr_days {t t1 t2 : hy_T} {n : Int} {r1 r2 : Option Int} (k : cK t) (m : mK t) (h : fr t) (F : hy_F dgX t t1) (F2 : hy_F dysX t1 t2) (q1 : if 1 ≤ n ∧ n ≤ 99 then r1 = some (t 33 3 - sp_days 33 t n 33 3) ∧ hy_F eX (sp_days 33 t n) t1 else r1 = some (-1) ∧ t1 = t) (q2 : r2 = some (if 1 ≤ n ∧ n ≤ 99 then md_days t1 n 59 58 else -1) ∧ hy_F mvX (if 1 ≤ n ∧ n ≤ 99 then md_days t1 n else t1) t2) : r2 = r1 ∧ fr t2 := by
  obtain ⟨q2, q3⟩ := q2
  have fin : fr_n t2 → fr t2 := fun hn => ⟨⟨(fr_t_F h.1.1 (ff F F2 (Y := fr_tY) (fun r j q => by revert q; simp only [fr_tY, fr_pY, fr_gY, fl_Y, fr_nY, fr_kY, fsC, fsM, lawX, eX, lX, pX, fX, snX, brX, wyX, paX, trX, asX, gdX, lnX, lkX, lpX, lwcX, tyX, jyX, mkX, dzX, cpX, taX, glX, t1X, spX, dgX, kpX, mlawX, mvX, meX, mlX, mfaX, stX, hvX, pwX, btX, sgX, mlsX, jdX, tdX, dsX, enX, mftX, ldrX, wmX, maX, lwX, lrX, mrX, feX, ngX, trsX, dysX, gnX, t9X, spmX, kpmX, udX, Bool.or_eq_true, Bool.and_eq_true, decide_eq_true_eq, decide_eq_false_iff_not, beq_iff_eq, Bool.or_eq_false_iff, Bool.and_eq_false_iff, beq_eq_false_iff_ne]; omega) (fun r j q => by revert q; simp only [fr_tY, fr_pY, fr_gY, fl_Y, fr_nY, fr_kY, fsC, fsM, lawX, eX, lX, pX, fX, snX, brX, wyX, paX, trX, asX, gdX, lnX, lkX, lpX, lwcX, tyX, jyX, mkX, dzX, cpX, taX, glX, t1X, spX, dgX, kpX, mlawX, mvX, meX, mlX, mfaX, stX, hvX, pwX, btX, sgX, mlsX, jdX, tdX, dsX, enX, mftX, ldrX, wmX, maX, lwX, lrX, mrX, feX, ngX, trsX, dysX, gnX, t9X, spmX, kpmX, udX, Bool.or_eq_true, Bool.and_eq_true, decide_eq_true_eq, decide_eq_false_iff_not, beq_iff_eq, Bool.or_eq_false_iff, Bool.and_eq_false_iff, beq_eq_false_iff_ne]; omega))), (fr_p_F h.1.2 (ff F F2 (Y := fr_pY) (fun r j q => by revert q; simp only [fr_tY, fr_pY, fr_gY, fl_Y, fr_nY, fr_kY, fsC, fsM, lawX, eX, lX, pX, fX, snX, brX, wyX, paX, trX, asX, gdX, lnX, lkX, lpX, lwcX, tyX, jyX, mkX, dzX, cpX, taX, glX, t1X, spX, dgX, kpX, mlawX, mvX, meX, mlX, mfaX, stX, hvX, pwX, btX, sgX, mlsX, jdX, tdX, dsX, enX, mftX, ldrX, wmX, maX, lwX, lrX, mrX, feX, ngX, trsX, dysX, gnX, t9X, spmX, kpmX, udX, Bool.or_eq_true, Bool.and_eq_true, decide_eq_true_eq, decide_eq_false_iff_not, beq_iff_eq, Bool.or_eq_false_iff, Bool.and_eq_false_iff, beq_eq_false_iff_ne]; omega) (fun r j q => by revert q; simp only [fr_tY, fr_pY, fr_gY, fl_Y, fr_nY, fr_kY, fsC, fsM, lawX, eX, lX, pX, fX, snX, brX, wyX, paX, trX, asX, gdX, lnX, lkX, lpX, lwcX, tyX, jyX, mkX, dzX, cpX, taX, glX, t1X, spX, dgX, kpX, mlawX, mvX, meX, mlX, mfaX, stX, hvX, pwX, btX, sgX, mlsX, jdX, tdX, dsX, enX, mftX, ldrX, wmX, maX, lwX, lrX, mrX, feX, ngX, trsX, dysX, gnX, t9X, spmX, kpmX, udX, Bool.or_eq_true, Bool.and_eq_true, decide_eq_true_eq, decide_eq_false_iff_not, beq_iff_eq, Bool.or_eq_false_iff, Bool.and_eq_false_iff, beq_eq_false_iff_ne]; omega)))⟩, ⟨(fr_g_F h.2.1.1 (ff F F2 (Y := fr_gY) (fun r j q => by revert q; simp only [fr_tY, fr_pY, fr_gY, fl_Y, fr_nY, fr_kY, fsC, fsM, lawX, eX, lX, pX, fX, snX, brX, wyX, paX, trX, asX, gdX, lnX, lkX, lpX, lwcX, tyX, jyX, mkX, dzX, cpX, taX, glX, t1X, spX, dgX, kpX, mlawX, mvX, meX, mlX, mfaX, stX, hvX, pwX, btX, sgX, mlsX, jdX, tdX, dsX, enX, mftX, ldrX, wmX, maX, lwX, lrX, mrX, feX, ngX, trsX, dysX, gnX, t9X, spmX, kpmX, udX, Bool.or_eq_true, Bool.and_eq_true, decide_eq_true_eq, decide_eq_false_iff_not, beq_iff_eq, Bool.or_eq_false_iff, Bool.and_eq_false_iff, beq_eq_false_iff_ne]; omega) (fun r j q => by revert q; simp only [fr_tY, fr_pY, fr_gY, fl_Y, fr_nY, fr_kY, fsC, fsM, lawX, eX, lX, pX, fX, snX, brX, wyX, paX, trX, asX, gdX, lnX, lkX, lpX, lwcX, tyX, jyX, mkX, dzX, cpX, taX, glX, t1X, spX, dgX, kpX, mlawX, mvX, meX, mlX, mfaX, stX, hvX, pwX, btX, sgX, mlsX, jdX, tdX, dsX, enX, mftX, ldrX, wmX, maX, lwX, lrX, mrX, feX, ngX, trsX, dysX, gnX, t9X, spmX, kpmX, udX, Bool.or_eq_true, Bool.and_eq_true, decide_eq_true_eq, decide_eq_false_iff_not, beq_iff_eq, Bool.or_eq_false_iff, Bool.and_eq_false_iff, beq_eq_false_iff_ne]; omega))), (fl_law_F h.2.1.2 (ff F F2 (Y := fl_Y) (fun r j q => by revert q; simp only [fr_tY, fr_pY, fr_gY, fl_Y, fr_nY, fr_kY, fsC, fsM, lawX, eX, lX, pX, fX, snX, brX, wyX, paX, trX, asX, gdX, lnX, lkX, lpX, lwcX, tyX, jyX, mkX, dzX, cpX, taX, glX, t1X, spX, dgX, kpX, mlawX, mvX, meX, mlX, mfaX, stX, hvX, pwX, btX, sgX, mlsX, jdX, tdX, dsX, enX, mftX, ldrX, wmX, maX, lwX, lrX, mrX, feX, ngX, trsX, dysX, gnX, t9X, spmX, kpmX, udX, Bool.or_eq_true, Bool.and_eq_true, decide_eq_true_eq, decide_eq_false_iff_not, beq_iff_eq, Bool.or_eq_false_iff, Bool.and_eq_false_iff, beq_eq_false_iff_ne]; omega) (fun r j q => by revert q; simp only [fr_tY, fr_pY, fr_gY, fl_Y, fr_nY, fr_kY, fsC, fsM, lawX, eX, lX, pX, fX, snX, brX, wyX, paX, trX, asX, gdX, lnX, lkX, lpX, lwcX, tyX, jyX, mkX, dzX, cpX, taX, glX, t1X, spX, dgX, kpX, mlawX, mvX, meX, mlX, mfaX, stX, hvX, pwX, btX, sgX, mlsX, jdX, tdX, dsX, enX, mftX, ldrX, wmX, maX, lwX, lrX, mrX, feX, ngX, trsX, dysX, gnX, t9X, spmX, kpmX, udX, Bool.or_eq_true, Bool.and_eq_true, decide_eq_true_eq, decide_eq_false_iff_not, beq_iff_eq, Bool.or_eq_false_iff, Bool.and_eq_false_iff, beq_eq_false_iff_ne]; omega)))⟩, hn, (fr_k_F h.2.2.2 (ff F F2 (Y := fr_kY) (fun r j q => by revert q; simp only [fr_tY, fr_pY, fr_gY, fl_Y, fr_nY, fr_kY, fsC, fsM, lawX, eX, lX, pX, fX, snX, brX, wyX, paX, trX, asX, gdX, lnX, lkX, lpX, lwcX, tyX, jyX, mkX, dzX, cpX, taX, glX, t1X, spX, dgX, kpX, mlawX, mvX, meX, mlX, mfaX, stX, hvX, pwX, btX, sgX, mlsX, jdX, tdX, dsX, enX, mftX, ldrX, wmX, maX, lwX, lrX, mrX, feX, ngX, trsX, dysX, gnX, t9X, spmX, kpmX, udX, Bool.or_eq_true, Bool.and_eq_true, decide_eq_true_eq, decide_eq_false_iff_not, beq_iff_eq, Bool.or_eq_false_iff, Bool.and_eq_false_iff, beq_eq_false_iff_ne]; omega) (fun r j q => by revert q; simp only [fr_tY, fr_pY, fr_gY, fl_Y, fr_nY, fr_kY, fsC, fsM, lawX, eX, lX, pX, fX, snX, brX, wyX, paX, trX, asX, gdX, lnX, lkX, lpX, lwcX, tyX, jyX, mkX, dzX, cpX, taX, glX, t1X, spX, dgX, kpX, mlawX, mvX, meX, mlX, mfaX, stX, hvX, pwX, btX, sgX, mlsX, jdX, tdX, dsX, enX, mftX, ldrX, wmX, maX, lwX, lrX, mrX, feX, ngX, trsX, dysX, gnX, t9X, spmX, kpmX, udX, Bool.or_eq_true, Bool.and_eq_true, decide_eq_true_eq, decide_eq_false_iff_not, beq_iff_eq, Bool.or_eq_false_iff, Bool.and_eq_false_iff, beq_eq_false_iff_ne]; omega)))⟩
  have own : ∀ j : Nat, j < 64 → t2 35 j = t2 64 j := fun j hj => by
    rw [F2 35 j rfl, F2 64 j rfl, F 35 j rfl, F 64 j rfl]
    exact h.2.2.1.2.2 j hj
  by_cases hn : 1 ≤ n ∧ n ≤ 99
  · rw [if_pos hn] at q1 q2 q3
    obtain ⟨q1, q4⟩ := q1
    have hF : hy_F dgX t t1 := F
    have tr1 : tr_ok t1 := tr_ok_F F (fun r j q => by revert q; simp only [stX, dgX, dzX, eX, Bool.or_eq_true, Bool.and_eq_true, decide_eq_true_eq, decide_eq_false_iff_not, beq_iff_eq, Bool.or_eq_false_iff, Bool.and_eq_false_iff, beq_eq_false_iff_ne]; omega) m.tr
    have s0 : fs_S 33 t t1 := fs_S_of h.2.2.1.1 (fun _ _ _ => rfl) (fun r j q => F r j (by revert q; simp only [fsM, dgX, dzX, eX, Bool.or_eq_true, Bool.and_eq_true, decide_eq_true_eq, decide_eq_false_iff_not, beq_iff_eq, Bool.or_eq_false_iff, Bool.and_eq_false_iff, beq_eq_false_iff_ne]; omega))
    have pal : ∀ x, mf_plain t1 x = mf_plain t x := fun x => mf_plain_F (F 59 0 rfl) (fun j => F 60 j rfl) x
    have h0 : fh t1 := fun j hj => by rw [pal, F 62 j rfl]; exact h.2.2.1.2.1.1 j hj
    have f0 : ft t1 := fun i hi => by
      rw [pal, F 85 i rfl]
      rw [F 59 34 rfl] at hi
      exact h.2.2.1.2.1.2 i hi
    obtain ⟨⟨s1, -⟩, -, h1, f1⟩ := fd_days (.inl rfl) s0 tr1 (fd_law h.2.1.2 m F (fun r j q => by revert q; simp only [mlawX, dgX, dzX, eX, Bool.or_eq_true, Bool.and_eq_true, decide_eq_true_eq, decide_eq_false_iff_not, beq_iff_eq, Bool.or_eq_false_iff, Bool.and_eq_false_iff, beq_eq_false_iff_ne]; omega)) h0 f0 n
    have e34 := md_sum tr1 n
    have x34 : t1 59 34 = t 59 34 := F 59 34 rfl
    have c3 := s1.1.1.1
    have z34 : t 33 3 = t 59 34 := h.2.2.1.1.1.1.1
    have pal2 : ∀ x, mf_plain t2 x = mf_plain (md_days t1 n) x := fun x => mf_plain_F (q3 59 0 rfl) (fun j => q3 60 j rfl) x
    refine ⟨by rw [q1, q2]; congr 1; omega, fin ⟨fs_S_of s1 (fun r j q => ?_) (fun r j q => q3 r j (by revert q; simp only [fsM, mvX, Bool.or_eq_true, Bool.and_eq_true, decide_eq_true_eq, decide_eq_false_iff_not, beq_iff_eq, Bool.or_eq_false_iff, Bool.and_eq_false_iff, beq_eq_false_iff_ne]; omega)), ⟨fun j hj => by rw [pal2, q3 62 j rfl]; exact h1 j hj, fun i hi => ?_⟩, own⟩⟩
    · rw [F2 r j (by revert q; simp only [fsC, dysX, dsX, enX, hvX, mftX, mvX, Bool.or_eq_true, Bool.and_eq_true, decide_eq_true_eq, decide_eq_false_iff_not, beq_iff_eq, Bool.or_eq_false_iff, Bool.and_eq_false_iff, beq_eq_false_iff_ne]; omega)]
      exact q4 r j (by revert q; simp only [fsC, eX, Bool.or_eq_true, Bool.and_eq_true, decide_eq_true_eq, decide_eq_false_iff_not, beq_iff_eq, Bool.or_eq_false_iff, Bool.and_eq_false_iff, beq_eq_false_iff_ne]; omega)
    · rw [q3 59 34 rfl] at hi
      rw [pal2, q3 85 i rfl]
      exact f1 i hi
  · rw [if_neg hn] at q1 q2 q3
    obtain ⟨q1, q4⟩ := q1
    refine ⟨by rw [q1, q2], fin (fr_n_F h.2.2.1 (fun r j q => ?_))⟩
    rw [q3 r j (by revert q; simp only [fr_nY, fsC, fsM, mvX, Bool.or_eq_true, Bool.and_eq_true, decide_eq_true_eq, decide_eq_false_iff_not, beq_iff_eq, Bool.or_eq_false_iff, Bool.and_eq_false_iff, beq_eq_false_iff_ne]; omega), q4]
/-! gain: what was added is taken away again -/
theorem gn_bit : ∀ x : Fin 64, ∀ e : Fin 6, hz_b (x.val : Int) (e.val : Int) = false → hz_iand (hz_ior (x.val : Int) (hz_ishl 1 (e.val : Int))) (hz_ixor (hz_ishl 1 (e.val : Int)) (-1)) = (x.val : Int) := by decide +kernel
theorem gn_bit' {x e : Int} (h : 0 ≤ x ∧ x ≤ 63) (he : 0 ≤ e ∧ e < 6) (hb : hz_b x e = false) : hz_iand (hz_ior x (hz_ishl 1 e)) (hz_ixor (hz_ishl 1 e) (-1)) = x := by
  have := gn_bit ⟨x.toNat, by omega⟩ ⟨e.toNat, by omega⟩
  dsimp only at this
  rw [show ((x.toNat : Nat) : Int) = x by omega, show ((e.toNat : Nat) : Int) = e by omega] at this
  exact this hb
theorem gn_q : ∀ q k : Fin 4, hz_b (hz_ishl 1 (q.val : Int)) (k.val : Int) = true → q = k := by decide
theorem fr_gain {t t1 t2 : hy_T} {e c q : Int} (h : fr t) (F : hy_F pX t t1) (F2 : hy_F gnX t1 t2) (q2 : hy_F mvX (if ((0 ≤ e ∧ e < 6) ∧ mf_plain t1 c = true ∧ 0 ≤ q ∧ q < 4) ∧ hz_b (t1 62 (4 * c + q).toNat) e = false then mf_chN (mf_chN t1 c (hz_ishl 1 q) e 1 4) c (hz_ishl 1 q) e 0 4 else t1) t2) : fr t2 := by
  have e62 : ∀ j : Nat, j < 48 → t2 62 j = t 62 j := fun j hj => by
    rw [q2 62 j rfl]
    split
    · next hc =>
      obtain ⟨⟨he, hp, hq⟩, hb⟩ := hc
      have hc12 : 0 ≤ c ∧ c < 12 := by
        unfold mf_plain at hp
        rw [Bool.and_eq_true] at hp
        exact sp_told_in hp.1
      rw [ch_v _ hc12 4 j, ch_v _ hc12 4 j, if_pos rfl, if_neg (show ¬ (1 : Int) = 0 by decide), F 62 j rfl]
      by_cases hf : fs_in c (hz_ishl 1 q) 4 j
      · rw [if_pos hf, if_pos hf]
        have hk := gn_q ⟨q.toNat, by omega⟩ ⟨((j : Int) - 4 * c).toNat, by have := hf.1; omega⟩
        dsimp only at hk
        rw [show ((q.toNat : Nat) : Int) = q by omega, show ((((j : Int) - 4 * c).toNat : Nat) : Int) = (j : Int) - 4 * c by have := hf.1; omega] at hk
        have hk2 := congrArg Fin.val (hk hf.2)
        dsimp only at hk2
        have ej : (4 * c + q).toNat = j := by have := hf.1; omega
        rw [ej, F 62 j rfl] at hb
        exact gn_bit' (h.2.2.1.2.1.1 j hj).1 he hb
      · rw [if_neg hf, if_neg hf]
    · exact F 62 j rfl
  have oth : ∀ r j, fr_Y r j = true → r ≠ 62 → t2 r j = t r j := fun r j hY hr => (F2 r j (by revert hY; simp only [fr_Y, fr_tY, fr_pY, fr_gY, fl_Y, fr_nY, fr_kY, fsC, fsM, lawX, mlawX, gnX, hvX, mvX, Bool.or_eq_true, Bool.and_eq_true, decide_eq_true_eq, decide_eq_false_iff_not, beq_iff_eq, Bool.or_eq_false_iff, Bool.and_eq_false_iff, beq_eq_false_iff_ne]; omega)).trans (F r j (by revert hY; simp only [fr_Y, fr_tY, fr_pY, fr_gY, fl_Y, fr_nY, fr_kY, fsC, fsM, lawX, mlawX, pX, Bool.or_eq_true, Bool.and_eq_true, decide_eq_true_eq, decide_eq_false_iff_not, beq_iff_eq, Bool.or_eq_false_iff, Bool.and_eq_false_iff, beq_eq_false_iff_ne]; omega))
  have n0 : t2 59 0 = t 59 0 := oth 59 0 rfl (by decide)
  have n60 : ∀ j, t2 60 j = t 60 j := fun j => oth 60 j rfl (by decide)
  refine ⟨⟨(fr_t_F h.1.1 (ff F F2 (Y := fr_tY) (fun r j q => by revert q; simp only [fr_tY, fr_pY, fr_gY, fl_Y, fr_nY, fr_kY, fsC, fsM, lawX, eX, lX, pX, fX, snX, brX, wyX, paX, trX, asX, gdX, lnX, lkX, lpX, lwcX, tyX, jyX, mkX, dzX, cpX, taX, glX, t1X, spX, dgX, kpX, mlawX, mvX, meX, mlX, mfaX, stX, hvX, pwX, btX, sgX, mlsX, jdX, tdX, dsX, enX, mftX, ldrX, wmX, maX, lwX, lrX, mrX, feX, ngX, trsX, dysX, gnX, t9X, spmX, kpmX, udX, Bool.or_eq_true, Bool.and_eq_true, decide_eq_true_eq, decide_eq_false_iff_not, beq_iff_eq, Bool.or_eq_false_iff, Bool.and_eq_false_iff, beq_eq_false_iff_ne]; omega) (fun r j q => by revert q; simp only [fr_tY, fr_pY, fr_gY, fl_Y, fr_nY, fr_kY, fsC, fsM, lawX, eX, lX, pX, fX, snX, brX, wyX, paX, trX, asX, gdX, lnX, lkX, lpX, lwcX, tyX, jyX, mkX, dzX, cpX, taX, glX, t1X, spX, dgX, kpX, mlawX, mvX, meX, mlX, mfaX, stX, hvX, pwX, btX, sgX, mlsX, jdX, tdX, dsX, enX, mftX, ldrX, wmX, maX, lwX, lrX, mrX, feX, ngX, trsX, dysX, gnX, t9X, spmX, kpmX, udX, Bool.or_eq_true, Bool.and_eq_true, decide_eq_true_eq, decide_eq_false_iff_not, beq_iff_eq, Bool.or_eq_false_iff, Bool.and_eq_false_iff, beq_eq_false_iff_ne]; omega))), (fr_p_F h.1.2 (ff F F2 (Y := fr_pY) (fun r j q => by revert q; simp only [fr_tY, fr_pY, fr_gY, fl_Y, fr_nY, fr_kY, fsC, fsM, lawX, eX, lX, pX, fX, snX, brX, wyX, paX, trX, asX, gdX, lnX, lkX, lpX, lwcX, tyX, jyX, mkX, dzX, cpX, taX, glX, t1X, spX, dgX, kpX, mlawX, mvX, meX, mlX, mfaX, stX, hvX, pwX, btX, sgX, mlsX, jdX, tdX, dsX, enX, mftX, ldrX, wmX, maX, lwX, lrX, mrX, feX, ngX, trsX, dysX, gnX, t9X, spmX, kpmX, udX, Bool.or_eq_true, Bool.and_eq_true, decide_eq_true_eq, decide_eq_false_iff_not, beq_iff_eq, Bool.or_eq_false_iff, Bool.and_eq_false_iff, beq_eq_false_iff_ne]; omega) (fun r j q => by revert q; simp only [fr_tY, fr_pY, fr_gY, fl_Y, fr_nY, fr_kY, fsC, fsM, lawX, eX, lX, pX, fX, snX, brX, wyX, paX, trX, asX, gdX, lnX, lkX, lpX, lwcX, tyX, jyX, mkX, dzX, cpX, taX, glX, t1X, spX, dgX, kpX, mlawX, mvX, meX, mlX, mfaX, stX, hvX, pwX, btX, sgX, mlsX, jdX, tdX, dsX, enX, mftX, ldrX, wmX, maX, lwX, lrX, mrX, feX, ngX, trsX, dysX, gnX, t9X, spmX, kpmX, udX, Bool.or_eq_true, Bool.and_eq_true, decide_eq_true_eq, decide_eq_false_iff_not, beq_iff_eq, Bool.or_eq_false_iff, Bool.and_eq_false_iff, beq_eq_false_iff_ne]; omega)))⟩, ⟨(fr_g_F h.2.1.1 (ff F F2 (Y := fr_gY) (fun r j q => by revert q; simp only [fr_tY, fr_pY, fr_gY, fl_Y, fr_nY, fr_kY, fsC, fsM, lawX, eX, lX, pX, fX, snX, brX, wyX, paX, trX, asX, gdX, lnX, lkX, lpX, lwcX, tyX, jyX, mkX, dzX, cpX, taX, glX, t1X, spX, dgX, kpX, mlawX, mvX, meX, mlX, mfaX, stX, hvX, pwX, btX, sgX, mlsX, jdX, tdX, dsX, enX, mftX, ldrX, wmX, maX, lwX, lrX, mrX, feX, ngX, trsX, dysX, gnX, t9X, spmX, kpmX, udX, Bool.or_eq_true, Bool.and_eq_true, decide_eq_true_eq, decide_eq_false_iff_not, beq_iff_eq, Bool.or_eq_false_iff, Bool.and_eq_false_iff, beq_eq_false_iff_ne]; omega) (fun r j q => by revert q; simp only [fr_tY, fr_pY, fr_gY, fl_Y, fr_nY, fr_kY, fsC, fsM, lawX, eX, lX, pX, fX, snX, brX, wyX, paX, trX, asX, gdX, lnX, lkX, lpX, lwcX, tyX, jyX, mkX, dzX, cpX, taX, glX, t1X, spX, dgX, kpX, mlawX, mvX, meX, mlX, mfaX, stX, hvX, pwX, btX, sgX, mlsX, jdX, tdX, dsX, enX, mftX, ldrX, wmX, maX, lwX, lrX, mrX, feX, ngX, trsX, dysX, gnX, t9X, spmX, kpmX, udX, Bool.or_eq_true, Bool.and_eq_true, decide_eq_true_eq, decide_eq_false_iff_not, beq_iff_eq, Bool.or_eq_false_iff, Bool.and_eq_false_iff, beq_eq_false_iff_ne]; omega))), (fl_law_F h.2.1.2 (ff F F2 (Y := fl_Y) (fun r j q => by revert q; simp only [fr_tY, fr_pY, fr_gY, fl_Y, fr_nY, fr_kY, fsC, fsM, lawX, eX, lX, pX, fX, snX, brX, wyX, paX, trX, asX, gdX, lnX, lkX, lpX, lwcX, tyX, jyX, mkX, dzX, cpX, taX, glX, t1X, spX, dgX, kpX, mlawX, mvX, meX, mlX, mfaX, stX, hvX, pwX, btX, sgX, mlsX, jdX, tdX, dsX, enX, mftX, ldrX, wmX, maX, lwX, lrX, mrX, feX, ngX, trsX, dysX, gnX, t9X, spmX, kpmX, udX, Bool.or_eq_true, Bool.and_eq_true, decide_eq_true_eq, decide_eq_false_iff_not, beq_iff_eq, Bool.or_eq_false_iff, Bool.and_eq_false_iff, beq_eq_false_iff_ne]; omega) (fun r j q => by revert q; simp only [fr_tY, fr_pY, fr_gY, fl_Y, fr_nY, fr_kY, fsC, fsM, lawX, eX, lX, pX, fX, snX, brX, wyX, paX, trX, asX, gdX, lnX, lkX, lpX, lwcX, tyX, jyX, mkX, dzX, cpX, taX, glX, t1X, spX, dgX, kpX, mlawX, mvX, meX, mlX, mfaX, stX, hvX, pwX, btX, sgX, mlsX, jdX, tdX, dsX, enX, mftX, ldrX, wmX, maX, lwX, lrX, mrX, feX, ngX, trsX, dysX, gnX, t9X, spmX, kpmX, udX, Bool.or_eq_true, Bool.and_eq_true, decide_eq_true_eq, decide_eq_false_iff_not, beq_iff_eq, Bool.or_eq_false_iff, Bool.and_eq_false_iff, beq_eq_false_iff_ne]; omega)))⟩, ⟨?_, ⟨fun j hj => by rw [mf_plain_F n0 n60, e62 j hj]; exact h.2.2.1.2.1.1 j hj, ft_F h.2.2.1.2.1.2 (oth 59 34 rfl (by decide)) (fun j => oth 85 j rfl (by decide)) n0 n60⟩, fun j hj => ?_⟩, (fr_k_F h.2.2.2 (ff F F2 (Y := fr_kY) (fun r j q => by revert q; simp only [fr_tY, fr_pY, fr_gY, fl_Y, fr_nY, fr_kY, fsC, fsM, lawX, eX, lX, pX, fX, snX, brX, wyX, paX, trX, asX, gdX, lnX, lkX, lpX, lwcX, tyX, jyX, mkX, dzX, cpX, taX, glX, t1X, spX, dgX, kpX, mlawX, mvX, meX, mlX, mfaX, stX, hvX, pwX, btX, sgX, mlsX, jdX, tdX, dsX, enX, mftX, ldrX, wmX, maX, lwX, lrX, mrX, feX, ngX, trsX, dysX, gnX, t9X, spmX, kpmX, udX, Bool.or_eq_true, Bool.and_eq_true, decide_eq_true_eq, decide_eq_false_iff_not, beq_iff_eq, Bool.or_eq_false_iff, Bool.and_eq_false_iff, beq_eq_false_iff_ne]; omega) (fun r j q => by revert q; simp only [fr_tY, fr_pY, fr_gY, fl_Y, fr_nY, fr_kY, fsC, fsM, lawX, eX, lX, pX, fX, snX, brX, wyX, paX, trX, asX, gdX, lnX, lkX, lpX, lwcX, tyX, jyX, mkX, dzX, cpX, taX, glX, t1X, spX, dgX, kpX, mlawX, mvX, meX, mlX, mfaX, stX, hvX, pwX, btX, sgX, mlsX, jdX, tdX, dsX, enX, mftX, ldrX, wmX, maX, lwX, lrX, mrX, feX, ngX, trsX, dysX, gnX, t9X, spmX, kpmX, udX, Bool.or_eq_true, Bool.and_eq_true, decide_eq_true_eq, decide_eq_false_iff_not, beq_iff_eq, Bool.or_eq_false_iff, Bool.and_eq_false_iff, beq_eq_false_iff_ne]; omega)))⟩
  · obtain ⟨⟨⟨s1, s2, s3⟩, s4, s5⟩, s6, s7⟩ := h.2.2.1.1
    have c3 : t2 33 3 = t 33 3 := oth 33 3 rfl (by decide)
    refine ⟨⟨⟨by rw [c3, oth 59 34 rfl (by decide)]; exact s1, by rw [c3]; exact s2, by rw [c3]; exact s3⟩, by rw [oth 33 4 rfl (by decide), oth 59 2 rfl (by decide)]; exact s4, by rw [oth 33 5 rfl (by decide), oth 59 1 rfl (by decide)]; exact s5⟩, fun j hj => ?_, fun i w hi hw => ?_⟩
    · show t2 34 j = _
      rw [oth 34 j rfl (by decide), e62 j hj]
      exact s6 j hj
    · rw [c3] at hi
      have hw6 : w = 0 ∨ w = 1 ∨ w = 2 ∨ w = 3 ∨ w = 4 ∨ w = 5 := by omega
      show t2 36 _ = _
      rw [oth 36 _ rfl (by decide), oth (85 + w) i (by rcases hw6 with rfl | rfl | rfl | rfl | rfl | rfl <;> rfl) (by omega)]
      exact s7 i w hi hw
  · rw [oth 35 j rfl (by decide), oth 64 j rfl (by decide)]
    exact h.2.2.1.2.2 j hj
/-! answers: bits, what is seen, as what it appears, what it is worth -/
theorem fz_shl0 (k : Int) : hz_ishl 0 k = 0 := by
  unfold hz_ishl
  rw [show Int32.ofInt 0 = 0 from rfl, Int32.zero_shiftLeft]
  rfl
theorem fz_or0 {x : Int} (h : 0 ≤ x ∧ x ≤ 2147483647) : hz_ior x 0 = x := by
  rw [hz_ior_n h (by decide)]
  simp
  omega
/-- two sets of the twelve colours with the same bits are one -/
theorem bits_ext {x y : Int} (hx : 0 ≤ x ∧ x ≤ 4095) (hy : 0 ≤ y ∧ y ≤ 4095) (h : ∀ j : Nat, j < 12 → hz_b x j = hz_b y j) : x = y := by
  have e : x.toNat = y.toNat := by
    apply Nat.eq_of_testBit_eq
    intro j
    by_cases hj : j < 12
    · have := h j hj
      rw [hz_b_n (by omega) (by omega), hz_b_n (by omega) (by omega), Int.toNat_natCast] at this
      exact this
    · have p : 2 ^ 12 ≤ 2 ^ j := Nat.pow_le_pow_right (by decide) (by omega)
      rw [Nat.testBit_lt_two_pow (by omega), Nat.testBit_lt_two_pow (by omega)]
  omega
/-- a set that may get one more -/
theorem bit_may {w : Int} (hw : 0 ≤ w ∧ w ≤ 4095) {c : Nat} (hc : c < 12) (p : Bool) : (0 ≤ hz_ior w (hz_ishl (hy_b p) c) ∧ hz_ior w (hz_ishl (hy_b p) c) ≤ 4095) ∧ ∀ j : Nat, j < 12 → hz_b (hz_ior w (hz_ishl (hy_b p) c)) j = (hz_b w j || (decide (c = j) && p)) := by
  cases p with
  | true =>
    have := bit_set hw (c := (c : Int)) (by omega)
    rw [Int.toNat_natCast] at this
    refine ⟨this.1, fun j hj => ?_⟩
    rw [Bool.and_true]
    exact this.2 j hj
  | false =>
    rw [show hy_b false = 0 from rfl, fz_shl0, fz_or0 (by omega)]
    refine ⟨hw, fun j hj => ?_⟩
    rw [Bool.and_false, Bool.or_false]
theorem had_bits (hv : Nat → Int) (e q : Int) : ∀ n : Nat, n ≤ 12 → (0 ≤ sp_hadN hv e q n ∧ sp_hadN hv e q n ≤ 4095) ∧ ∀ j : Nat, j < 12 → hz_b (sp_hadN hv e q n) j = (decide (j < n) && hz_b (sp_hav hv j q) e)
  | 0, _ => ⟨by simp [sp_hadN], fun j hj => by
    show hz_b 0 j = _
    rw [hz_b_0, decide_eq_false (by omega), Bool.false_and]⟩
  | n + 1, hn => by
    obtain ⟨a1, a2⟩ := had_bits hv e q n (by omega)
    obtain ⟨b1, b2⟩ := bit_may a1 (c := n) (by omega) (hz_b (sp_hav hv n q) e)
    refine ⟨b1, fun j hj => ?_⟩
    show hz_b (hz_ior (sp_hadN hv e q n) (hz_ishl (hy_b (hz_b (sp_hav hv n q) e)) n)) j = _
    rw [b2 j hj, a2 j hj]
    by_cases h1 : j < n
    · rw [decide_eq_true h1, decide_eq_true (show j < n + 1 by omega), decide_eq_false (show ¬ n = j by omega)]
      simp
    · by_cases h2 : n = j
      · subst h2
        rw [decide_eq_false h1, decide_eq_true (Nat.lt_succ_self n), decide_eq_true rfl]
        simp
      · rw [decide_eq_false h1, decide_eq_false (show ¬ j < n + 1 by omega), decide_eq_false h2]
        simp
/-- what seeing rests on, alike in a heap of the class and a heap of the model -/
def fe (t u : hy_T) : Prop := ((∀ c : Nat, c < 12 → sp_told (t 5 3) c = mf_mixed u c ∧ (mf_mixed u c = true → (t 6 c = u 60 c ∧ t 7 c = u 61 c) ∧ (0 ≤ u 60 c ∧ u 60 c < c) ∧ 0 ≤ u 61 c ∧ u 61 c < c)) ∧ t 33 4 = u 59 2) ∧ (∀ (V V' : Nat → Int) (k : Int) (s : Bool), (∀ j, j < 10 → V j = V' j) → mb_holds u V' k s = if rc_has t k = true then lc_hold t V k else s) ∧ ∀ V V' : Nat → Int, (∀ j, j < 10 → V j = V' j) → mb_amt u V' 118 99 = lc_amt t V 118 99
theorem fr_fe {X : Nat → Nat → Bool} {t t1 : hy_T} (h : fr t) (m : mK t) (F : hy_F X t t1) (hX : ∀ r j, 59 ≤ r → X r j = false) : fe t t1 := by
  have hl : ∀ r j, mlawX r j = true → X r j = false := fun r j q => hX r j (by revert q; simp only [mlawX, Bool.or_eq_true, Bool.and_eq_true, decide_eq_true_eq, decide_eq_false_iff_not, beq_iff_eq, Bool.or_eq_false_iff, Bool.and_eq_false_iff, beq_eq_false_iff_ne]; omega)
  refine ⟨⟨fun c hc => ?_, by rw [F 59 2 (hX 59 2 (by decide))]; exact h.2.2.1.1.1.2.1⟩, fun V V' k s hV => ?_, fun V V' hV => ?_⟩
  · have em : mf_mixed t1 c = mf_mixed t c := by
      unfold mf_mixed
      rw [F 59 0 (hX 59 0 (by decide)), F 60 _ (hX 60 _ (by decide))]
    obtain ⟨a1, a2⟩ := h.1.2.1.2 c hc
    have e0 : sp_told (t 5 3) c = mf_mixed t c := by
      unfold mf_mixed sp_told
      rw [decide_eq_true (show 0 ≤ (c : Int) ∧ (c : Int) < 12 by omega), Bool.true_and, Bool.true_and, Int.toNat_natCast, ← h.1.2.1.1.1, a1]
      rw [a1] at a2
      by_cases h6 : t 60 c = -1
      · simp [h6]
      · rw [decide_eq_true h6] at a2 ⊢
        rw [a2 rfl]
        rfl
    rw [em]
    refine ⟨e0, fun hm => ?_⟩
    have hb : hz_b (t 5 3) c = true := by
      rw [← e0] at hm
      unfold sp_told at hm
      rw [Bool.and_eq_true] at hm
      exact hm.2
    have hp := (m.pal c hc).2 hm
    rw [F 60 c (hX 60 c (by decide)), F 61 c (hX 61 c (by decide))]
    exact ⟨h.1.2.2 c hc hb, hp⟩
  · rw [mb_holds_F F hl]
    exact fl_hold h.2.1.2 m.ml hV k s
  · rw [mb_amt_F F hl]
    exact fl_amt h.2.1.2 m.ml hV (.inr rfl) (by decide)
theorem mixed_not_plain {u : hy_T} {c : Int} (h : mf_mixed u c = true) : mf_plain u c = false := by
  cases e : mf_plain u c with
  | false => rfl
  | true =>
    rw [mixed_plain e] at h
    cases h
/-- what is seen, if these plain ones are -/
theorem fe_seenN {t u : hy_T} (h : fe t u) {e q plain : Int} (hp : 0 ≤ plain ∧ plain ≤ 4095) (hb : ∀ j : Nat, j < 12 → hz_b plain j = (mf_plain u j && hz_b (u 62 (4 * (j : Int) + q).toNat) e)) : ∀ n : Nat, n ≤ 12 →
    (0 ≤ sp_seenN t e q plain n ∧ sp_seenN t e q plain n ≤ 4095) ∧ (0 ≤ mq_seenN u e q n ∧ mq_seenN u e q n ≤ 4095) ∧ (∀ j : Nat, j < 12 → hz_b (sp_seenN t e q plain n) j = if j < n then hz_b (mq_seenN u e q n) j else hz_b plain j) ∧ ∀ j : Nat, j < 12 → n ≤ j → hz_b (mq_seenN u e q n) j = false
  | 0, _ => ⟨hp, by simp [mq_seenN], fun j hj => by rw [if_neg (by omega)]; rfl, fun j hj _ => hz_b_0 j⟩
  | n + 1, hn => by
    obtain ⟨a1, a2, a3, a4⟩ := fe_seenN h hp hb n (by omega)
    obtain ⟨⟨hpal, hday⟩, hlaw, -⟩ := h
    obtain ⟨p1, p2⟩ := hpal n (by omega)
    -- the model's step
    have em : mq_seenN u e q (n + 1) = if mq_isSeen u e n q (mq_seenN u e q n) = true then hz_ior (mq_seenN u e q n) (hz_ishl 1 n) else mq_seenN u e q n := rfl
    have mbit : (0 ≤ mq_seenN u e q (n + 1) ∧ mq_seenN u e q (n + 1) ≤ 4095) ∧ ∀ j : Nat, j < 12 → hz_b (mq_seenN u e q (n + 1)) j = (hz_b (mq_seenN u e q n) j || (decide (n = j) && mq_isSeen u e n q (mq_seenN u e q n))) := by
      have := bit_may a2 (c := n) (by omega) (mq_isSeen u e n q (mq_seenN u e q n))
      rw [em]
      cases hs : mq_isSeen u e n q (mq_seenN u e q n) with
      | true =>
        rw [hs] at this
        rw [if_pos rfl]
        exact this
      | false =>
        rw [if_neg (by decide)]
        exact ⟨a2, fun j hj => by simp⟩
    have fin : ∀ x : Int, (0 ≤ x ∧ x ≤ 4095) → (∀ j : Nat, j < 12 → hz_b x j = if j = n then mq_isSeen u e n q (mq_seenN u e q n) else hz_b (sp_seenN t e q plain n) j) → sp_seenN t e q plain (n + 1) = x → (0 ≤ sp_seenN t e q plain (n + 1) ∧ sp_seenN t e q plain (n + 1) ≤ 4095) ∧ (0 ≤ mq_seenN u e q (n + 1) ∧ mq_seenN u e q (n + 1) ≤ 4095) ∧ (∀ j : Nat, j < 12 → hz_b (sp_seenN t e q plain (n + 1)) j = if j < n + 1 then hz_b (mq_seenN u e q (n + 1)) j else hz_b plain j) ∧ ∀ j : Nat, j < 12 → n + 1 ≤ j → hz_b (mq_seenN u e q (n + 1)) j = false := fun x hx hxb ex => by
      refine ⟨by rw [ex]; exact hx, mbit.1, fun j hj => ?_, fun j hj hnj => ?_⟩
      · rw [ex, hxb j hj, mbit.2 j hj]
        by_cases hjn : j = n
        · rw [if_pos hjn, if_pos (by omega), a4 j hj (by omega), decide_eq_true hjn.symm]
          simp
        · rw [if_neg hjn, a3 j hj]
          by_cases hlt : j < n
          · rw [if_pos hlt, if_pos (by omega), decide_eq_false (show ¬ n = j by omega)]
            simp
          · rw [if_neg hlt, if_neg (by omega)]
      · rw [mbit.2 j hj, a4 j hj (by omega), decide_eq_false (show ¬ n = j by omega)]
        rfl
    by_cases hm : mf_mixed u n = true
    · obtain ⟨⟨r1, r2⟩, ⟨r3, r4⟩, r5, r6⟩ := p2 hm
      rw [hm] at p1
      have s6 : hz_b (sp_seenN t e q plain n) (t 6 n) = hz_b (mq_seenN u e q n) (u 60 n) := by
        have := a3 (u 60 n).toNat (by omega)
        rw [if_pos (by omega), show (((u 60 n).toNat : Nat) : Int) = u 60 n by omega] at this
        rw [r1]
        exact this
      have s7 : hz_b (sp_seenN t e q plain n) (t 7 n) = hz_b (mq_seenN u e q n) (u 61 n) := by
        have := a3 (u 61 n).toNat (by omega)
        rw [if_pos (by omega), show (((u 61 n).toNat : Nat) : Int) = u 61 n by omega] at this
        rw [r2]
        exact this
      have pl0 : hz_b (sp_seenN t e q plain n) n = false := by
        rw [a3 n (by omega), if_neg (Nat.lt_irrefl n), hb n (by omega), mixed_not_plain hm]
        rfl
      have hlw : sp_lawS t e n q (hz_b (sp_seenN t e q plain n) (t 6 n)) (hz_b (sp_seenN t e q plain n) (t 7 n)) = mq_isSeen u e n q (mq_seenN u e q n) := by
        rw [s6, s7]
        unfold sp_lawS mq_isSeen
        rw [if_pos hm, Int.toNat_natCast]
        refine (hlaw _ _ 115 _ (fun j hj => ?_)).symm
        unfold mq_V
        rw [hm, if_pos rfl, hday]
        rfl
      obtain ⟨b1, b2⟩ := bit_may a1 (c := n) (by omega) (mq_isSeen u e n q (mq_seenN u e q n))
      refine fin (hz_ior (sp_seenN t e q plain n) (hz_ishl (hy_b (mq_isSeen u e n q (mq_seenN u e q n))) n)) b1 (fun j hj => ?_) ?_
      · rw [b2 j hj]
        by_cases hjn : j = n
        · rw [if_pos hjn, hjn, pl0, decide_eq_true rfl]
          simp
        · rw [if_neg hjn, decide_eq_false (show ¬ n = j by omega)]
          simp
      · simp only [sp_seenN]
        rw [if_pos p1, hlw]
        cases mq_isSeen u e n q (mq_seenN u e q n) with
        | true => rw [if_pos rfl]; rfl
        | false => rw [if_neg (by decide), show hy_b false = 0 from rfl, fz_shl0]
    · have hm' : mf_mixed u n = false := by simpa using hm
      rw [hm'] at p1
      refine fin (sp_seenN t e q plain n) a1 (fun j hj => ?_) ?_
      · by_cases hjn : j = n
        · rw [if_pos hjn, hjn, a3 n (by omega), if_neg (Nat.lt_irrefl n), hb n (by omega)]
          unfold mq_isSeen
          rw [if_neg hm]
        · rw [if_neg hjn]
      · simp only [sp_seenN]
        rw [if_neg (by rw [p1]; decide)]
theorem fe_seen {t u : hy_T} (h : fe t u) {e q plain : Int} (hp : 0 ≤ plain ∧ plain ≤ 4095) (hb : ∀ j : Nat, j < 12 → hz_b plain j = (mf_plain u j && hz_b (u 62 (4 * (j : Int) + q).toNat) e)) : sp_seenN t e q plain 12 = mq_seenN u e q 12 ∧ 0 ≤ mq_seenN u e q 12 ∧ mq_seenN u e q 12 ≤ 4095 := by
  obtain ⟨a1, a2, a3, -⟩ := fe_seenN h hp hb 12 (Nat.le_refl _)
  exact ⟨bits_ext a1 a2 (fun j hj => by rw [a3 j hj, if_pos hj]), a2⟩
/-- a heap of the class and one of the model that show the same -/
def fv (t u : hy_T) : Prop := fe t u ∧ (∀ j : Nat, j < 48 → t 34 j = u 62 j) ∧ fh u ∧ ∀ f : Nat, f < 64 → t 9 f = u 63 f ∧ t 35 f = u 64 f
theorem fr_fv {X : Nat → Nat → Bool} {t t1 : hy_T} (h : fr t) (m : mK t) (F : hy_F X t t1) (hX : ∀ r j, 59 ≤ r → X r j = false) : fv t t1 := by
  refine ⟨fr_fe h m F hX, fun j hj => ?_, fh_F h.2.2.1.2.1.1 (fun j => F 62 j (hX 62 j (by decide))) (F 59 0 (hX 59 0 (by decide))) (fun j => F 60 j (hX 60 j (by decide))), fun f hf => ?_⟩
  · rw [F 62 j (hX 62 j (by decide))]
    exact h.2.2.1.1.2.1 j hj
  · rw [F 63 f (hX 63 f (by decide)), F 64 f (hX 64 f (by decide))]
    exact ⟨h.2.1.1.1 f hf, h.2.2.1.2.2 f hf⟩
/-- what empires have, as a set, on both sides -/
theorem fv_had {t u : hy_T} (h : fv t u) {e q : Int} (hq : 0 ≤ q ∧ q < 4) : (0 ≤ sp_hadN (t 34) e q 12 ∧ sp_hadN (t 34) e q 12 ≤ 4095) ∧ ∀ j : Nat, j < 12 → hz_b (sp_hadN (t 34) e q 12) j = (mf_plain u j && hz_b (u 62 (4 * (j : Int) + q).toNat) e) := by
  obtain ⟨a1, a2⟩ := had_bits (t 34) e q 12 (Nat.le_refl _)
  refine ⟨a1, fun j hj => ?_⟩
  have ehav : sp_hav (t 34) j q = u 62 (4 * (j : Int) + q).toNat := by
    unfold sp_hav
    rw [if_pos (by omega)]
    exact h.2.1 _ (by omega)
  rw [a2 j hj, decide_eq_true hj, Bool.true_and, ehav]
  cases hpl : mf_plain u j with
  | true => rw [Bool.true_and]
  | false =>
    have := (h.2.2.1 (4 * (j : Int) + q).toNat (by omega)).2
    rw [show (((4 * (j : Int) + q).toNat / 4 : Nat) : Int) = j by omega] at this
    rw [this hpl, hz_b_0, Bool.false_and]
theorem fv_seen {t u : hy_T} (h : fv t u) {e q : Int} (hq : 0 ≤ q ∧ q < 4) : sp_seen t e q = mq_seenN u e q 12 ∧ 0 ≤ mq_seenN u e q 12 ∧ mq_seenN u e q 12 ≤ 4095 := by
  obtain ⟨a1, a2⟩ := fv_had h hq (e := e)
  exact fe_seen h.1 a1 a2
theorem fr_seen {X : Nat → Nat → Bool} {t t1 : hy_T} (h : fr t) (m : mK t) (F : hy_F X t t1) (hX : ∀ r j, 59 ≤ r → X r j = false) {e q : Int} (hq : 0 ≤ q ∧ q < 4) : sp_seen t e q = mq_seenN t1 e q 12 ∧ 0 ≤ mq_seenN t1 e q 12 ∧ mq_seenN t1 e q 12 ≤ 4095 := fv_seen (fr_fv h m F hX) hq
theorem fr_toldE {X : Nat → Nat → Bool} {t t1 : hy_T} (h : fr t) (F : hy_F X t t1) (hX : ∀ r j, 59 ≤ r → X r j = false) : t1 59 0 = t 5 2 := (F 59 0 (hX 59 0 (by decide))).trans h.1.2.1.1.1.symm
theorem fr_sees {t t1 : hy_T} {a b c : Int} (h : fr t) (m : mK t) (F : hy_F eX t t1) : (if mq_ecq t1 a b c then hy_b (hz_b (mq_seenN t1 a c 12) b) else -1) = wf_sees t a b c := by
  have hX : ∀ r j, 59 ≤ r → eX r j = false := fun r j q => by simp only [eX, Bool.or_eq_true, Bool.and_eq_true, decide_eq_true_eq, decide_eq_false_iff_not, beq_iff_eq, Bool.or_eq_false_iff, Bool.and_eq_false_iff, beq_eq_false_iff_ne]; omega
  unfold wf_sees mq_ecq
  rw [fr_toldE h F hX]
  by_cases hq : (0 ≤ a ∧ a < 6) ∧ sp_told (t 5 2) b = true ∧ 0 ≤ c ∧ c < 4
  · rw [if_pos hq, if_pos hq, (fr_seen h m F hX hq.2.2).1]
  · rw [if_neg hq, if_neg hq]
theorem fe_asN {t u : hy_T} (h : fe t u) (s : Int) (f : Nat → Int) : ∀ n : Nat, n ≤ 12 → ∀ j : Nat, j < n → sp_asN t s f n j = mq_asR u s n j
  | 0, _, j, hj => absurd hj (Nat.not_lt_zero j)
  | n + 1, hn, j, hj => by
    have ih := fe_asN h s f n (by omega)
    obtain ⟨p1, p2⟩ := h.1.1 n (by omega)
    simp only [sp_asN, mq_asR, su]
    by_cases hjn : j = n
    · rw [if_pos hjn, if_pos hjn]
      by_cases hb : hz_b s n = true
      · rw [if_pos hb, if_pos hb]
      · rw [if_neg hb, if_neg hb]
        by_cases hm : mf_mixed u n = true
        · obtain ⟨⟨r1, r2⟩, ⟨r3, r4⟩, r5, r6⟩ := p2 hm
          rw [p1, if_pos hm, if_pos hm, r1, r2]
          have l1 : lk (sp_asN t s f n) (u 60 n) = mq_asR u s n (u 60 n).toNat := by
            unfold lk
            rw [if_pos (by omega)]
            exact ih _ (by omega)
          have l2 : lk (sp_asN t s f n) (u 61 n) = mq_asR u s n (u 61 n).toNat := by
            unfold lk
            rw [if_pos (by omega)]
            exact ih _ (by omega)
          rw [l1, l2]
          by_cases h12 : mq_asR u s n (u 60 n).toNat = 12
          · rw [if_neg (fun q => q h12), if_pos h12]
          · rw [if_pos h12, if_neg h12]
        · rw [p1, if_neg hm, if_neg hm]
    · rw [if_neg hjn, if_neg hjn]
      exact ih j (by omega)
theorem mq_asR12 (u : hy_T) (s : Int) : ∀ n : Nat, n ≤ 12 → mq_asR u s n 12 = 12
  | 0, _ => rfl
  | n + 1, hn => by
    simp only [mq_asR, su]
    rw [if_neg (by omega)]
    exact mq_asR12 u s n (by omega)
theorem fe_lk {t u : hy_T} (h : fe t u) {e q : Int} (hs : sp_seen t e q = mq_seenN u e q 12) {c : Int} (hc : 0 ≤ c ∧ c ≤ 12) : lk (wf_as t e q) c = mq_as u e q c.toNat := by
  unfold wf_as mq_as lk
  rw [hs]
  by_cases h12 : c < 12
  · rw [if_pos (by omega)]
    exact fe_asN h _ _ 12 (Nat.le_refl _) _ (by omega)
  · rw [if_neg (by omega), show c.toNat = 12 by omega, mq_asR12 u _ 12 (Nat.le_refl _)]
theorem fr_appears {t t1 : hy_T} {a b c : Int} (h : fr t) (m : mK t) (F : hy_F lX t t1) : (if (0 ≤ a ∧ a < 6) ∧ (b = 12 ∨ sp_told (t1 59 0) b = true) ∧ 0 ≤ c ∧ c < 4 then mq_as t1 a c b.toNat else -1) = wf_appears t a b c := by
  have hX : ∀ r j, 59 ≤ r → lX r j = false := fun r j q => by simp only [lX, Bool.or_eq_true, Bool.and_eq_true, decide_eq_true_eq, decide_eq_false_iff_not, beq_iff_eq, Bool.or_eq_false_iff, Bool.and_eq_false_iff, beq_eq_false_iff_ne]; omega
  unfold wf_appears
  rw [fr_toldE h F hX]
  by_cases hq : (0 ≤ a ∧ a < 6) ∧ (sp_told (t 5 2) b = true ∨ b = 12) ∧ 0 ≤ c ∧ c < 4
  · rw [if_pos hq, if_pos ⟨hq.1, hq.2.1.symm, hq.2.2⟩]
    have hb : 0 ≤ b ∧ b ≤ 12 := by
      rcases hq.2.1 with x | x
      · have := sp_told_in x
        omega
      · omega
    exact (fe_lk (fr_fe h m F hX) (fr_seen h m F hX hq.2.2).1 hb).symm
  · rw [if_neg hq, if_neg (fun q => hq ⟨q.1, q.2.1.symm, q.2.2⟩)]
theorem fr_unseen {t t1 : hy_T} {a b c d e : Int} (h : fr t) (m : mK t) (F : hy_F lX t t1) : (if ((0 ≤ a ∧ a < 8) ∧ 0 ≤ b ∧ b < 8) ∧ mq_ecq t1 d c e then hy_b (decide (mq_as t1 d e (t1 63 (8 * b + a).toNat).toNat = mq_as t1 d e c.toNat)) else -1) = wf_unseen t a b c d e := by
  have hX : ∀ r j, 59 ≤ r → lX r j = false := fun r j q => by simp only [lX, Bool.or_eq_true, Bool.and_eq_true, decide_eq_true_eq, decide_eq_false_iff_not, beq_iff_eq, Bool.or_eq_false_iff, Bool.and_eq_false_iff, beq_eq_false_iff_ne]; omega
  unfold wf_unseen mq_ecq
  rw [fr_toldE h F hX]
  by_cases hq : ((0 ≤ a ∧ a < 8) ∧ 0 ≤ b ∧ b < 8) ∧ sp_told (t 5 2) c = true ∧ (0 ≤ d ∧ d < 6) ∧ 0 ≤ e ∧ e < 4
  · rw [if_pos hq, if_pos ⟨hq.1, hq.2.2.1, hq.2.1, hq.2.2.2⟩]
    have hc := sp_told_in hq.2.1
    have L := fr_fe h m F hX
    have hs := (fr_seen h m F hX hq.2.2.2 (e := d)).1
    have hf : (8 * b + a).toNat < 64 := by omega
    have e9 : t 9 (8 * b + a).toNat = t1 63 (8 * b + a).toNat := by
      rw [F 63 _ (hX 63 _ (by decide))]
      exact h.2.1.1.1 _ hf
    have hg := m.mg (8 * b + a).toNat hf
    unfold wf_hid
    rw [if_pos (by omega), e9, fe_lk L hs (c := t1 63 (8 * b + a).toNat) (by rw [F 63 _ (hX 63 _ (by decide))]; exact hg), fe_lk L hs (c := c) (by omega)]
  · rw [if_neg hq, if_neg (fun q => hq ⟨q.1, q.2.2.1, q.2.1, q.2.2.2⟩)]
/-- how many colours are had, in words of the class -/
theorem fv_bc {t u : hy_T} (h : fv t u) {c q : Int} (hc : 0 ≤ c ∧ c < 12) (hq : 0 ≤ q ∧ q < 4) : sp_bc (sp_hav (t 34) c q) = if mf_mixed u c = true then 0 else mf_bitsN (u 62 (4 * c + q).toNat) 12 := by
  have hv := h.2.2.1 (4 * c + q).toNat (by omega)
  have ehav : sp_hav (t 34) c q = u 62 (4 * c + q).toNat := by
    unfold sp_hav
    rw [if_pos ⟨hc, hq⟩]
    exact h.2.1 _ (by omega)
  rw [ehav]
  by_cases hm : mf_mixed u c = true
  · rw [if_pos hm]
    have := hv.2
    rw [show (((4 * c + q).toNat / 4 : Nat) : Int) = c by omega] at this
    rw [this (mixed_not_plain hm)]
    decide
  · rw [if_neg hm]
    exact bc_bits' hv.1
theorem fr_child {t t1 : hy_T} {a b c d : Int} (h : fr t) (m : mK t) (F : hy_F eX t t1) : (if (0 ≤ a ∧ a < 6) ∧ mq_ecq t1 b c d then hy_b (mq_child t1 a b c d) else -1) = wf_child t a b c d := by
  have hX : ∀ r j, 59 ≤ r → eX r j = false := fun r j q => by simp only [eX, Bool.or_eq_true, Bool.and_eq_true, decide_eq_true_eq, decide_eq_false_iff_not, beq_iff_eq, Bool.or_eq_false_iff, Bool.and_eq_false_iff, beq_eq_false_iff_ne]; omega
  unfold wf_child mq_ecq
  rw [fr_toldE h F hX]
  by_cases hq : ((0 ≤ a ∧ a < 6) ∧ 0 ≤ b ∧ b < 6) ∧ sp_told (t 5 2) c = true ∧ 0 ≤ d ∧ d < 4
  · rw [if_pos hq, if_pos ⟨hq.1.1, hq.1.2, hq.2⟩]
    have hc := sp_told_in hq.2.1
    have L := fr_fe h m F hX
    have s1 := (fr_seen h m F hX hq.2.2 (e := a)).1
    have s2 := (fr_seen h m F hX hq.2.2 (e := b)).1
    congr 1
    unfold mq_child sp_child
    dsimp only
    rw [s1, s2]
    refine L.2.1 _ _ 107 _ (fun j hj => ?_)
    unfold mq_V
    have p1 := (L.1.1 c.toNat (by omega)).1
    rw [show ((c.toNat : Nat) : Int) = c by omega] at p1
    rw [p1, L.1.2, fv_bc (fr_fv h m F hX) hc hq.2.2]
  · rw [if_neg hq, if_neg (fun q => hq ⟨⟨q.1, q.2.1⟩, q.2.2⟩)]
theorem fv_own {t u : hy_T} (h : fv t u) (e c : Int) : ∀ n : Nat, n ≤ 64 → sp_fields t e c n = mo_ownN u e c n
  | 0, _ => rfl
  | n + 1, hn => by
    simp only [sp_fields, mo_ownN]
    rw [fv_own h e c n (by omega), (h.2.2.2 n (by omega)).1, (h.2.2.2 n (by omega)).2]
    by_cases hq : u 63 n = c ∧ u 64 n = e
    · rw [if_pos hq, if_pos ⟨hq.2, hq.1⟩]
    · rw [if_neg hq, if_neg (fun q => hq ⟨q.2, q.1⟩)]
theorem fv_hav {t u : hy_T} (h : fv t u) {c q : Int} : 0 ≤ sp_hav (t 34) c q ∧ sp_hav (t 34) c q ≤ 63 := by
  unfold sp_hav
  split
  · rw [h.2.1 _ (by omega)]
    exact (h.2.2.1 _ (by omega)).1
  · decide
theorem fv_worthN {t u : hy_T} (h : fv t u) {e q : Int} (hq : 0 ≤ q ∧ q < 4) (s : Int) : ∀ n : Nat, n ≤ 12 → sp_worthN (fun c => sp_price t e q 0 c) s n = mw_worthN u e q s n
  | 0, _ => rfl
  | n + 1, hn => by
    have L := h.1
    simp only [sp_worthN, mw_worthN]
    rw [fv_worthN h hq s n (by omega)]
    congr 1
    unfold mw_one
    rw [← fv_own h e n 64 (by omega)]
    rw [hb_mul]
    by_cases hb : hz_b s n = true
    · rw [if_pos hb, if_pos hb]
      have hle := sp_fields_le t e n 64
      unfold sp_price
      by_cases h0 : sp_fields t e n 64 = 0
      · rw [if_neg (by omega), if_pos h0]
      · rw [if_pos (by omega), if_neg h0]
        congr 1
        unfold sp_priceOf
        have hh := fv_hav h (c := (n : Int)) (q := q)
        rw [hz_b_0, show hy_b false = 0 from rfl, fz_shl0, fz_or0 (by omega), fv_bc h (c := (n : Int)) (by omega) hq]
        refine (L.2.2 _ _ (fun j hj => ?_)).symm
        unfold mq_V
        rw [(L.1.1 n (by omega)).1, L.1.2]
    · rw [if_neg hb, if_neg hb, if_pos rfl]
theorem fv_worth {t u : hy_T} (h : fv t u) {e q : Int} (hq : 0 ≤ q ∧ q < 4) : sp_worth t e q = mw_worth u e q := by
  unfold sp_worth mw_worth
  rw [(fv_seen h hq (e := e)).1, fv_worthN h hq _ 12 (Nat.le_refl _)]
theorem fr_worth {t t1 : hy_T} {a b : Int} (h : fr t) (m : mK t) (F : hy_F pX t t1) : (if (0 ≤ a ∧ a < 6) ∧ 0 ≤ b ∧ b < 4 then mw_worth t1 a b else -1) = wf_worth t a b := by
  have hX : ∀ r j, 59 ≤ r → pX r j = false := fun r j q => by simp only [pX, Bool.or_eq_true, Bool.and_eq_true, decide_eq_true_eq, decide_eq_false_iff_not, beq_iff_eq, Bool.or_eq_false_iff, Bool.and_eq_false_iff, beq_eq_false_iff_ne]; omega
  unfold wf_worth
  by_cases hq : (0 ≤ a ∧ a < 6) ∧ 0 ≤ b ∧ b < 4
  · rw [if_pos hq, if_pos hq]
    exact (fv_worth (fr_fv h m F hX) hq.2).symm
  · rw [if_neg hq, if_neg hq]
/-! paintings -/
theorem sub_key {X W : Int32} (h : X &&& (W ^^^ -1) = 0) : X &&& W = X := by
  apply Int32.toBitVec_inj.mp
  apply BitVec.eq_of_getLsbD_eq
  intro i hi
  have h2 := congrArg (fun z : Int32 => z.toBitVec.getLsbD i) h
  have m1 : (-1 : Int32).toBitVec.getLsbD i = true := by
    have key : ∀ j : Fin 32, (-1 : Int32).toBitVec.getLsbD j.val = true := by decide
    exact key ⟨i, hi⟩
  simp only [Int32.toBitVec_and, Int32.toBitVec_xor, BitVec.getLsbD_and, BitVec.getLsbD_xor, m1] at h2 ⊢
  revert h2
  have z0 : (0 : Int32).toBitVec.getLsbD i = false := by
    have key : ∀ j : Fin 32, (0 : Int32).toBitVec.getLsbD j.val = false := by decide
    exact key ⟨i, hi⟩
  rw [z0]
  cases X.toBitVec.getLsbD i <;> cases W.toBitVec.getLsbD i <;> simp
theorem sub_in {x w : Int} (hx : hy_R x) (hw : 0 ≤ w ∧ w ≤ 4095) (h : hz_iand x (hz_ixor w (-1)) = 0) : 0 ≤ x ∧ x ≤ 4095 := by
  have e : Int32.ofInt x &&& (Int32.ofInt w ^^^ -1) = 0 := by
    have := congrArg Int32.ofInt h
    unfold hz_iand hz_ixor at this
    simp only [Int32.ofInt_toInt] at this
    exact this
  have k := sub_key e
  have k2 : hz_iand x w = x := by
    unfold hz_iand
    rw [k]
    exact hy_ti hx
  have := hz_iand_le (x := x) (m := w) (by omega)
  omega
theorem fr_ptN {t t1 : hy_T} (h : fr t) (m : mK t) (F : hy_F eX t t1) (cs : Int) : ∀ n : Nat, n ≤ 24 → (wf_paintN t cs n).1 = (mq_ptN t1 cs n).1 ∧ (((wf_paintN t cs n).2 = -2 ∧ (mq_ptN t1 cs n).2 = -1) ∨ (0 ≤ (wf_paintN t cs n).2 ∧ (wf_paintN t cs n).2 = (mq_ptN t1 cs n).2))
  | 0, _ => ⟨rfl, .inl ⟨rfl, rfl⟩⟩
  | n + 1, hn => by
    have hX : ∀ r j, 59 ≤ r → eX r j = false := fun r j q => by simp only [eX, Bool.or_eq_true, Bool.and_eq_true, decide_eq_true_eq, decide_eq_false_iff_not, beq_iff_eq, Bool.or_eq_false_iff, Bool.and_eq_false_iff, beq_eq_false_iff_ne]; omega
    obtain ⟨a1, a2⟩ := fr_ptN h m F cs n (by omega)
    have s1 := (fr_seen h m F hX (e := (n : Int) / 4) (q := (n : Int) % 4) (by omega)).1
    simp only [wf_paintN, mq_ptN]
    rw [s1]
    by_cases hc : hz_iand cs (hz_ixor (mq_seenN t1 ((n : Int) / 4) ((n : Int) % 4) 12) (-1)) = 0
    · rw [if_pos hc, if_pos hc]
      refine ⟨by rw [a1], .inr ?_⟩
      rcases a2 with ⟨b1, b2⟩ | ⟨b1, b2⟩
      · rw [b1, b2, if_pos (by decide), if_pos rfl]
        omega
      · rw [if_neg (by omega), if_neg (by omega)]
        exact ⟨b1, b2⟩
    · rw [if_neg hc, if_neg hc]
      exact ⟨a1, a2⟩
theorem fr_painting {t t1 : hy_T} {a b : Int} (hR : hy_R a) (h : fr t) (m : mK t) (F : hy_F eX t t1) : (if (0 ≤ a ∧ a ≤ 4095) ∧ hz_iand a (hz_ixor (t1 59 0) (-1)) = 0 ∧ 0 ≤ b ∧ b ≤ 2 then mq_ptA (mq_ptN t1 a 24) b else -1) = wf_painting t a b := by
  have hX : ∀ r j, 59 ≤ r → eX r j = false := fun r j q => by simp only [eX, Bool.or_eq_true, Bool.and_eq_true, decide_eq_true_eq, decide_eq_false_iff_not, beq_iff_eq, Bool.or_eq_false_iff, Bool.and_eq_false_iff, beq_eq_false_iff_ne]; omega
  unfold wf_painting
  rw [fr_toldE h F hX]
  by_cases hq : hz_iand a (hz_ixor (t 5 2) (-1)) = 0 ∧ 0 ≤ b ∧ b < 3
  · have hin := sub_in hR h.1.2.1.1.2.1 hq.1
    rw [if_pos hq, if_pos ⟨hin, hq.1, hq.2.1, by omega⟩]
    obtain ⟨a1, a2⟩ := fr_ptN h m F a 24 (Nat.le_refl _)
    unfold mq_ptA
    dsimp only
    rw [a1]
    by_cases h0 : b = 0
    · rw [if_pos h0, if_pos h0]
    · rw [if_neg h0, if_neg h0]
      rcases a2 with ⟨b1, b2⟩ | ⟨b1, b2⟩
      · rw [b1, b2, if_pos rfl, if_pos (by decide)]
      · rw [← b2, if_neg (by omega)]
        exact (if_neg (Int.not_lt.mpr b1)).symm
  · rw [if_neg hq, if_neg (fun q => hq ⟨q.2.1, q.2.2.1, by omega⟩)]
/-! counts, treaties as they stand, days that are tried -/
theorem mixN_bits (u : hy_T) : ∀ n : Nat, n ≤ 12 → (0 ≤ mf_mixN u n ∧ mf_mixN u n ≤ 4095) ∧ ∀ j : Nat, j < 12 → hz_b (mf_mixN u n) j = (decide (j < n) && mf_mixed u j)
  | 0, _ => ⟨by simp [mf_mixN], fun j hj => by
    show hz_b 0 j = _
    rw [hz_b_0, decide_eq_false (by omega), Bool.false_and]⟩
  | n + 1, hn => by
    obtain ⟨a1, a2⟩ := mixN_bits u n (by omega)
    obtain ⟨b1, b2⟩ := bit_may a1 (c := n) (by omega) (mf_mixed u n)
    have e : mf_mixN u (n + 1) = hz_ior (mf_mixN u n) (hz_ishl (hy_b (mf_mixed u n)) n) := by
      simp only [mf_mixN]
      cases mf_mixed u n with
      | true => rw [if_pos rfl]; rfl
      | false => rw [if_neg (by decide), show hy_b false = 0 from rfl, fz_shl0]
    rw [e]
    refine ⟨b1, fun j hj => ?_⟩
    rw [b2 j hj, a2 j hj]
    by_cases h1 : j < n
    · rw [decide_eq_true h1, decide_eq_true (show j < n + 1 by omega), decide_eq_false (show ¬ n = j by omega)]
      simp
    · by_cases h2 : n = j
      · subst h2
        rw [decide_eq_false h1, decide_eq_true (Nat.lt_succ_self n), decide_eq_true rfl]
        simp
      · rw [decide_eq_false h1, decide_eq_false (show ¬ j < n + 1 by omega), decide_eq_false h2]
        simp
theorem fr_count {t : hy_T} {w : Int} (h : fr t) (m : mK t) : mf_count t w = wf_count t w := by
  have L := fr_fe (X := fun _ _ => false) h m hy_F.rf (fun _ _ _ => rfl)
  unfold mf_count wf_count
  by_cases w0 : w = 0
  · rw [if_pos w0, if_neg (by omega), if_neg (by omega), if_neg (by omega), if_neg (by omega), if_pos w0]
    exact h.1.2.1.1.1.symm
  by_cases w1 : w = 1
  · rw [if_neg w0, if_pos w1, if_neg (by omega), if_neg (by omega), if_neg (by omega), if_neg (by omega), if_neg w0, if_pos w1]
    obtain ⟨b1, b2⟩ := mixN_bits t 12 (Nat.le_refl _)
    refine bits_ext b1 h.1.2.1.1.2.2 (fun j hj => ?_)
    rw [b2 j hj, decide_eq_true hj, Bool.true_and, ← (L.1.1 j hj).1]
    unfold sp_told
    rw [decide_eq_true (show 0 ≤ (j : Int) ∧ (j : Int) < 12 by omega), Bool.true_and]
  by_cases w2 : w = 2
  · rw [if_neg w0, if_neg w1, if_pos w2, if_neg (by omega), if_neg (by omega), if_neg (by omega), if_neg (by omega), if_neg w0, if_neg w1, if_pos w2]
    exact h.2.1.2.1.1.symm
  by_cases w3 : w = 3
  · rw [if_neg w0, if_neg w1, if_neg w2, if_pos w3, if_neg (by omega), if_neg (by omega), if_neg (by omega), if_neg (by omega), if_neg w0, if_neg w1, if_neg w2, if_pos w3]
    exact h.1.1.1.symm
  by_cases w4 : w = 4
  · rw [if_neg w0, if_neg w1, if_neg w2, if_neg w3, if_pos w4, if_neg (by omega), if_neg (by omega), if_neg (by omega), if_neg (by omega), if_neg w0, if_neg w1, if_neg w2, if_neg w3, if_pos w4]
    exact h.2.2.1.1.1.2.2.symm
  by_cases w5 : w = 5
  · rw [if_neg w0, if_neg w1, if_neg w2, if_neg w3, if_neg w4, if_pos w5, if_neg (by omega), if_neg (by omega), if_neg (by omega), if_neg (by omega), if_neg w0, if_neg w1, if_neg w2, if_neg w3, if_neg w4, if_pos w5]
    exact h.2.2.1.1.1.2.1.symm
  by_cases w6 : w = 6
  · rw [if_neg w0, if_neg w1, if_neg w2, if_neg w3, if_neg w4, if_neg w5, if_pos w6, if_neg (by omega), if_neg (by omega), if_neg (by omega), if_neg (by omega), if_neg w0, if_neg w1, if_neg w2, if_neg w3, if_neg w4, if_neg w5, if_pos w6]
    exact h.2.2.1.1.1.1.1.symm
  rw [if_neg w0, if_neg w1, if_neg w2, if_neg w3, if_neg w4, if_neg w5, if_neg w6, if_neg w0, if_neg w1, if_neg w2, if_neg w3, if_neg w4, if_neg w5, if_neg w6]
  by_cases c1 : 10 ≤ w ∧ w ≤ 21
  · rw [if_pos c1, if_pos (show 10 ≤ w ∧ w < 22 by omega)]
    obtain ⟨p1, p2⟩ := L.1.1 (w - 10).toNat (by omega)
    rw [show (((w - 10).toNat : Nat) : Int) = w - 10 by omega] at p1 p2
    rw [p1]
    by_cases hm : mf_mixed t (w - 10) = true
    · rw [if_pos hm, if_pos hm]
      obtain ⟨⟨r1, r2⟩, -⟩ := p2 hm
      rw [r1, r2]
    · rw [if_neg hm, if_neg hm]
  rw [if_neg c1, if_neg (show ¬ (10 ≤ w ∧ w < 22) by omega)]
  by_cases c2 : 100 ≤ w ∧ w ≤ 147
  · rw [if_pos c2, if_pos (show 100 ≤ w ∧ w < 148 by omega), p3_plain h.1.2.1]
    by_cases hp : mf_plain t ((w - 100) / 4) = true
    · rw [if_pos hp, if_pos hp]
      unfold sp_hav
      rw [if_pos (by omega), show (4 * ((w - 100) / 4) + (w - 100) % 4) = w - 100 by omega]
      exact (h.2.2.1.1.2.1 (w - 100).toNat (by omega)).symm
    · rw [if_neg hp, if_neg hp]
  rw [if_neg c2, if_neg (show ¬ (100 ≤ w ∧ w < 148) by omega)]
  by_cases c3 : 200 ≤ w ∧ w ≤ 263
  · rw [if_pos c3, if_pos (show 200 ≤ w ∧ w < 264 by omega)]
    exact (h.2.1.1.1 (w - 200).toNat (by omega)).symm
  rw [if_neg c3, if_neg (show ¬ (200 ≤ w ∧ w < 264) by omega)]
  by_cases c4 : 300 ≤ w ∧ w ≤ 363
  · rw [if_pos c4, if_pos (show 300 ≤ w ∧ w < 364 by omega)]
    exact (h.2.2.1.2.2 (w - 300).toNat (by omega)).symm
  rw [if_neg c4, if_neg (show ¬ (300 ≤ w ∧ w < 364) by omega)]
theorem an {r1 r2 : Option Int} {x y : Int} (q1 : r1 = some x) (q2 : r2 = some y) (e : y = x) : r2 = r1 := by rw [q1, q2, e]
theorem fr_countA {t t1 t2 : hy_T} {w : Int} {r1 r2 : Option Int} (h : fr t) (m : mK t) (q1 : r1 = some (wf_count t w) ∧ t1 = t) (q2 : r2 = some (mf_count t1 w) ∧ t2 = t1) : r2 = r1 ∧ fr t2 := by
  obtain ⟨e1, rfl⟩ := q1
  obtain ⟨e2, rfl⟩ := q2
  exact ⟨an e1 e2 (fr_count h m), h⟩
theorem fr_treatyIs {t t1 : hy_T} {n w : Int} (h : fr t) (F : hy_F (fun _ _ => false) t t1) : (if (0 ≤ n ∧ n < t1 59 34) ∧ 0 ≤ w ∧ w < 6 then t1 (85 + w.toNat) n.toNat else -1) = if (0 ≤ n ∧ n < t 33 3) ∧ 0 ≤ w ∧ w < 6 then t 36 (6 * n + w).toNat else -1 := by
  have e3 : t 33 3 = t 59 34 := h.2.2.1.1.1.1.1
  rw [F 59 34 rfl, e3]
  by_cases hq : (0 ≤ n ∧ n < t 59 34) ∧ 0 ≤ w ∧ w < 6
  · rw [if_pos hq, if_pos hq, F _ _ rfl, show (6 * n + w).toNat = 6 * n.toNat + w.toNat by omega]
    exact (h.2.2.1.1.2.2 n.toNat w.toNat (by omega) (by omega)).symm
  · rw [if_neg hq, if_neg hq]
theorem fr_qh {b : Nat} {T U : hy_T} (h : fs_S b T U) (hh : fh U) {c : Int} (hc : 0 ≤ c ∧ c < 12) : ∀ n : Nat, n ≤ 4 → sp_qh (T (b + 1)) c n = mf_hadN U c n
  | 0, _ => rfl
  | n + 1, hn => by
    simp only [sp_qh, mf_hadN]
    rw [fr_qh h hh hc n (by omega)]
    congr 1
    unfold sp_hav
    rw [if_pos (by omega), h.2.1 _ (by omega)]
    exact bc_bits' (hh _ (by omega)).1
theorem fr_tried {t t1 : hy_T} {n w : Int} (h : fr t) (m : mK t) (F : hy_F trX t t1) : (if md_trc t1 n w then md_tried (md_days (mf_begins t1) n) w else -1) = wf_tried t n w := by
  have hX : ∀ r j, 59 ≤ r → trX r j = false := fun r j q => by simp only [trX, Bool.or_eq_true, Bool.and_eq_true, decide_eq_true_eq, decide_eq_false_iff_not, beq_iff_eq, Bool.or_eq_false_iff, Bool.and_eq_false_iff, beq_eq_false_iff_ne]; omega
  have ew : md_w10 w = wf_w10 w := rfl
  have pl : ∀ c, mf_plain t1 c = wf_plain t c := fun c => (fr_plain h.1.2.1 (F 59 0 rfl) (fun j => F 60 j rfl) c).symm
  unfold wf_tried
  by_cases hq : wf_tryable t n w
  · have hq2 : md_trc t1 n w := by
      refine ⟨hq.1, hq.2.elim (fun c => .inl (by omega)) (fun c => .inr ?_)⟩
      rw [pl, ew]
      exact c
    rw [if_pos hq, if_pos hq2]
    obtain ⟨-, G⟩ := begins_as t1
    have tr1 : tr_ok (mf_begins t1) := tr_ok_F G (fun r j q => by revert q; simp only [stX, mfaX, Bool.or_eq_true, Bool.and_eq_true, decide_eq_true_eq, decide_eq_false_iff_not, beq_iff_eq, Bool.or_eq_false_iff, Bool.and_eq_false_iff, beq_eq_false_iff_ne]; omega) (tr_ok_F F (fun r j q => by revert q; simp only [stX, trX, Bool.or_eq_true, Bool.and_eq_true, decide_eq_true_eq, decide_eq_false_iff_not, beq_iff_eq, Bool.or_eq_false_iff, Bool.and_eq_false_iff, beq_eq_false_iff_ne]; omega) m.tr)
    have s0 : fs_S 33 t t1 := fs_S_of h.2.2.1.1 (fun _ _ _ => rfl) (fun r j q => F r j (by revert q; simp only [fsM, trX, Bool.or_eq_true, Bool.and_eq_true, decide_eq_true_eq, decide_eq_false_iff_not, beq_iff_eq, Bool.or_eq_false_iff, Bool.and_eq_false_iff, beq_eq_false_iff_ne]; omega))
    have s1 := fs_begins t1 s0
    have pal : ∀ x, mf_plain (mf_begins t1) x = mf_plain t x := fun x => mf_plain_F ((G 59 0 rfl).trans (F 59 0 rfl)) (fun j => (G 60 j rfl).trans (F 60 j rfl)) x
    have h0 : fh (mf_begins t1) := fun j hj => by
      rw [pal, G 62 j rfl, F 62 j rfl]
      exact h.2.2.1.2.1.1 j hj
    have f0 : ft (mf_begins t1) := fun i hi => by
      rw [pal, G 85 i rfl, F 85 i rfl]
      rw [G 59 34 rfl, F 59 34 rfl] at hi
      exact h.2.2.1.2.1.2 i hi
    have S := sp_scopy41_F t
    have hL : fd_L (sp_scopy t 33 41) (mf_begins t1) := fun V V' hV => by
      rw [lc_same_amt (lc_same_of S (fun r j q => by revert q; simp only [lawX, trX, Bool.or_eq_true, Bool.and_eq_true, decide_eq_true_eq, decide_eq_false_iff_not, beq_iff_eq, Bool.or_eq_false_iff, Bool.and_eq_false_iff, beq_eq_false_iff_ne]; omega)), mb_amt_F G (fun r j q => by revert q; simp only [mlawX, mfaX, Bool.or_eq_true, Bool.and_eq_true, decide_eq_true_eq, decide_eq_false_iff_not, beq_iff_eq, Bool.or_eq_false_iff, Bool.and_eq_false_iff, beq_eq_false_iff_ne]; omega)]
      exact fd_law h.2.1.2 m F (fun r j q => by revert q; simp only [mlawX, trX, Bool.or_eq_true, Bool.and_eq_true, decide_eq_true_eq, decide_eq_false_iff_not, beq_iff_eq, Bool.or_eq_false_iff, Bool.and_eq_false_iff, beq_eq_false_iff_ne]; omega) V V' hV
    obtain ⟨⟨d1, ⟨d2, d3⟩, -⟩, -, d5, -⟩ := fd_days (.inr rfl) s1 tr1 hL h0 f0 n
    have e34 := md_sum tr1 n
    unfold wf_told md_tried
    have x3 : sp_scopy t 33 41 41 3 = t 33 3 := rfl
    have z34 : t 33 3 = t 59 34 := h.2.2.1.1.1.1.1
    have y34 : mf_begins t1 59 34 = t 59 34 := (G 59 34 rfl).trans (F 59 34 rfl)
    have c3 := d1.1.1.1
    by_cases w0 : w = 0
    · rw [if_pos w0, if_pos w0, x3]
      omega
    · rw [if_neg w0, if_neg w0]
      by_cases w1 : w = 1
      · rw [if_pos w1, if_pos w1]
        exact d2.symm
      · rw [if_neg w1, if_neg w1]
        by_cases w2 : w = 2
        · rw [if_pos w2, if_pos w2]
          exact d3.symm
        · rw [if_neg w2, if_neg w2]
          have hp : wf_plain t (wf_w10 w) = true := hq.2.resolve_left (by omega)
          have hc : 0 ≤ wf_w10 w ∧ wf_w10 w < 12 := by
            rw [Bool.and_eq_true] at hp
            exact sp_told_in hp.1
          exact (fr_qh d1 d5 hc 4 (Nat.le_refl _)).symm
  · rw [if_neg hq, if_neg (fun q => hq ⟨q.1, q.2.elim (fun c => .inl (by omega)) (fun c => .inr (by rw [pl, ew] at c; exact c))⟩)]
/-! gain -/
def wf_gain (t : hy_T) (e c q : Int) : Int := if ((0 ≤ e ∧ e < 6) ∧ wf_plain t c = true ∧ 0 ≤ q ∧ q < 4) ∧ hz_b (sp_hav (t 34) c q) e = false then sp_worth (sp_setH 33 t c q (hz_ior (sp_hav (t 34) c q) (hz_ishl 1 e))) e q - sp_worth t e q else -1000000000
theorem fs_in_q {c q : Int} (hc : 0 ≤ c ∧ c < 12) (hq : 0 ≤ q ∧ q < 4) (j : Nat) : fs_in c (hz_ishl 1 q) 4 j ↔ j = (4 * c + q).toNat := by
  constructor
  · intro hf
    have hk := gn_q ⟨q.toNat, by omega⟩ ⟨((j : Int) - 4 * c).toNat, by have := hf.1; omega⟩
    dsimp only at hk
    rw [show ((q.toNat : Nat) : Int) = q by omega, show ((((j : Int) - 4 * c).toNat : Nat) : Int) = (j : Int) - 4 * c by have := hf.1; omega] at hk
    have hk2 := congrArg Fin.val (hk hf.2)
    dsimp only at hk2
    have := hf.1
    omega
  · intro e
    have hb : ∀ k : Fin 4, hz_b (hz_ishl 1 (k.val : Int)) (k.val : Int) = true := by decide
    have := hb ⟨q.toNat, by omega⟩
    dsimp only at this
    rw [show ((q.toNat : Nat) : Int) = q by omega] at this
    refine ⟨by omega, ?_⟩
    rw [show (j : Int) - 4 * c = q by omega]
    exact this
theorem fr_gainA {t t1 : hy_T} {a b c : Int} (h : fr t) (m : mK t) (F : hy_F pX t t1) : (if ((0 ≤ a ∧ a < 6) ∧ mf_plain t1 b = true ∧ 0 ≤ c ∧ c < 4) ∧ hz_b (t1 62 (4 * b + c).toNat) a = false then mw_worth (mf_chN t1 b (hz_ishl 1 c) a 1 4) a c - mw_worth t1 a c else -1000000000) = wf_gain t a b c := by
  have hX : ∀ r j, 59 ≤ r → pX r j = false := fun r j q => by simp only [pX, Bool.or_eq_true, Bool.and_eq_true, decide_eq_true_eq, decide_eq_false_iff_not, beq_iff_eq, Bool.or_eq_false_iff, Bool.and_eq_false_iff, beq_eq_false_iff_ne]; omega
  have V := fr_fv h m F hX
  have pl : mf_plain t1 b = wf_plain t b := (fr_plain h.1.2.1 (F 59 0 rfl) (fun j => F 60 j rfl) b).symm
  unfold wf_gain
  by_cases hq : (0 ≤ a ∧ a < 6) ∧ wf_plain t b = true ∧ 0 ≤ c ∧ c < 4
  · have hb12 : 0 ≤ b ∧ b < 12 := by
      have := hq.2.1
      rw [Bool.and_eq_true] at this
      exact sp_told_in this.1
    have ehav : sp_hav (t 34) b c = t1 62 (4 * b + c).toNat := by
      unfold sp_hav
      rw [if_pos ⟨hb12, hq.2.2⟩]
      exact V.2.1 _ (by omega)
    by_cases hh : hz_b (sp_hav (t 34) b c) a = false
    · rw [if_pos ⟨⟨hq.1, by rw [pl]; exact hq.2.1, hq.2.2⟩, by rw [← ehav]; exact hh⟩, if_pos ⟨hq, hh⟩, fv_worth V hq.2.2]
      have G : ∀ r j, r ≠ 62 → mf_chN t1 b (hz_ishl 1 c) a 1 4 r j = t1 r j := fun r j hr => ch_r _ _ _ _ _ 4 r j hr
      have e62 : ∀ j, mf_chN t1 b (hz_ishl 1 c) a 1 4 62 j = if j = (4 * b + c).toNat then hz_ior (t1 62 j) (hz_ishl 1 a) else t1 62 j := fun j => by
        rw [ch_v _ hb12 4 j, if_neg (show ¬ (1 : Int) = 0 by decide)]
        by_cases hf : fs_in b (hz_ishl 1 c) 4 j
        · rw [if_pos hf, if_pos ((fs_in_q hb12 hq.2.2 j).mp hf)]
        · rw [if_neg hf, if_neg (fun q => hf ((fs_in_q hb12 hq.2.2 j).mpr q))]
      have E : ∀ r j, r ≠ 34 → sp_setH 33 t b c (hz_ior (sp_hav (t 34) b c) (hz_ishl 1 a)) r j = t r j := fun r j hr => by
        unfold sp_setH
        split
        · rw [hy_up_ne (by omega)]
        · rfl
      have e34 : ∀ j, sp_setH 33 t b c (hz_ior (sp_hav (t 34) b c) (hz_ishl 1 a)) 34 j = if j = (4 * b + c).toNat then hz_ior (t1 62 j) (hz_ishl 1 a) else t 34 j := fun j => by
        unfold sp_setH
        rw [if_pos ⟨hb12, hq.2.2⟩]
        simp only [hy_up, true_and]
        by_cases hj : j = (4 * b + c).toNat
        · rw [if_pos hj, if_pos hj, ehav, hj]
        · rw [if_neg hj, if_neg hj]
      have V2 : fv (sp_setH 33 t b c (hz_ior (sp_hav (t 34) b c) (hz_ishl 1 a))) (mf_chN t1 b (hz_ishl 1 c) a 1 4) := by
        have FT : hy_F (fun r _ => r == 34) t (sp_setH 33 t b c (hz_ior (sp_hav (t 34) b c) (hz_ishl 1 a))) := fun r j q => E r j (by simpa using q)
        have FU : hy_F (fun r _ => r == 62) t1 (mf_chN t1 b (hz_ishl 1 c) a 1 4) := fun r j q => G r j (by simpa using q)
        have SL : lc_same t (sp_setH 33 t b c (hz_ior (sp_hav (t 34) b c) (hz_ishl 1 a))) := lc_same_of FT (fun r j q => by revert q; simp only [lawX, Bool.or_eq_true, Bool.and_eq_true, decide_eq_true_eq, decide_eq_false_iff_not, beq_iff_eq, Bool.or_eq_false_iff, Bool.and_eq_false_iff, beq_eq_false_iff_ne]; omega)
        have ML : ∀ r j, mlawX r j = true → (fun (r _ : Nat) => r == 62) r j = false := fun r j q => by revert q; simp only [mlawX, Bool.or_eq_true, Bool.and_eq_true, decide_eq_true_eq, decide_eq_false_iff_not, beq_iff_eq, Bool.or_eq_false_iff, Bool.and_eq_false_iff, beq_eq_false_iff_ne]; omega
        obtain ⟨⟨⟨v1, v2⟩, v3, v4⟩, v5, v6, v7⟩ := V
        refine ⟨⟨⟨fun x hx => ?_, ?_⟩, fun V V' k s hV => ?_, fun V V' hV => ?_⟩, fun j hj => ?_, fun j hj => ?_, fun f hf => ?_⟩
        · have em : mf_mixed (mf_chN t1 b (hz_ishl 1 c) a 1 4) x = mf_mixed t1 x := by
            unfold mf_mixed
            rw [G 59 0 (by decide), G 60 _ (by decide)]
          rw [em, E 5 3 (by decide), E 6 x (by decide), E 7 x (by decide), G 60 x (by decide), G 61 x (by decide)]
          exact v1 x hx
        · rw [E 33 4 (by decide), G 59 2 (by decide)]
          exact v2
        · rw [mb_holds_F FU ML, lc_same_has SL, lc_same_hold SL]
          exact v3 V V' k s hV
        · rw [mb_amt_F FU ML, lc_same_amt SL]
          exact v4 V V' hV
        · rw [e34, e62, v5 j hj]
        · have pl2 : mf_plain (mf_chN t1 b (hz_ishl 1 c) a 1 4) ((j / 4 : Nat) : Int) = mf_plain t1 ((j / 4 : Nat) : Int) := mf_plain_F (G 59 0 (by decide)) (fun j => G 60 j (by decide)) _
          rw [pl2, e62]
          by_cases hj2 : j = (4 * b + c).toNat
          · rw [if_pos hj2]
            refine ⟨hv_or' (v6 j hj).1 hq.1, fun q => ?_⟩
            exfalso
            rw [show ((j / 4 : Nat) : Int) = b by omega, pl, hq.2.1] at q
            cases q
          · rw [if_neg hj2]
            exact v6 j hj
        · rw [E 9 f (by decide), E 35 f (by decide), G 63 f (by decide), G 64 f (by decide)]
          exact v7 f hf
      rw [fv_worth V2 hq.2.2]
    · rw [if_neg (fun q => hh (by rw [ehav]; exact q.2)), if_neg (fun q => hh q.2)]
  · rw [if_neg (fun q => hq ⟨q.1.1, by rw [← pl]; exact q.1.2.1, q.1.2.2⟩), if_neg (fun q => hq q.1)]
/-! sets of colours, and signals -/
theorem b_sub {x y : Int} (hx : 0 ≤ x ∧ x ≤ 4095) (hy : 0 ≤ y ∧ y ≤ 4095) : (0 ≤ hz_iand x (hz_ixor y (-1)) ∧ hz_iand x (hz_ixor y (-1)) ≤ 4095) ∧ ∀ j : Nat, j < 12 → hz_b (hz_iand x (hz_ixor y (-1))) j = (hz_b x j && !hz_b y j) := by
  have e := hz_sub_n (x := x) (y := y) (by omega) (by omega)
  have hl := hz_iand_lel (x := x) (m := hz_ixor y (-1)) (by omega)
  refine ⟨by omega, fun j hj => ?_⟩
  rw [hz_b_n (x := hz_iand x (hz_ixor y (-1))) (by omega) (by omega), hz_b_n (x := x) (by omega) (by omega), hz_b_n (x := y) (by omega) (by omega), e]
  simp only [Int.toNat_natCast]
  rw [Nat.testBit_xor, Nat.testBit_and]
  cases x.toNat.testBit j <;> cases y.toNat.testBit j <;> rfl
theorem b_and {x y : Int} (hx : 0 ≤ x ∧ x ≤ 4095) (hy : 0 ≤ y ∧ y ≤ 4095) : (0 ≤ hz_iand x y ∧ hz_iand x y ≤ 4095) ∧ ∀ j : Nat, j < 12 → hz_b (hz_iand x y) j = (hz_b x j && hz_b y j) := by
  have e := hz_iand_n (x := x) (y := y) (by omega) (by omega)
  have hl := hz_iand_lel (x := x) (m := y) (by omega)
  refine ⟨by omega, fun j hj => ?_⟩
  rw [hz_b_n (x := hz_iand x y) (by omega) (by omega), hz_b_n (x := x) (by omega) (by omega), hz_b_n (x := y) (by omega) (by omega), e]
  simp only [Int.toNat_natCast]
  rw [Nat.testBit_and]
theorem sub0 {x y : Int} (hx : 0 ≤ x ∧ x ≤ 4095) (hy : 0 ≤ y ∧ y ≤ 4095) : hz_iand x (hz_ixor y (-1)) = 0 ↔ ∀ j : Nat, j < 12 → hz_b x j = true → hz_b y j = true := by
  obtain ⟨a1, a2⟩ := b_sub hx hy
  constructor
  · intro h j hj hb
    have := a2 j hj
    rw [h, hz_b_0, hb, Bool.true_and] at this
    cases e : hz_b y j with
    | true => rfl
    | false => rw [e] at this; cases this
  · intro h
    refine bits_ext a1 (by decide) (fun j hj => ?_)
    rw [a2 j hj, hz_b_0]
    cases e : hz_b x j with
    | true => rw [h j hj e]; rfl
    | false => rfl
theorem al_bits (f : Nat → Int) (l : Int) : ∀ n : Nat, n ≤ 12 → (0 ≤ sp_alikeN f l n ∧ sp_alikeN f l n ≤ 4095) ∧ ∀ j : Nat, j < 12 → hz_b (sp_alikeN f l n) j = (decide (j < n) && decide (f j = l))
  | 0, _ => ⟨by simp [sp_alikeN], fun j hj => by
    show hz_b 0 j = _
    rw [hz_b_0, decide_eq_false (by omega), Bool.false_and]⟩
  | n + 1, hn => by
    obtain ⟨a1, a2⟩ := al_bits f l n (by omega)
    have st : sp_alikeN f l (n + 1) = hz_ior (sp_alikeN f l n) (hz_ishl (hy_b (decide (f n = l))) n) := by
      simp only [sp_alikeN]
      by_cases h : f n = l
      · rw [if_pos h, decide_eq_true h]; rfl
      · rw [if_neg h, decide_eq_false h, show hy_b false = 0 from rfl, fz_shl0, fz_or0 (by omega)]
    obtain ⟨b1, b2⟩ := bit_may a1 (c := n) (by omega) (decide (f n = l))
    rw [st]
    refine ⟨b1, fun j hj => ?_⟩
    rw [b2 j hj, a2 j hj]
    by_cases h1 : j < n
    · rw [decide_eq_true h1, decide_eq_true (show j < n + 1 by omega), decide_eq_false (show ¬ n = j by omega)]
      simp
    · by_cases h2 : n = j
      · subst h2
        rw [decide_eq_false h1, decide_eq_true (Nat.lt_succ_self n), decide_eq_true rfl]
        simp
      · rw [decide_eq_false h1, decide_eq_false (show ¬ j < n + 1 by omega), decide_eq_false h2]
        simp
theorem lk_n (L : Nat → Int) {c : Nat} (hc : c < 12) : lk L (c : Int) = L c := by
  unfold lk
  rw [if_pos (by omega), Int.toNat_natCast]
theorem lk_12 (L : Nat → Int) : lk L 12 = 12 := by
  unfold lk
  rw [if_neg (by omega)]
theorem unl_bits {w : Int} (hw : 0 ≤ w ∧ w ≤ 4095) (L : Nat → Int) {c : Nat} (hc : c < 12) : (0 ≤ wf_unl w L c ∧ wf_unl w L c ≤ 4095) ∧ ∀ j : Nat, j < 12 → (hz_b (wf_unl w L c) j = true ↔ L c ≠ 12 ∧ (j = c ∨ (hz_b w j = true ∧ L j ≠ L c ∧ L j ≠ 12))) := by
  unfold wf_unl wf_alk
  rw [lk_n L hc, lk_12]
  by_cases h12 : L c = 12
  · rw [if_pos h12]
    exact ⟨by omega, fun j hj => ⟨fun q => (by rw [hz_b_0] at q; cases q), fun q => absurd h12 q.1⟩⟩
  · rw [if_neg h12]
    obtain ⟨a1, a2⟩ := al_bits L (L c) 12 (Nat.le_refl _)
    obtain ⟨b1, b2⟩ := al_bits L 12 12 (Nat.le_refl _)
    obtain ⟨c1, c2⟩ := b_sub hw a1
    obtain ⟨d1, d2⟩ := b_sub c1 b1
    obtain ⟨e1, e2⟩ := bit_may d1 hc true
    refine ⟨e1, fun j hj => ?_⟩
    rw [show hz_ishl 1 (c : Int) = hz_ishl (hy_b true) c from rfl, e2 j hj, d2 j hj, c2 j hj, a2 j hj, b2 j hj, decide_eq_true hj]
    simp only [Bool.true_and, Bool.and_true, Bool.or_eq_true, Bool.and_eq_true, Bool.not_eq_true', decide_eq_true_eq, decide_eq_false_iff_not]
    constructor
    · intro q
      rcases q with ⟨⟨p, q⟩, r⟩ | q
      · exact ⟨h12, .inr ⟨p, q, r⟩⟩
      · exact ⟨h12, .inl q.symm⟩
    · intro q
      rcases q.2 with q | ⟨p, q, r⟩
      · exact .inr q.symm
      · exact .inl ⟨⟨p, q⟩, r⟩
theorem all_succ {P : Nat → Prop} {e : Nat} : (∀ k : Nat, k < e + 1 → P k) ↔ (∀ k : Nat, k < e → P k) ∧ P e := ⟨fun h => ⟨fun k hk => h k (by omega), h e (by omega)⟩, fun h k hk => by
  rcases Nat.lt_succ_iff_lt_or_eq.mp hk with x | rfl
  · exact h.1 k x
  · exact h.2⟩
/-- what an empire asks of two colours in one set -/
def sg_F (a : Nat → Nat → Int) (p o : Int) (c j e : Nat) : Prop := (hz_b p e = true → a e c ≠ 12 ∧ (j = c ∨ (a e j ≠ a e c ∧ a e j ≠ 12))) ∧ (hz_b o e = true → a e j = a e c)
theorem pr_bits {t : hy_T} {q p o : Int} {a : Nat → Nat → Int} (hw : 0 ≤ t 5 2 ∧ t 5 2 ≤ 4095) (hd : ∀ e : Nat, e < 6 → hz_b p e = true → hz_b o e = true → False) (ha : ∀ (e : Nat) (f : Nat → Int), e < 6 → ∀ j : Nat, j < 12 → sp_asN t (sp_seen t e q) f 12 j = a e j) {c : Nat} (hc : c < 12) : ∀ e : Nat, e ≤ 6 → (0 ≤ wf_pr t q p o e c ∧ wf_pr t q p o e c ≤ 4095) ∧ ∀ j : Nat, j < 12 → (hz_b (wf_pr t q p o e c) j = true ↔ (sp_told (t 5 2) c = true ∧ hz_b (t 5 2) j = true) ∧ ∀ k : Nat, k < e → sg_F a p o c j k)
  | 0, _ => by
    simp only [wf_pr]
    by_cases h : sp_told (t 5 2) c = true
    · rw [if_pos h]
      exact ⟨hw, fun j hj => ⟨fun q => ⟨⟨h, q⟩, fun k hk => absurd hk (Nat.not_lt_zero k)⟩, fun q => q.1.2⟩⟩
    · rw [if_neg h]
      exact ⟨by decide, fun j hj => ⟨fun q => (by rw [hz_b_0] at q; cases q), fun q => absurd q.1.1 h⟩⟩
  | e + 1, he => by
    obtain ⟨a1, a2⟩ := pr_bits hw hd ha hc e (by omega)
    have al : ∀ (hor : hz_b p e = true ∨ hz_b o e = true) (j : Nat), j < 12 → wf_aL t q p o (e + 1) j = a e j := fun hor j hj => by
      simp only [wf_aL]
      rw [if_pos hor]
      exact ha e _ (by omega) j hj
    by_cases h1 : hz_b p e = true
    · have h2 : hz_b o e ≠ true := fun q => hd e (by omega) h1 q
      have ew : wf_pr t q p o (e + 1) c = hz_iand (wf_pr t q p o e c) (wf_unl (t 5 2) (wf_aL t q p o (e + 1)) c) := by
        simp only [wf_pr]
        rw [if_pos h1]
      obtain ⟨b1, b2⟩ := unl_bits hw (wf_aL t q p o (e + 1)) hc
      obtain ⟨c1, c2⟩ := b_and a1 b1
      rw [ew]
      refine ⟨c1, fun j hj => ?_⟩
      rw [c2 j hj, Bool.and_eq_true, a2 j hj, b2 j hj, al (.inl h1) j hj, al (.inl h1) c hc, all_succ]
      unfold sg_F
      constructor
      · intro ⟨⟨x1, x2⟩, x3, x4⟩
        refine ⟨x1, x2, fun _ => ⟨x3, ?_⟩, fun y => absurd y h2⟩
        rcases x4 with x4 | x4
        · exact .inl x4
        · exact .inr x4.2
      · intro ⟨x1, x2, x3, _⟩
        obtain ⟨y1, y2⟩ := x3 h1
        refine ⟨⟨x1, x2⟩, y1, ?_⟩
        rcases y2 with y2 | y2
        · exact .inl y2
        · exact .inr ⟨x1.2, y2⟩
    · by_cases h2 : hz_b o e = true
      · have ew : wf_pr t q p o (e + 1) c = hz_iand (wf_pr t q p o e c) (sp_alikeN (wf_aL t q p o (e + 1)) (wf_aL t q p o (e + 1) c) 12) := by
          simp only [wf_pr]
          rw [if_neg h1, if_pos h2]
          unfold wf_alk
          rw [lk_n _ hc]
        obtain ⟨b1, b2⟩ := al_bits (wf_aL t q p o (e + 1)) (wf_aL t q p o (e + 1) c) 12 (Nat.le_refl _)
        obtain ⟨c1, c2⟩ := b_and a1 b1
        rw [ew]
        refine ⟨c1, fun j hj => ?_⟩
        rw [c2 j hj, Bool.and_eq_true, a2 j hj, b2 j hj, al (.inr h2) j hj, al (.inr h2) c hc, all_succ, decide_eq_true hj, Bool.true_and, decide_eq_true_eq]
        unfold sg_F
        exact ⟨fun ⟨⟨x1, x2⟩, x3⟩ => ⟨x1, x2, fun y => absurd y h1, fun _ => x3⟩, fun ⟨x1, x2, _, x3⟩ => ⟨⟨x1, x2⟩, x3 h2⟩⟩
      · have ew : wf_pr t q p o (e + 1) c = wf_pr t q p o e c := by
          simp only [wf_pr]
          rw [if_neg h1, if_neg h2]
        rw [ew]
        refine ⟨a1, fun j hj => ?_⟩
        rw [a2 j hj, all_succ]
        exact ⟨fun x => ⟨x.1, x.2, fun y => absurd y h1, fun y => absurd y h2⟩, fun x => ⟨x.1, x.2.1⟩⟩
/-- a set that friends tell apart and foes do not -/
def sg_P (a : Nat → Nat → Int) (p o s : Int) : Prop := ∀ e : Nat, e < 6 → (hz_b p e = true → ∀ c : Nat, c < 12 → hz_b s c = true → a e c ≠ 12 ∧ ∀ j : Nat, j < 12 → hz_b s j = true → j ≠ c → a e j ≠ a e c) ∧ (hz_b o e = true → ∀ c : Nat, c < 12 → hz_b s c = true → ∀ j : Nat, j < 12 → hz_b s j = true → a e j = a e c)
theorem sig_iff {t : hy_T} {q p o : Int} {a : Nat → Nat → Int} (hw : 0 ≤ t 5 2 ∧ t 5 2 ≤ 4095) (hd : ∀ e : Nat, e < 6 → hz_b p e = true → hz_b o e = true → False) (ha : ∀ (e : Nat) (f : Nat → Int), e < 6 → ∀ j : Nat, j < 12 → sp_asN t (sp_seen t e q) f 12 j = a e j) {s : Int} (hs : 0 ≤ s ∧ s ≤ 4095) : wf_sig (wf_pr t q p o 6) s = true ↔ hz_iand s (hz_ixor (t 5 2) (-1)) = 0 ∧ sg_P a p o s := by
  unfold wf_sig
  rw [decide_eq_true_eq, sub0 hs hw]
  have P := fun {c : Nat} (hc : c < 12) => pr_bits (c := c) hw hd ha hc 6 (Nat.le_refl _)
  constructor
  · intro h
    have g : ∀ c : Nat, c < 12 → hz_b s c = true → ∀ j : Nat, j < 12 → hz_b s j = true → (sp_told (t 5 2) c = true ∧ hz_b (t 5 2) j = true) ∧ ∀ k : Nat, k < 6 → sg_F a p o c j k := fun c hc hb j hj hbj => ((P hc).2 j hj).mp ((sub0 hs (P hc).1).mp (h c hc hb) j hj hbj)
    refine ⟨fun j hj hb => (g j hj hb j hj hb).1.2, fun e he => ⟨fun hp c hc hb => ?_, fun ho c hc hb j hj hbj => ((g c hc hb j hj hbj).2 e he).2 ho⟩⟩
    refine ⟨(((g c hc hb c hc hb).2 e he).1 hp).1, fun j hj hbj hne => ?_⟩
    rcases (((g c hc hb j hj hbj).2 e he).1 hp).2 with x | x
    · exact absurd x hne
    · exact x.1
  · intro ⟨h1, h2⟩ c hc hb
    refine (sub0 hs (P hc).1).mpr (fun j hj hbj => ((P hc).2 j hj).mpr ⟨⟨?_, h1 j hj hbj⟩, fun e he => ⟨fun hp => ?_, fun ho => (h2 e he).2 ho c hc hb j hj hbj⟩⟩)
    · unfold sp_told
      rw [decide_eq_true (by omega), h1 c hc hb]
      rfl
    · refine ⟨((h2 e he).1 hp c hc hb).1, ?_⟩
      by_cases hjc : j = c
      · exact .inl hjc
      · exact .inr ⟨((h2 e he).1 hp c hc hb).2 j hj hbj hjc, ((h2 e he).1 hp j hj hbj).1⟩
/-! the model's words for it -/
theorem tell_iff {A : Nat → Int} {e : Nat} (hA : ∀ c : Nat, c < 12 → 0 ≤ A (12 * e + c) ∧ A (12 * e + c) ≤ 12) (s : Int) : ∀ (m k : Nat) (sn : Int), m + k = 12 → (0 ≤ sn ∧ sn ≤ 4095) → (ms_tellN A e s m k sn = true ↔ ∀ c : Nat, k ≤ c → c < 12 → hz_b s c = true → A (12 * e + c) ≠ 12 ∧ hz_b sn (A (12 * e + c)) = false ∧ ∀ j : Nat, k ≤ j → j < c → hz_b s j = true → A (12 * e + j) ≠ A (12 * e + c))
  | 0, k, sn, hm, hsn => ⟨fun _ c h1 h2 => by omega, fun _ => rfl⟩
  | m + 1, k, sn, hm, hsn => by
    simp only [ms_tellN]
    by_cases hb : hz_b s k = true
    · rw [if_pos hb]
      have hk := hA k (by omega)
      by_cases h12 : A (12 * e + k) = 12 ∨ hz_b sn (A (12 * e + k)) = true
      · rw [if_pos h12]
        refine ⟨fun q => (by cases q), fun q => ?_⟩
        obtain ⟨x1, x2, -⟩ := q k (Nat.le_refl _) (by omega) hb
        rcases h12 with y | y
        · exact absurd y x1
        · rw [y] at x2; cases x2
      · rw [if_neg h12]
        have n12 : A (12 * e + k) ≠ 12 := fun y => h12 (.inl y)
        have nsn : hz_b sn (A (12 * e + k)) = false := by
          cases y : hz_b sn (A (12 * e + k)) with
          | true => exact absurd (.inr y) h12
          | false => rfl
        obtain ⟨b1, b2⟩ := bit_may hsn (c := (A (12 * e + k)).toNat) (by omega) true
        rw [show (((A (12 * e + k)).toNat : Nat) : Int) = A (12 * e + k) by omega] at b1 b2
        have b1 : 0 ≤ hz_ior sn (hz_ishl 1 (A (12 * e + k))) ∧ hz_ior sn (hz_ishl 1 (A (12 * e + k))) ≤ 4095 := b1
        have b2' : ∀ c : Nat, c < 12 → A (12 * e + c) ≠ 12 → hz_b (hz_ior sn (hz_ishl 1 (A (12 * e + k)))) (A (12 * e + c)) = (hz_b sn (A (12 * e + c)) || decide (A (12 * e + k) = A (12 * e + c))) := fun c hc hne => by
          have hcA := hA c hc
          have := b2 (A (12 * e + c)).toNat (by omega)
          rw [show (((A (12 * e + c)).toNat : Nat) : Int) = A (12 * e + c) by omega, Bool.and_true] at this
          refine this.trans ?_
          congr 1
          exact decide_eq_decide.mpr ⟨fun y => by omega, fun y => by omega⟩
        rw [tell_iff hA s m (k + 1) _ (by omega) b1]
        constructor
        · intro h c h1 h2 h3
          by_cases hck : c = k
          · subst hck
            exact ⟨n12, nsn, fun j y1 y2 => by omega⟩
          · obtain ⟨x1, x2, x3⟩ := h c (by omega) h2 h3
            rw [b2' c h2 x1, Bool.or_eq_false_iff, decide_eq_false_iff_not] at x2
            refine ⟨x1, x2.1, fun j y1 y2 y3 => ?_⟩
            by_cases hjk : j = k
            · rw [hjk]
              exact x2.2
            · exact x3 j (by omega) y2 y3
        · intro h c h1 h2 h3
          obtain ⟨x1, x2, x3⟩ := h c (by omega) h2 h3
          refine ⟨x1, ?_, fun j y1 y2 y3 => x3 j (by omega) y2 y3⟩
          rw [b2' c h2 x1, Bool.or_eq_false_iff, decide_eq_false_iff_not]
          exact ⟨x2, x3 k (Nat.le_refl _) (by omega) hb⟩
    · rw [if_neg hb, tell_iff hA s m (k + 1) sn (by omega) hsn]
      constructor
      · intro h c h1 h2 h3
        by_cases hck : c = k
        · subst hck
          exact absurd h3 hb
        · obtain ⟨x1, x2, x3⟩ := h c (by omega) h2 h3
          refine ⟨x1, x2, fun j y1 y2 y3 => ?_⟩
          by_cases hjk : j = k
          · rw [hjk] at y3
            exact absurd y3 hb
          · exact x3 j (by omega) y2 y3
      · intro h c h1 h2 h3
        obtain ⟨x1, x2, x3⟩ := h c (by omega) h2 h3
        exact ⟨x1, x2, fun j y1 y2 y3 => x3 j (by omega) y2 y3⟩
theorem one_iff {A : Nat → Int} {e : Nat} (hA : ∀ c : Nat, c < 12 → 0 ≤ A (12 * e + c) ∧ A (12 * e + c) ≤ 12) (s : Int) : ∀ (m k : Nat) (f : Int), m + k = 12 → (ms_oneN A e s m k f = true ↔ ∀ c : Nat, k ≤ c → c < 12 → hz_b s c = true → (f = -1 ∨ A (12 * e + c) = f) ∧ ∀ j : Nat, k ≤ j → j < 12 → hz_b s j = true → A (12 * e + j) = A (12 * e + c))
  | 0, k, f, hm => ⟨fun _ c h1 h2 => by omega, fun _ => rfl⟩
  | m + 1, k, f, hm => by
    simp only [ms_oneN]
    by_cases hb : hz_b s k = true
    · rw [if_pos hb]
      have hk := hA k (by omega)
      by_cases h12 : f ≠ -1 ∧ A (12 * e + k) ≠ f
      · rw [if_pos h12]
        refine ⟨fun q => (by cases q), fun q => ?_⟩
        rcases (q k (Nat.le_refl _) (by omega) hb).1 with y | y
        · exact absurd y h12.1
        · exact absurd y h12.2
      · rw [if_neg h12, one_iff hA s m (k + 1) _ (by omega)]
        have ff : f = -1 ∨ A (12 * e + k) = f := by omega
        constructor
        · intro h
          have al : ∀ c : Nat, k ≤ c → c < 12 → hz_b s c = true → A (12 * e + c) = A (12 * e + k) := fun c h1 h2 h3 => by
            by_cases hck : c = k
            · rw [hck]
            · rcases (h c (by omega) h2 h3).1 with y | y
              · omega
              · exact y
          intro c h1 h2 h3
          refine ⟨by have := al c h1 h2 h3; omega, fun j y1 y2 y3 => by rw [al j y1 y2 y3, al c h1 h2 h3]⟩
        · intro h c h1 h2 h3
          exact ⟨.inr ((h k (Nat.le_refl _) (by omega) hb).2 c (by omega) h2 h3), fun j y1 y2 y3 => (h c (by omega) h2 h3).2 j (by omega) y2 y3⟩
    · rw [if_neg hb, one_iff hA s m (k + 1) f (by omega)]
      constructor
      · intro h c h1 h2 h3
        by_cases hck : c = k
        · subst hck
          exact absurd h3 hb
        · obtain ⟨x1, x2⟩ := h c (by omega) h2 h3
          refine ⟨x1, fun j y1 y2 y3 => ?_⟩
          by_cases hjk : j = k
          · rw [hjk] at y3
            exact absurd y3 hb
          · exact x2 j (by omega) y2 y3
      · intro h c h1 h2 h3
        obtain ⟨x1, x2⟩ := h c (by omega) h2 h3
        exact ⟨x1, fun j y1 y2 y3 => x2 j (by omega) y2 y3⟩
theorem sigN_iff {A : Nat → Int} (s p o : Int) : ∀ n : Nat, ms_sigN A s p o n = true ↔ ∀ e : Nat, e < n → (hz_b p e = true → ms_tellN A e s 12 0 0 = true) ∧ (hz_b o e = true → ms_oneN A e s 12 0 (-1) = true)
  | 0 => ⟨fun _ e he => absurd he (Nat.not_lt_zero e), fun _ => rfl⟩
  | n + 1 => by
    simp only [ms_sigN]
    rw [Bool.and_eq_true, sigN_iff s p o n, all_succ]
    have : ((!hz_b p n || ms_tellN A n s 12 0 0) && (!hz_b o n || ms_oneN A n s 12 0 (-1))) = true ↔ (hz_b p n = true → ms_tellN A n s 12 0 0 = true) ∧ (hz_b o n = true → ms_oneN A n s 12 0 (-1) = true) := by
      cases hz_b p n <;> cases hz_b o n <;> simp
    rw [this]
theorem sigN_P {A : Nat → Int} {a : Nat → Nat → Int} (hA : ∀ e : Nat, e < 6 → ∀ c : Nat, c < 12 → A (12 * e + c) = a e c) (ha : ∀ e c : Nat, 0 ≤ a e c ∧ a e c ≤ 12) (s p o : Int) : ms_sigN A s p o 6 = true ↔ sg_P a p o s := by
  rw [sigN_iff]
  unfold sg_P
  refine forall_congr' (fun e => forall_congr' (fun he => ?_))
  have hR : ∀ c : Nat, c < 12 → 0 ≤ A (12 * e + c) ∧ A (12 * e + c) ≤ 12 := fun c hc => by rw [hA e he c hc]; exact ha e c
  rw [tell_iff hR s 12 0 0 rfl (by decide), one_iff hR s 12 0 (-1) rfl]
  constructor
  · intro ⟨h1, h2⟩
    refine ⟨fun hp c hc hb => ⟨?_, fun j hj hbj hne => ?_⟩, fun ho c hc hb j hj hbj => ?_⟩
    · rw [← hA e he c hc]
      exact (h1 hp c (Nat.zero_le _) hc hb).1
    · rw [← hA e he c hc, ← hA e he j hj]
      rcases Nat.lt_or_gt_of_ne hne with x | x
      · exact (h1 hp c (Nat.zero_le _) hc hb).2.2 j (Nat.zero_le _) x hbj
      · exact fun y => (h1 hp j (Nat.zero_le _) hj hbj).2.2 c (Nat.zero_le _) x hb y.symm
    · rw [← hA e he c hc, ← hA e he j hj]
      exact (h2 ho c (Nat.zero_le _) hc hb).2 j (Nat.zero_le _) hj hbj
  · intro ⟨h1, h2⟩
    refine ⟨fun hp c _ hc hb => ⟨?_, hz_b_0 _, fun j _ hj hbj => ?_⟩, fun ho c _ hc hb => ⟨.inl rfl, fun j _ hj hbj => ?_⟩⟩
    · rw [hA e he c hc]
      exact (h1 hp c hc hb).1
    · rw [hA e he c hc, hA e he j (by omega)]
      exact (h1 hp c hc hb).2 j (by omega) hbj (by omega)
    · rw [hA e he c hc, hA e he j hj]
      exact h2 ho c hc hb j hj hbj
theorem popc_hi : ∀ n x : Nat, popc (n + 1) x = popc n x + (if x.testBit n = true then 1 else 0)
  | 0, x => by
    show x % 2 + 0 = 0 + _
    rw [Nat.testBit_zero]
    by_cases h : x % 2 = 1
    · rw [if_pos (decide_eq_true h)]
      omega
    · rw [if_neg (fun q => h (of_decide_eq_true q))]
      omega
  | n + 1, x => by
    show x % 2 + popc (n + 1) (x / 2) = x % 2 + popc n (x / 2) + _
    rw [popc_hi n (x / 2), Nat.testBit_succ]
    omega
theorem bits_popc {x : Int} (hx : 0 ≤ x ∧ x ≤ 4095) : ∀ n : Nat, n ≤ 12 → mf_bitsN x n = (popc n x.toNat : Int)
  | 0, _ => rfl
  | n + 1, hn => by
    simp only [mf_bitsN]
    rw [bits_popc hx n (by omega), popc_hi, hz_b_n (by omega) (by omega), Int.toNat_natCast]
    cases x.toNat.testBit n <;> rfl
theorem bc12 {n : Nat} (h : n < 4096) : sp_bc (n : Int) = mf_bitsN (n : Int) 12 := by
  rw [bits_popc (by omega) 12 (Nat.le_refl _), Int.toNat_natCast]
  exact sp_bc_pop n h
section SG
variable {A P : Nat → Int} {w n p o : Int}
theorem acc_e (k : Nat) (hg : ms_good A w p o k) : ms_acc A w n p o (k + 1) = if mf_bitsN k 12 = n then ((ms_acc A w n p o k).1 + 1, (if (ms_acc A w n p o k).1 = 0 then (k : Int) else (ms_acc A w n p o k).2.1), (if mf_bitsN k 12 < (ms_acc A w n p o k).2.2 then (ms_acc A w n p o k).2.2 else mf_bitsN k 12)) else ((ms_acc A w n p o k).1, (ms_acc A w n p o k).2.1, (if mf_bitsN k 12 < (ms_acc A w n p o k).2.2 then (ms_acc A w n p o k).2.2 else mf_bitsN k 12)) := if_pos hg
theorem acc_n (k : Nat) (hg : ¬ ms_good A w p o k) : ms_acc A w n p o (k + 1) = ms_acc A w n p o k := if_neg hg
theorem acc_0 : ∀ k : Nat, (ms_acc A w n p o k).1 = 0 → (ms_acc A w n p o k).2.1 = -2
  | 0 => fun _ => rfl
  | k + 1 => by
    have hin := ms_acc_in A w n p o k
    by_cases hg : ms_good A w p o k
    · rw [acc_e k hg]
      by_cases hn : mf_bitsN k 12 = n
      · rw [if_pos hn]
        intro h
        dsimp only at h
        omega
      · rw [if_neg hn]
        exact acc_0 k
    · rw [acc_n k hg]
      exact acc_0 k
theorem acc_1 (H : ∀ k : Nat, k < 4096 → (wf_sig P k = true ↔ hz_iand (k : Int) (hz_ixor w (-1)) = 0 ∧ ms_sigN A k p o 6 = true)) (hn : 2 ≤ n ∧ n ≤ 6) : ∀ k : Nat, k ≤ 4096 → (ms_acc A w n p o k).1 = wf_setsN P n k
  | 0, _ => rfl
  | k + 1, hk => by
    have ih := acc_1 H hn k (by omega)
    rw [wf_setsN_e, bc12 (show k < 4096 by omega)]
    by_cases hb : mf_bitsN k 12 = n
    · by_cases hs : wf_sig P k = true
      · have hg : ms_good A w p o k := ⟨((H k (by omega)).mp hs).1, by omega, ((H k (by omega)).mp hs).2⟩
        rw [if_pos ⟨hb, hs⟩, acc_e k hg, if_pos hb, ← ih]
      · have hg : ¬ ms_good A w p o k := fun g => hs ((H k (by omega)).mpr ⟨g.1, g.2.2⟩)
        rw [if_neg (fun x => hs x.2), acc_n k hg, ih]
    · rw [if_neg (fun x => hb x.1)]
      by_cases hg : ms_good A w p o k
      · rw [acc_e k hg, if_neg hb]
        exact ih
      · rw [acc_n k hg, ih]
theorem acc_2 (H : ∀ k : Nat, k < 4096 → (wf_sig P k = true ↔ hz_iand (k : Int) (hz_ixor w (-1)) = 0 ∧ ms_sigN A k p o 6 = true)) (hn : 2 ≤ n ∧ n ≤ 6) : ∀ m k : Nat, m + k = 4096 → (if (ms_acc A w n p o k).1 = 0 then wf_firstN P n m k else (ms_acc A w n p o k).2.1) = (ms_acc A w n p o 4096).2.1
  | 0, k, hm => by
    obtain rfl : k = 4096 := by omega
    by_cases h0 : (ms_acc A w n p o 4096).1 = 0
    · rw [if_pos h0, acc_0 _ h0]
      rfl
    · rw [if_neg h0]
  | m + 1, k, hm => by
    have hin := ms_acc_in A w n p o k
    rw [← acc_2 H hn m (k + 1) (by omega)]
    show (if (ms_acc A w n p o k).1 = 0 then (if sp_bc k = n ∧ wf_sig P k = true then (k : Int) else wf_firstN P n m (k + 1)) else (ms_acc A w n p o k).2.1) = _
    rw [bc12 (show k < 4096 by omega)]
    by_cases hg : ms_good A w p o k
    · rw [acc_e k hg]
      by_cases hb : mf_bitsN k 12 = n
      · rw [if_pos hb]
        dsimp only
        have hcd : mf_bitsN k 12 = n ∧ wf_sig P k = true := ⟨hb, (H k (by omega)).mpr ⟨hg.1, hg.2.2⟩⟩
        rw [if_neg (show ¬ (ms_acc A w n p o k).1 + 1 = 0 by omega), if_pos hcd]
      · rw [if_neg hb]
        dsimp only
        have hcd : ¬ (mf_bitsN k 12 = n ∧ wf_sig P k = true) := fun x => hb x.1
        rw [if_neg hcd]
    · rw [acc_n k hg, if_neg (fun x : mf_bitsN k 12 = n ∧ wf_sig P k = true => hg ⟨((H k (by omega)).mp x.2).1, by omega, ((H k (by omega)).mp x.2).2⟩)]
theorem acc_m : ∀ k : Nat, (∀ s : Nat, s < k → ms_good A w p o s → mf_bitsN s 12 ≤ (ms_acc A w n p o k).2.2) ∧ ((ms_acc A w n p o k).2.2 = 0 ∨ ∃ s : Nat, s < k ∧ ms_good A w p o s ∧ mf_bitsN s 12 = (ms_acc A w n p o k).2.2)
  | 0 => ⟨fun s hs => absurd hs (Nat.not_lt_zero s), .inl rfl⟩
  | k + 1 => by
    obtain ⟨a1, a2⟩ := acc_m k
    by_cases hg : ms_good A w p o k
    · have e : (ms_acc A w n p o (k + 1)).2.2 = if mf_bitsN k 12 < (ms_acc A w n p o k).2.2 then (ms_acc A w n p o k).2.2 else mf_bitsN k 12 := by
        rw [acc_e k hg]
        split <;> rfl
      rw [e]
      refine ⟨fun s hs hg2 => ?_, ?_⟩
      · rcases Nat.lt_succ_iff_lt_or_eq.mp hs with x | x
        · have := a1 s x hg2
          split <;> omega
        · rw [x]
          split <;> omega
      · split
        · rcases a2 with x | ⟨s, x1, x2, x3⟩
          · exact .inl x
          · exact .inr ⟨s, by omega, x2, x3⟩
        · exact .inr ⟨k, by omega, hg, rfl⟩
    · rw [acc_n k hg]
      refine ⟨fun s hs hg2 => ?_, ?_⟩
      · rcases Nat.lt_succ_iff_lt_or_eq.mp hs with x | x
        · exact a1 s x hg2
        · rw [x] at hg2
          exact absurd hg2 hg
      · rcases a2 with x | ⟨s, x1, x2, x3⟩
        · exact .inl x
        · exact .inr ⟨s, by omega, x2, x3⟩
theorem first_iff (v : Int) : ∀ m k : Nat, 0 ≤ wf_firstN P v m k ↔ ∃ s : Nat, k ≤ s ∧ s < k + m ∧ sp_bc s = v ∧ wf_sig P s = true
  | 0, k => ⟨fun h => absurd h (show ¬ (0 : Int) ≤ -2 by decide), fun ⟨s, h1, h2, _⟩ => by omega⟩
  | m + 1, k => by
    show 0 ≤ (if sp_bc k = v ∧ wf_sig P k = true then (k : Int) else wf_firstN P v m (k + 1)) ↔ _
    by_cases h : sp_bc k = v ∧ wf_sig P k = true
    · rw [if_pos h]
      exact ⟨fun _ => ⟨k, Nat.le_refl _, by omega, h.1, h.2⟩, fun _ => by omega⟩
    · rw [if_neg h, first_iff v m (k + 1)]
      constructor
      · intro ⟨s, h1, h2, h3⟩
        exact ⟨s, by omega, by omega, h3⟩
      · intro ⟨s, h1, h2, h3⟩
        have : s ≠ k := fun x => h (by rw [← x]; exact h3)
        exact ⟨s, by omega, by omega, h3⟩
theorem acc_3 (H : ∀ k : Nat, k < 4096 → (wf_sig P k = true ↔ hz_iand (k : Int) (hz_ixor w (-1)) = 0 ∧ ms_sigN A k p o 6 = true)) : ∀ m : Nat, m ≤ 5 → (ms_acc A w n p o 4096).2.2 ≤ (m : Int) + 1 → wf_mostN P m = (ms_acc A w n p o 4096).2.2
  | 0, _, h => by
    obtain ⟨a1, a2⟩ := acc_m (A := A) (w := w) (n := n) (p := p) (o := o) 4096
    rcases a2 with x | ⟨s, x1, x2, x3⟩
    · rw [x]
      rfl
    · have := x2.2.1
      omega
  | m + 1, hm, h => by
    obtain ⟨a1, a2⟩ := acc_m (A := A) (w := w) (n := n) (p := p) (o := o) 4096
    show (if 0 ≤ wf_firstN P ((m : Int) + 2) 4096 0 then (m : Int) + 2 else wf_mostN P m) = _
    by_cases hf : 0 ≤ wf_firstN P ((m : Int) + 2) 4096 0
    · rw [if_pos hf]
      obtain ⟨s, h1, h2, h3, h4⟩ := (first_iff _ _ _).mp hf
      rw [bc12 (by omega)] at h3
      have := a1 s (by omega) ⟨((H s (by omega)).mp h4).1, by omega, ((H s (by omega)).mp h4).2⟩
      omega
    · rw [if_neg hf]
      refine acc_3 H m (by omega) ?_
      rcases a2 with x | ⟨s, x1, x2, x3⟩
      · omega
      · have : mf_bitsN s 12 ≠ (m : Int) + 2 := fun y => hf ((first_iff _ _ _).mpr ⟨s, Nat.zero_le _, by omega, by rw [bc12 (by omega)]; exact y, (H s (by omega)).mpr ⟨x2.1, x2.2.2⟩⟩)
        omega
end SG
theorem fr_signals {t t1 t2 : hy_T} {n p o q w : Int} (h : fr t) (m : mK t) (F : hy_F snX t t1) (B : ms_sgc n p o q w → ms_by t1 q t2) : (if ms_sgc n p o q w then (if w = 0 then (ms_acc (t2 98) (t1 59 0) n p o 4096).1 else if w = 1 then (ms_acc (t2 98) (t1 59 0) n p o 4096).2.1 else (ms_acc (t2 98) (t1 59 0) n p o 4096).2.2) else -1) = wf_signals t n p o q w := by
  have hX : ∀ r j, 59 ≤ r → snX r j = false := fun r j q => by simp only [snX, Bool.or_eq_true, Bool.and_eq_true, decide_eq_true_eq, decide_eq_false_iff_not, beq_iff_eq, Bool.or_eq_false_iff, Bool.and_eq_false_iff, beq_eq_false_iff_ne]; omega
  unfold wf_signals
  rw [fr_toldE h F hX]
  by_cases hq : ms_sgc n p o q w
  · have hq2 : wf_sigok n p o q w := ⟨⟨⟨hq.1.1, by have := hq.1.2; omega⟩, hq.2.1.1, by have := hq.2.1.2; omega⟩, ⟨hq.2.2.1, hq.2.2.2.1, hq.2.2.2.2.1.1, by have := hq.2.2.2.2.1.2; omega⟩, by
      by_cases h2 : w = 2
      · exact .inl h2
      · exact .inr (hq.2.2.2.2.2 (by have := hq.2.2.2.2.1.2; omega))⟩
    rw [if_pos hq, if_pos hq2]
    obtain ⟨g1, g2, g3, g4, g5, g6⟩ := id hq
    have hw := h.1.2.1.1.2.1
    have hd : ∀ e : Nat, e < 6 → hz_b p e = true → hz_b o e = true → False := fun e he h1 h2 => by
      have := (b_and (x := p) (y := o) (by omega) (by omega)).2 e (by omega)
      rw [g3, hz_b_0, h1, h2] at this
      cases this
    have ha : ∀ (e : Nat) (f : Nat → Int), e < 6 → ∀ j : Nat, j < 12 → sp_asN t (sp_seen t e q) f 12 j = mq_as t1 e q j := fun e f he j hj => by
      unfold mq_as
      rw [(fr_seen h m F hX g4).1]
      exact fe_asN (fr_fe h m F hX) _ f 12 (Nat.le_refl _) j hj
    have H : ∀ k : Nat, k < 4096 → (wf_sig (wf_pr t q p o 6) k = true ↔ hz_iand (k : Int) (hz_ixor (t 5 2) (-1)) = 0 ∧ ms_sigN (t2 98) k p o 6 = true) := fun k hk => by
      rw [sig_iff (a := fun e j => mq_as t1 e q j) hw hd ha (by omega), sigN_P (a := fun e j => mq_as t1 e q j) (fun e he c hc => B hq e he c hc) (fun e c => mq_as_in t1 e q c)]
    by_cases h0 : w = 0
    · rw [if_pos h0, if_pos h0]
      exact acc_1 H (g6 (by omega)) 4096 (Nat.le_refl _)
    · rw [if_neg h0, if_neg h0]
      by_cases h1 : w = 1
      · rw [if_pos h1, if_pos h1]
        have := acc_2 H (g6 (by omega)) 4096 0 rfl
        rw [if_pos (show (ms_acc (t2 98) (t 5 2) n p o 0).1 = 0 from rfl)] at this
        exact this.symm
      · rw [if_neg h1, if_neg h1]
        refine (acc_3 H 5 (Nat.le_refl _) ?_).symm
        rcases (acc_m (A := t2 98) (w := t 5 2) (n := n) (p := p) (o := o) 4096).2 with x | ⟨s, x1, x2, x3⟩
        · rw [x]
          decide
        · have := x2.2.1.2
          omega
  · have hq2 : ¬ wf_sigok n p o q w := fun g => hq ⟨⟨g.1.1.1, by have := g.1.1.2; omega⟩, ⟨g.1.2.1, by have := g.1.2.2; omega⟩, g.2.1.1, g.2.1.2.1, ⟨g.2.1.2.2.1, by have := g.2.1.2.2.2; omega⟩, fun h2 => g.2.2.resolve_left (by omega)⟩
    rw [if_neg hq, if_neg hq2]
/-! the class's treaties and judged, exactly -/
section CX
variable {sc : List Int32} {t : hy_T}
theorem wf_mdN_s (T0 : hy_T) (k : Nat) : wf_mdN T0 (k + 1) = (if wf_can 33 (wf_mdN T0 k).2 k = true then (wf_mdN T0 k).1 + 1 else (wf_mdN T0 k).1, wf_make 33 (wf_mdN T0 k).2 k) := by
  simp only [wf_mdN]
  by_cases hc : wf_can 33 (wf_mdN T0 k).2 k = true
  · rw [if_pos hc, if_pos hc]
  · rw [if_neg hc, if_neg hc]
    have e : wf_make 33 (wf_mdN T0 k).2 k = (wf_mdN T0 k).2 := by
      unfold wf_make
      rw [if_neg hc]
    rw [e]
theorem c_W_treaties_x {n : Int} (h : tp_ok t) (hn : ln_ok t) (hs : st_ok 33 t) : hy_Ct sc hm_W_treaties 5 [.inr (some 2), .inl n] t (fun r t' => (r = some (wf_tr t n).1 ∧ t' = (wf_tr t n).2) ∧ hy_F (tyX 33) t t' ∧ st_ok 33 t' ∧ ln_ok t' ∧ tp_ok t' ∧ t' 3 1 = if 1 ≤ n ∧ n ≤ 120 ∧ n ≤ t 3 1 then 0 else t 3 1) := by
  refine hy_mk_ct ok_W_treaties ck_W_treaties (Nat.le_of_ble_eq_true rfl) ?_
  obtain ⟨a1, a2, a3, a4⟩ := rd_lines_s h n
  have a5 := rd_lines_n h hn n
  by_cases hq : 1 ≤ n ∧ n ≤ 120 ∧ n ≤ t 3 1
  · simp only [if_pos hq]
    have loop : ∀ (T0 : hy_T) (cnt : Nat) (m : Nat), ∀ (k : Nat) (c : Int) (t1 : hy_T) (v2 : hy_V), (m + k = cnt ∧ t1 27 6 = cnt) → (0 ≤ c ∧ c ≤ k) → (c = (wf_mdN T0 k).1 ∧ t1 = (wf_mdN T0 k).2) → hy_F (tyX 33) t t1 → st_ok 33 t1 → ln_ok t1 → tp_ok t1 → t1 27 6 ≤ 8 → t1 3 1 = 0 → hy_W sc hm_W_treaties 5 23 [.inr (some 2), .inl n, v2, .inl c, .inl (k : Int)] [] t1 (fun r t' => (r = some (wf_mdN T0 cnt).1 ∧ t' = (wf_mdN T0 cnt).2) ∧ hy_F (tyX 33) t t' ∧ st_ok 33 t' ∧ ln_ok t' ∧ tp_ok t' ∧ t' 3 1 = 0) := by
      intro T0 cnt m
      induction m with
      | zero =>
        intro k c t1 v2 hm hc hT hF hs1 hn1 ht1 h8 h3
        have hkc : k = cnt := by omega
        rw [hkc] at hT
        refine hy_iload (i := 23) rfl rfl ?_
        refine hy_aload (i := 24) rfl rfl ?_
        refine hy_getr (i := 25) rfl rfl ?_
        refine hy_cV0e (i := 26) rfl mj_N_length (by decide) rfl (Nat.le_of_ble_eq_true rfl) rfl rfl rfl (c_N_length) ?_
        refine hy_ic_ge (i := 27) (tt := 37) rfl (fun zc1 => ?_) (fun zc1 => ?_)
        · refine hy_iload (i := 37) rfl rfl ?_
          refine hy_ireturn (i := 38) rfl rfl ?_
          exact ⟨⟨congrArg some hT.1, hT.2⟩, hF, hs1, hn1, ht1, h3⟩
        · omega
      | succ m ih =>
        intro k c t1 v2 hm hc hT hF hs1 hn1 ht1 h8 h3
        obtain ⟨s2, f2⟩ := wf_make_s hs1 hn1 h8 (k : Int)
        have e27 : wf_make 33 t1 k 27 6 = t1 27 6 := f2 27 6 rfl
        have g2 := hF.tr' (f2.w (fun r j q => (Bool.or_eq_false_iff.mp q).2))
        have n2 := ln_ok_F f2 (fun _ => rfl) (fun _ => rfl) (fun _ => rfl) (fun _ => rfl) hn1
        have p2 := tp_ok_F f2 (fun _ => rfl) (fun _ => rfl) ht1
        have z2 : wf_make 33 t1 k 3 1 = 0 := (f2 3 1 rfl).trans h3
        have es := wf_mdN_s T0 k
        rw [← hT.1, ← hT.2] at es
        have e2 : wf_make 33 t1 k = (wf_mdN T0 (k + 1)).2 := by rw [es]
        refine hy_iload (i := 23) rfl rfl ?_
        refine hy_aload (i := 24) rfl rfl ?_
        refine hy_getr (i := 25) rfl rfl ?_
        refine hy_cV0e (i := 26) rfl mj_N_length (by decide) rfl (Nat.le_of_ble_eq_true rfl) rfl rfl rfl (c_N_length) ?_
        refine hy_ic_ge (i := 27) (tt := 37) rfl (fun zc1 => ?_) (fun zc1 => ?_)
        · omega
        · refine hy_aload (i := 28) rfl rfl ?_
          refine hy_aload (i := 29) rfl rfl ?_
          refine hy_getr (i := 30) rfl rfl ?_
          refine hy_iload (i := 31) rfl rfl ?_
          refine hy_cV2e (i := 32) rfl mj_W_isMade (by decide) rfl (Nat.le_of_ble_eq_true rfl) rfl rfl rfl (c_W_isMade_33 h8 hs1.c) ?_
          refine hy_ib_eq (i := 33) (tt := 35) rfl (fun zc2 => ?_) (fun zc2 => ?_)
          · refine hy_iinc (i := 35) rfl rfl (by omega) ?_
            refine hy_goto (i := 36) (tt := 23) rfl ?_
            first | exact ih (k + 1) _ _ _ (by omega) (by omega) ⟨by rw [es, if_pos (by assumption)], e2⟩ g2 s2 n2 p2 (by omega) z2 | exact ih (k + 1) _ _ _ (by omega) (by omega) ⟨by rw [es, if_neg (by rw [show wf_can 33 t1 k = false by assumption]; exact Bool.false_ne_true)], e2⟩ g2 s2 n2 p2 (by omega) z2
          · refine hy_iinc (i := 34) rfl rfl (by omega) ?_
            refine hy_iinc (i := 35) rfl rfl (by omega) ?_
            refine hy_goto (i := 36) (tt := 23) rfl ?_
            first | exact ih (k + 1) _ _ _ (by omega) (by omega) ⟨by rw [es, if_pos (by assumption)], e2⟩ g2 s2 n2 p2 (by omega) z2 | exact ih (k + 1) _ _ _ (by omega) (by omega) ⟨by rw [es, if_neg (by rw [show wf_can 33 t1 k = false by assumption]; exact Bool.false_ne_true)], e2⟩ g2 s2 n2 p2 (by omega) z2
    have ps : ∀ (t1 : hy_T), t1 = hy_up (rd_lines t n) 3 1 0 → hy_F (tyX 33) t t1 ∧ st_ok 33 t1 ∧ ln_ok t1 ∧ tp_ok t1 ∧ (0 ≤ t1 27 6 ∧ t1 27 6 ≤ 8) ∧ t1 3 1 = 0 := by
      intro t1 ht1
      have f1 : hy_F (fun r j => lnX r j || (r == 3 && j == 1)) t t1 := by rw [ht1]; exact (a2.w (fun r j q => (Bool.or_eq_false_iff.mp q).1)).up rfl
      refine ⟨f1.w (fun r j q => (Bool.or_eq_false_iff.mp q).1), ?_, ?_, ?_, ?_, by rw [ht1]; rfl⟩
      · exact ⟨by rw [f1 33 3 rfl]; exact hs.c, by rw [f1 33 4 rfl]; exact hs.d, by rw [f1 33 5 rfl]; exact hs.w, fun j hj => by rw [f1 (33 + 3) j rfl]; exact hs.t j hj⟩
      · rw [ht1]; exact ln_o (by decide) (by decide) (by decide) (by decide) a5
      · rw [ht1]; exact ⟨a1.b, hz_0260, a1.e, a1.p⟩
      · rw [ht1]; exact ⟨a3, a4⟩
    obtain ⟨g1, g2, g3, g4, g5, g6⟩ := ps _ rfl
    have e27 : hy_up (rd_lines t n) 3 1 0 27 6 = rd_lines t n 27 6 := rfl
    by_cases hf : rd_lines t n 3 4 = 0
    · have e : wf_tr t n = wf_mdN (hy_up (rd_lines t n) 3 1 0) (rd_lines t n 27 6).toNat := by unfold wf_tr; rw [if_pos hq, if_pos hf]
      rw [e]
      refine hy_aload (i := 0) rfl rfl ?_
      refine hy_iload (i := 1) rfl rfl ?_
      refine hy_const (i := 2) rfl (by decide) ?_
      refine hy_cV2e (i := 3) rfl mj_W_isOnTape (by decide) rfl (Nat.le_of_ble_eq_true rfl) rfl rfl rfl (c_W_isOnTape) ?_
      refine hy_ib_ne (i := 4) (tt := 7) rfl (fun zc1 => ?_) (fun zc1 => ?_)
      · refine hy_aload (i := 7) rfl rfl ?_
        refine hy_getr (i := 8) rfl rfl ?_
        refine hy_iload (i := 9) rfl rfl ?_
        refine hy_cV1e (i := 10) rfl mj_N_read (by decide) rfl (Nat.le_of_ble_eq_true rfl) rfl rfl rfl (c_N_read (by assumption)) ?_
        refine hy_istore (i := 11) rfl ?_
        refine hy_aload (i := 12) rfl rfl ?_
        refine hy_getr (i := 13) rfl rfl ?_
        refine hy_cV0v (i := 14) rfl mj_T_clear (by decide) rfl (Nat.le_of_ble_eq_true rfl) rfl rfl rfl (c_T_clear) ?_
        refine hy_iload (i := 15) rfl rfl ?_
        refine hy_if_eq (i := 16) (tt := 19) rfl (fun zc2 => ?_) (fun zc2 => ?_)
        · refine hy_const (i := 19) rfl (by decide) ?_
          refine hy_istore (i := 20) rfl ?_
          refine hy_const (i := 21) rfl (by decide) ?_
          refine hy_istore (i := 22) rfl ?_
          exact loop (hy_up (rd_lines t n) 3 1 0) (rd_lines t n 27 6).toNat (rd_lines t n 27 6).toNat 0 0 _ _ (by omega) (by decide) ⟨rfl, rfl⟩ g1 g2 g3 g4 (by omega) g6
        · omega
      · simp at zc1; omega
    · have e : wf_tr t n = (rd_lines t n 3 4, hy_up (rd_lines t n) 3 1 0) := by unfold wf_tr; rw [if_pos hq, if_neg hf]
      rw [e]
      refine hy_aload (i := 0) rfl rfl ?_
      refine hy_iload (i := 1) rfl rfl ?_
      refine hy_const (i := 2) rfl (by decide) ?_
      refine hy_cV2e (i := 3) rfl mj_W_isOnTape (by decide) rfl (Nat.le_of_ble_eq_true rfl) rfl rfl rfl (c_W_isOnTape) ?_
      refine hy_ib_ne (i := 4) (tt := 7) rfl (fun zc1 => ?_) (fun zc1 => ?_)
      · refine hy_aload (i := 7) rfl rfl ?_
        refine hy_getr (i := 8) rfl rfl ?_
        refine hy_iload (i := 9) rfl rfl ?_
        refine hy_cV1e (i := 10) rfl mj_N_read (by decide) rfl (Nat.le_of_ble_eq_true rfl) rfl rfl rfl (c_N_read (by assumption)) ?_
        refine hy_istore (i := 11) rfl ?_
        refine hy_aload (i := 12) rfl rfl ?_
        refine hy_getr (i := 13) rfl rfl ?_
        refine hy_cV0v (i := 14) rfl mj_T_clear (by decide) rfl (Nat.le_of_ble_eq_true rfl) rfl rfl rfl (c_T_clear) ?_
        refine hy_iload (i := 15) rfl rfl ?_
        refine hy_if_eq (i := 16) (tt := 19) rfl (fun zc2 => ?_) (fun zc2 => ?_)
        · omega
        · refine hy_iload (i := 17) rfl rfl ?_
          refine hy_ireturn (i := 18) rfl rfl ?_
          exact ⟨⟨rfl, rfl⟩, g1, g2, g3, g4, g6⟩
      · simp at zc1; omega
  · have e : wf_tr t n = (-1, t) := by unfold wf_tr; rw [if_neg hq]
    rw [e]
    simp only [if_neg hq]
    refine hy_aload (i := 0) rfl rfl ?_
    refine hy_iload (i := 1) rfl rfl ?_
    refine hy_const (i := 2) rfl (by decide) ?_
    refine hy_cV2e (i := 3) rfl mj_W_isOnTape (by decide) rfl (Nat.le_of_ble_eq_true rfl) rfl rfl rfl (c_W_isOnTape) ?_
    refine hy_ib_ne (i := 4) (tt := 7) rfl (fun zc1 => ?_) (fun zc1 => ?_)
    · simp at zc1; omega
    · refine hy_const (i := 5) rfl (by decide) ?_
      refine hy_ireturn (i := 6) rfl rfl ?_
      exact ⟨⟨rfl, rfl⟩, hy_F.rf, hs, hn, h, rfl⟩
theorem c_W_judged_x {n : Int} (h : tp_ok t) (hn : ln_ok t) (hs : st_ok 33 t) : hy_Ct sc hm_W_judged 5 [.inr (some 2), .inl n] t (fun r t' => r = some (wf_jd t n) ∧ hy_F jyX t t' ∧ ln_ok t' ∧ tp_ok t' ∧ t' 3 1 = if 1 ≤ n ∧ n ≤ 120 ∧ n ≤ t 3 1 then 0 else t 3 1) := by
  refine hy_mk_ct ok_W_judged ck_W_judged (Nat.le_of_ble_eq_true rfl) ?_
  obtain ⟨a1, a2, a3, a4⟩ := rd_lines_s h n
  have a5 := rd_lines_n h hn n
  unfold wf_jd
  by_cases hq : 1 ≤ n ∧ n ≤ 120 ∧ n ≤ t 3 1
  · simp only [if_pos hq]
    have loop : ∀ (V : Int) (m : Nat), ∀ (k : Nat) (t1 : hy_T) (v2 : hy_V), (m : Int) + k = t1 27 6 → V = ((wf_jdN m k t1).1 : Int) → hy_F jyX t t1 → st_ok 41 t1 → ln_ok t1 → tp_ok t1 → t1 27 6 ≤ 8 → t1 3 1 = 0 → hy_W sc hm_W_judged 5 26 [.inr (some 2), .inl n, v2, .inl (k : Int)] [] t1 (fun r t' => r = some V ∧ hy_F jyX t t' ∧ ln_ok t' ∧ tp_ok t' ∧ t' 3 1 = 0) := by
      intro V m
      induction m with
      | zero =>
        intro k t1 v2 hm hV hF hs1 hn1 ht1 h8 h3
        refine hy_iload (i := 26) rfl rfl ?_
        refine hy_aload (i := 27) rfl rfl ?_
        refine hy_getr (i := 28) rfl rfl ?_
        refine hy_cV0e (i := 29) rfl mj_N_length (by decide) rfl (Nat.le_of_ble_eq_true rfl) rfl rfl rfl (c_N_length) ?_
        refine hy_ic_ge (i := 30) (tt := 39) rfl (fun zc1 => ?_) (fun zc1 => ?_)
        · refine hy_iload (i := 39) rfl rfl ?_
          refine hy_ireturn (i := 40) rfl rfl ?_
          exact ⟨congrArg some hV.symm, hF, hn1, ht1, h3⟩
        · omega
      | succ m ih =>
        intro k t1 v2 hm hV hF hs1 hn1 ht1 h8 h3
        obtain ⟨s2, f2⟩ := wf_make_s hs1 hn1 h8 (k : Int)
        have e27 : wf_make 41 t1 k 27 6 = t1 27 6 := f2 27 6 rfl
        have g2 := hF.tr' (f2.w (fun r j q => by revert q; simp only [jyX, lnX, trX, mkX, Bool.or_eq_false_iff, Bool.and_eq_false_iff, beq_eq_false_iff_ne]; omega))
        have n2 := ln_ok_F f2 (fun _ => rfl) (fun _ => rfl) (fun _ => rfl) (fun _ => rfl) hn1
        have p2 := tp_ok_F f2 (fun _ => rfl) (fun _ => rfl) ht1
        have z2 : wf_make 41 t1 k 3 1 = 0 := (f2 3 1 rfl).trans h3
        have es : (wf_jdN (m + 1) k t1).1 = if wf_can 41 t1 k = true then (wf_jdN m (k + 1) (wf_make 41 t1 k)).1 else k := by
          simp only [wf_jdN]
          split
          · rfl
          · rfl
        rw [es] at hV
        refine hy_iload (i := 26) rfl rfl ?_
        refine hy_aload (i := 27) rfl rfl ?_
        refine hy_getr (i := 28) rfl rfl ?_
        refine hy_cV0e (i := 29) rfl mj_N_length (by decide) rfl (Nat.le_of_ble_eq_true rfl) rfl rfl rfl (c_N_length) ?_
        refine hy_ic_ge (i := 30) (tt := 39) rfl (fun zc1 => ?_) (fun zc1 => ?_)
        · omega
        · refine hy_aload (i := 31) rfl rfl ?_
          refine hy_aload (i := 32) rfl rfl ?_
          refine hy_getr (i := 33) rfl rfl ?_
          refine hy_iload (i := 34) rfl rfl ?_
          refine hy_cV2e (i := 35) rfl mj_W_isMade (by decide) rfl (Nat.le_of_ble_eq_true rfl) rfl rfl rfl (c_W_isMade_41 h8 hs1.c) ?_
          refine hy_ib_eq (i := 36) (tt := 39) rfl (fun zc2 => ?_) (fun zc2 => ?_)
          · refine hy_iload (i := 39) rfl rfl ?_
            refine hy_ireturn (i := 40) rfl rfl ?_
            exact ⟨congrArg some (by rw [hV, if_neg (by rw [show wf_can 41 t1 k = false by assumption]; exact Bool.false_ne_true)]), g2, n2, p2, z2⟩
          · refine hy_iinc (i := 37) rfl rfl (by omega) ?_
            refine hy_goto (i := 38) (tt := 26) rfl ?_
            exact ih (k + 1) _ _ (by omega) (by rw [hV, if_pos (by assumption)]) g2 s2 n2 p2 (by omega) z2
    have ps : ∀ (t1 : hy_T), t1 = hy_up (rd_lines t n) 3 1 0 → hy_F jyX t t1 ∧ st_ok 33 t1 ∧ ln_ok t1 ∧ tp_ok t1 ∧ (0 ≤ t1 27 6 ∧ t1 27 6 ≤ 8) ∧ t1 3 1 = 0 := by
      intro t1 ht1
      have f1 : hy_F (fun r j => lnX r j || (r == 3 && j == 1)) t t1 := by rw [ht1]; exact (a2.w (fun r j q => (Bool.or_eq_false_iff.mp q).1)).up rfl
      refine ⟨f1.w (fun r j q => (Bool.or_eq_false_iff.mp q).1), ?_, ?_, ?_, ?_, by rw [ht1]; rfl⟩
      · exact ⟨by rw [f1 33 3 rfl]; exact hs.c, by rw [f1 33 4 rfl]; exact hs.d, by rw [f1 33 5 rfl]; exact hs.w, fun j hj => by rw [f1 (33 + 3) j rfl]; exact hs.t j hj⟩
      · rw [ht1]; exact ln_o (by decide) (by decide) (by decide) (by decide) a5
      · rw [ht1]; exact ⟨a1.b, hz_0260, a1.e, a1.p⟩
      · rw [ht1]; exact ⟨a3, a4⟩
    obtain ⟨g1, g2, g3, g4, g5, g6⟩ := ps _ rfl
    by_cases hf : rd_lines t n 3 4 = 0
    · have fc := sp_scopy41_F (hy_up (rd_lines t n) 3 1 0)
      have e27 : sp_scopy (hy_up (rd_lines t n) 3 1 0) 33 41 27 6 = hy_up (rd_lines t n) 3 1 0 27 6 := fc 27 6 rfl
      have e28 : hy_up (rd_lines t n) 3 1 0 27 6 = rd_lines t n 27 6 := rfl
      rw [if_pos hf]
      refine hy_aload (i := 0) rfl rfl ?_
      refine hy_iload (i := 1) rfl rfl ?_
      refine hy_const (i := 2) rfl (by decide) ?_
      refine hy_cV2e (i := 3) rfl mj_W_isOnTape (by decide) rfl (Nat.le_of_ble_eq_true rfl) rfl rfl rfl (c_W_isOnTape) ?_
      refine hy_ib_ne (i := 4) (tt := 7) rfl (fun zc1 => ?_) (fun zc1 => ?_)
      · refine hy_aload (i := 7) rfl rfl ?_
        refine hy_getr (i := 8) rfl rfl ?_
        refine hy_iload (i := 9) rfl rfl ?_
        refine hy_cV1e (i := 10) rfl mj_N_read (by decide) rfl (Nat.le_of_ble_eq_true rfl) rfl rfl rfl (c_N_read (by assumption)) ?_
        refine hy_istore (i := 11) rfl ?_
        refine hy_aload (i := 12) rfl rfl ?_
        refine hy_getr (i := 13) rfl rfl ?_
        refine hy_cV0v (i := 14) rfl mj_T_clear (by decide) rfl (Nat.le_of_ble_eq_true rfl) rfl rfl rfl (c_T_clear) ?_
        refine hy_iload (i := 15) rfl rfl ?_
        refine hy_if_eq (i := 16) (tt := 19) rfl (fun zc2 => ?_) (fun zc2 => ?_)
        · refine hy_aload (i := 19) rfl rfl ?_
          refine hy_getr (i := 20) rfl rfl ?_
          refine hy_aload (i := 21) rfl rfl ?_
          refine hy_getr (i := 22) rfl rfl ?_
          refine hy_cV1v (i := 23) rfl mj_S_copyFrom (by decide) rfl (Nat.le_of_ble_eq_true rfl) rfl rfl rfl (c_S_copyFrom_33_41) ?_
          refine hy_const (i := 24) rfl (by decide) ?_
          refine hy_istore (i := 25) rfl ?_
          exact loop _ (rd_lines t n 27 6).toNat 0 _ _ (by omega) rfl (g1.tr' (fc.w (fun r j q => (Bool.or_eq_false_iff.mp q).2))) (sp_scopy41_ok g2) (ln_ok_F fc (fun _ => rfl) (fun _ => rfl) (fun _ => rfl) (fun _ => rfl) g3) (tp_ok_F fc (fun _ => rfl) (fun _ => rfl) g4) (by omega) ((fc 3 1 rfl).trans g6)
        · omega
      · simp at zc1; omega
    · rw [if_neg hf]
      refine hy_aload (i := 0) rfl rfl ?_
      refine hy_iload (i := 1) rfl rfl ?_
      refine hy_const (i := 2) rfl (by decide) ?_
      refine hy_cV2e (i := 3) rfl mj_W_isOnTape (by decide) rfl (Nat.le_of_ble_eq_true rfl) rfl rfl rfl (c_W_isOnTape) ?_
      refine hy_ib_ne (i := 4) (tt := 7) rfl (fun zc1 => ?_) (fun zc1 => ?_)
      · refine hy_aload (i := 7) rfl rfl ?_
        refine hy_getr (i := 8) rfl rfl ?_
        refine hy_iload (i := 9) rfl rfl ?_
        refine hy_cV1e (i := 10) rfl mj_N_read (by decide) rfl (Nat.le_of_ble_eq_true rfl) rfl rfl rfl (c_N_read (by assumption)) ?_
        refine hy_istore (i := 11) rfl ?_
        refine hy_aload (i := 12) rfl rfl ?_
        refine hy_getr (i := 13) rfl rfl ?_
        refine hy_cV0v (i := 14) rfl mj_T_clear (by decide) rfl (Nat.le_of_ble_eq_true rfl) rfl rfl rfl (c_T_clear) ?_
        refine hy_iload (i := 15) rfl rfl ?_
        refine hy_if_eq (i := 16) (tt := 19) rfl (fun zc2 => ?_) (fun zc2 => ?_)
        · omega
        · refine hy_iload (i := 17) rfl rfl ?_
          refine hy_ireturn (i := 18) rfl rfl ?_
          exact ⟨rfl, g1, g3, g4, g6⟩
      · simp at zc1; omega
  · simp only [if_neg hq]
    refine hy_aload (i := 0) rfl rfl ?_
    refine hy_iload (i := 1) rfl rfl ?_
    refine hy_const (i := 2) rfl (by decide) ?_
    refine hy_cV2e (i := 3) rfl mj_W_isOnTape (by decide) rfl (Nat.le_of_ble_eq_true rfl) rfl rfl rfl (c_W_isOnTape) ?_
    refine hy_ib_ne (i := 4) (tt := 7) rfl (fun zc1 => ?_) (fun zc1 => ?_)
    · simp at zc1; omega
    · refine hy_const (i := 5) rfl (by decide) ?_
      refine hy_ireturn (i := 6) rfl rfl ?_
      exact ⟨rfl, hy_F.rf, hn, h, rfl⟩
end CX
