/-! the relation of p5: as many bytes are on both tapes -/
abbrev p5_Y : Nat → Nat → Bool := fun r j => (r == 3 && j == 1) || (r == 59 && j == 9)
def p5_rel (t : hy_T) : Prop := t 3 1 = t 59 9
theorem p5_relF (t t1 : hy_T) (h : p5_rel t) (hY : ∀ r j, p5_Y r j = true → t1 r j = t r j) : p5_rel t1 := by
  unfold p5_rel
  rw [hY 3 1 rfl, hY 59 9 rfl]
  exact h
theorem wf_feed_31 {t : hy_T} {a b c d e : Int} (hq : t 3 1 ≤ 240) : wf_feed t a b c d e 3 1 = t 3 1 + 20 := by
  have h1 := tp_add_l (t := t) (w := a) (by omega)
  have h2 := tp_add_l (t := tp_add t a) (w := b) (by omega)
  have h3 := tp_add_l (t := tp_add (tp_add t a) b) (w := c) (by omega)
  have h4 := tp_add_l (t := tp_add (tp_add (tp_add t a) b) c) (w := d) (by omega)
  have h5 := tp_add_l (t := tp_add (tp_add (tp_add (tp_add t a) b) c) d) (w := e) (by omega)
  unfold wf_feed
  omega
theorem k3e {sc : List Int32} {t : hy_T} {a b c d e : Int} (k : cK t) : hy_Ct sc hm_W_feed 1 [.inr (some 2), .inl a, .inl b, .inl c, .inl d, .inl e] t (fun r t' => cQ taX t r t' ∧ r = some (if t 3 1 ≤ 240 then t 3 1 + 20 else -1) ∧ t' = if t 3 1 ≤ 240 then wf_feed t a b c d e else t) := (c_W_feed k.tp.l).mono (fun r t' q => by
  obtain ⟨rfl, rfl⟩ := q
  obtain ⟨k1, F⟩ := cK_feed (a := a) (b := b) (c := c) (d := d) (e := e) k
  exact ⟨⟨⟨_, rfl⟩, k1, F⟩, rfl, rfl⟩)
theorem m3e {sc : List Int32} {t : hy_T} {a b c d e : Int} (k : mK t) : hy_Ct sc hm_M_feed 1 [.inr (some 59), .inl a, .inl b, .inl c, .inl d, .inl e] t (fun r t' => mQ feX t r t' ∧ r = some (if t 59 9 ≤ 240 then t 59 9 + 20 else -1) ∧ t' = if t 59 9 ≤ 240 then mf_feed t a b c d e else t) := (c_M_feed k.mt).mono (fun r t' q => by
  obtain ⟨rfl, rfl⟩ := q
  refine ⟨⟨⟨_, rfl⟩, ?_⟩, rfl, rfl⟩
  obtain ⟨F, e9⟩ := mf_feed_s t a b c d e
  have k9 := k.mt
  split
  · exact ⟨mK_A F (fun r j q => by revert q; simp only [mkA, mlawX, mrP, mrT, mrK, feX, Bool.or_eq_true, Bool.and_eq_true, decide_eq_true_eq, beq_iff_eq, Bool.or_eq_false_iff, Bool.and_eq_false_iff, beq_eq_false_iff_ne]; omega) (by unfold mt_ok; omega) k, F⟩
  · exact ⟨k, hy_F.rf⟩)
theorem p5_feed {t t1 t2 : hy_T} {a b c d e : Int} {r1 r2 : Option Int} (h : p5_rel t) (F : hy_F taX t t1) (F2 : hy_F feX t1 t2) (q1 : r1 = some (if t 3 1 ≤ 240 then t 3 1 + 20 else -1) ∧ t1 = if t 3 1 ≤ 240 then wf_feed t a b c d e else t) (q2 : r2 = some (if t1 59 9 ≤ 240 then t1 59 9 + 20 else -1) ∧ t2 = if t1 59 9 ≤ 240 then mf_feed t1 a b c d e else t1) : r2 = r1 ∧ p5_rel t2 := by
  have x := F 59 9 rfl
  have y := F2 3 1 rfl
  have h0 : t 3 1 = t 59 9 := h
  obtain ⟨e1, e2⟩ := q1
  obtain ⟨e3, e4⟩ := q2
  refine ⟨by rw [e1, e3, x, h0], ?_⟩
  show t2 3 1 = t2 59 9
  by_cases hq : t 3 1 ≤ 240
  · rw [if_pos hq] at e2
    rw [if_pos (by omega)] at e4
    have z1 : t1 3 1 = t 3 1 + 20 := by rw [e2]; exact wf_feed_31 hq
    have z2 : t2 59 9 = t1 59 9 + 20 := by rw [e4]; exact (mf_feed_s t1 a b c d e).2
    omega
  · rw [if_neg hq] at e2
    rw [if_neg (by omega)] at e4
    have z1 : t1 3 1 = t 3 1 := by rw [e2]
    have z2 : t2 59 9 = t1 59 9 := by rw [e4]
    omega
theorem p5_law {t t1 t2 : hy_T} {n : Int} (h : p5_rel t) (F : hy_F lwcX t t1) (F2 : hy_F lwX t1 t2) (e1 : t1 = (wf_law t n).2) (e2 : t2 59 9 = if al_nc t1 n then 0 else t1 59 9) : p5_rel t2 := by
  have x := F 59 9 rfl
  have y := F2 3 1 rfl
  have h0 : t 3 1 = t 59 9 := h
  have c := wf_law_31 t n
  rw [← e1] at c
  show t2 3 1 = t2 59 9
  simp only [al_nc] at e2
  split at c <;> split at e2 <;> omega
theorem p5_land {t t1 t2 : hy_T} {n : Int} (k : cK t) (h : p5_rel t) (F : hy_F glX t t1) (F2 : hy_F ngX t1 t2) (e1 : t1 = (wf_land t n).2) (e2 : t2 59 9 = if ld_ntc t1 n then 0 else t1 59 9) : p5_rel t2 := by
  have x := F 59 9 rfl
  have y := F2 3 1 rfl
  have h0 : t 3 1 = t 59 9 := h
  have c := (wf_land_s k.tp n).2.2
  rw [← e1] at c
  show t2 3 1 = t2 59 9
  simp only [ld_ntc] at e2
  split at c <;> split at e2 <;> omega
theorem p5_lines {XW XM : Nat → Nat → Bool} {t t1 t2 : hy_T} {n : Int} (h : p5_rel t) (F : hy_F XW t t1) (F2 : hy_F XM t1 t2) (hw : XW 59 9 = false) (hm : XM 3 1 = false) (c : t1 3 1 = if 1 ≤ n ∧ n ≤ 120 ∧ n ≤ t 3 1 then 0 else t 3 1) (e2 : t2 59 9 = if ml_ntc t1 n then 0 else t1 59 9) : p5_rel t2 := by
  have x := F 59 9 hw
  have y := F2 3 1 hm
  have h0 : t 3 1 = t 59 9 := h
  show t2 3 1 = t2 59 9
  simp only [ml_ntc] at e2
  split at c <;> split at e2 <;> omega
theorem p5_parted {t t1 t2 : hy_T} {m w : Int} (hR : hy_R w) (h : p5_rel t) (F : hy_F t1X t t1) (F2 : hy_F t9X t1 t2) (e1 : t1 = if wf_partok t m w then hy_up t 3 1 0 else t) (e2 : t2 = if mf_ptc t1 m w then hy_up t1 59 9 0 else t1) : p5_rel t2 := by
  have x := F 59 9 rfl
  have y := F2 3 1 rfl
  have h0 : t 3 1 = t 59 9 := h
  have z := wf_sub (k := 10) hR (by decide)
  have hw : (0 ≤ wf_w10 w ∧ wf_w10 w < 4) ↔ (10 ≤ w ∧ w ≤ 13) := by
    unfold wf_w10
    revert z
    generalize (Int32.ofInt (w - 10)).toInt = y
    intro z
    omega
  have c : t1 3 1 = if wf_partok t m w then 0 else t 3 1 := by
    rw [e1]
    split <;> rfl
  have c2 : t2 59 9 = if mf_ptc t1 m w then 0 else t1 59 9 := by
    rw [e2]
    split <;> rfl
  have hc : wf_partok t m w ↔ mf_ptc t1 m w := by
    unfold wf_partok mf_ptc
    rw [hw]
    omega
  show t2 3 1 = t2 59 9
  by_cases hq : wf_partok t m w
  · rw [if_pos hq] at c
    rw [if_pos (hc.mp hq)] at c2
    omega
  · rw [if_neg hq] at c
    rw [if_neg (fun q => hq (hc.mpr q))] at c2
    omega
theorem p5_spies {t t1 t2 : hy_T} {n w : Int} (h : p5_rel t) (F : hy_F spX t t1) (F2 : hy_F spmX t1 t2) (c : t1 3 1 = if wf_spyok t n w then 0 else t 3 1) (e2 : t2 59 9 = if ms_spc t1 n w then 0 else t1 59 9) : p5_rel t2 := by
  have x := F 59 9 rfl
  have y := F2 3 1 rfl
  have h0 : t 3 1 = t 59 9 := h
  show t2 3 1 = t2 59 9
  simp only [wf_spyok] at c
  simp only [ms_spc] at e2
  split at c <;> split at e2 <;> omega
theorem p5_check {t t1 t2 : hy_T} {n : Int} (h : p5_rel t) (F : hy_F t1X t t1) (F2 : hy_F t9X t1 t2) (e1 : t1 = if (0 ≤ n ∧ n ≤ 8) ∧ 4 * n ≤ t 3 1 then hy_up t 3 1 0 else t) (e2 : t2 = if (0 ≤ n ∧ n ≤ 8) ∧ 4 * n ≤ t1 59 9 then hy_up t1 59 9 0 else t1) : p5_rel t2 := by
  have x := F 59 9 rfl
  have y := F2 3 1 rfl
  have h0 : t 3 1 = t 59 9 := h
  have c : t1 3 1 = if (0 ≤ n ∧ n ≤ 8) ∧ 4 * n ≤ t 3 1 then 0 else t 3 1 := by
    rw [e1]
    split <;> rfl
  have c2 : t2 59 9 = if (0 ≤ n ∧ n ≤ 8) ∧ 4 * n ≤ t1 59 9 then 0 else t1 59 9 := by
    rw [e2]
    split <;> rfl
  show t2 3 1 = t2 59 9
  split at c <;> split at c2 <;> omega

theorem p5_0 : ci_I p5_rel t0 := ⟨cK_0, mK_0, (show (0 : Int) = 0 from rfl)⟩
set_option maxHeartbeats 1000000 in
theorem law_p5 {sc : List Int32} (hl : sc.length ≤ 3584) : hy_W sc hm_law 300 10 [.inr (some 0), .inr (some 2), .inr (some 59), .inl 0] [] t0 (fun r _ => r = some 1) := by
  have main : ∀ (n i : Nat) (t : hy_T), sc.length ≤ n + i → i ≤ 90000 → ci_I p5_rel t → hy_W sc hm_law 300 10 [.inr (some 0), .inr (some 2), .inr (some 59), .inl (i : Int)] [] t (fun r _ => r = some 1) := by
    intro n
    induction n with
    | zero =>
      intro i t hn hi h
      exact law_head i ⟨by omega, hi⟩ (fun _ => law_end rfl) (fun h7 => by omega)
    | succ n ih =>
      intro i t hn hi0 h
      refine law_head i ⟨by omega, hi0⟩ (fun _ => law_end rfl) (fun h7 => ?_)
      have hi : i + 7 ≤ sc.length ∧ sc.length ≤ 90000 := ⟨h7, by omega⟩
      have fin : ∀ t2 : hy_T, ci_I p5_rel t2 → hy_W sc hm_law 300 982 [.inr (some 0), .inr (some 2), .inr (some 59), .inl (i : Int)] [] t2 (fun r _ => r = some 1) := fun t2 h2 =>
        law_next i hi0 (ih (i + 7) t2 (by omega) (by omega) h2)
      refine law_sw i hi (fun x tt hx htt => ?_)
      have hxr : 0 ≤ x ∧ x ≤ 31 := by rw [hx]; exact hz_iand_le (by decide)
      clear hx
      have cs : x = 0 ∨ x = 1 ∨ x = 2 ∨ x = 3 ∨ x = 4 ∨ x = 5 ∨ x = 6 ∨ x = 7 ∨ x = 8 ∨ x = 9 ∨ x = 10 ∨ x = 11 ∨ x = 12 ∨ x = 13 ∨ x = 14 ∨ x = 15 ∨ x = 16 ∨ x = 17 ∨ x = 18 ∨ x = 19 ∨ x = 20 ∨ x = 21 ∨ x = 22 ∨ x = 23 ∨ x = 24 ∨ x = 25 ∨ x = 26 ∨ x = 27 ∨ x = 28 ∨ x = 29 ∨ 29 < x := by omega
      rcases cs with rfl | rfl | rfl | rfl | rfl | rfl | rfl | rfl | rfl | rfl | rfl | rfl | rfl | rfl | rfl | rfl | rfl | rfl | rfl | rfl | rfl | rfl | rfl | rfl | rfl | rfl | rfl | rfl | rfl | rfl | hb
      · obtain rfl : tt = 22 := by simpa using htt.symm
        obtain ⟨a, b⟩ := pop p5_relF h (k0 (sc := sc) (a := sv sc (i + 1)) (b := sv sc (i + 2)) (c := sv sc (i + 3)) h.1) (fun t1 K => (m0 (sc := sc) (a := sv sc (i + 1)) (b := sv sc (i + 2)) (c := sv sc (i + 3)) K)) sw0 sm0 (fun r j q => by revert q; simp only [p5_Y, lawX, eX, lX, pX, fX, snX, brX, wyX, paX, trX, asX, gdX, lnX, lkX, lpX, lwcX, tyX, jyX, mkX, dzX, cpX, taX, glX, t1X, spX, dgX, kpX, mlawX, mvX, meX, mlX, mfaX, stX, hvX, pwX, btX, sgX, mlsX, jdX, tdX, dsX, enX, mftX, ldrX, wmX, maX, lwX, lrX, mrX, feX, ngX, trsX, dysX, gnX, t9X, spmX, kpmX, udX, Bool.or_eq_true, Bool.and_eq_true, decide_eq_true_eq, decide_eq_false_iff_not, beq_iff_eq, Bool.or_eq_false_iff, Bool.and_eq_false_iff, beq_eq_false_iff_ne]; omega) (fun r j q => by revert q; simp only [p5_Y, lawX, eX, lX, pX, fX, snX, brX, wyX, paX, trX, asX, gdX, lnX, lkX, lpX, lwcX, tyX, jyX, mkX, dzX, cpX, taX, glX, t1X, spX, dgX, kpX, mlawX, mvX, meX, mlX, mfaX, stX, hvX, pwX, btX, sgX, mlsX, jdX, tdX, dsX, enX, mftX, ldrX, wmX, maX, lwX, lrX, mrX, feX, ngX, trsX, dysX, gnX, t9X, spmX, kpmX, udX, Bool.or_eq_true, Bool.and_eq_true, decide_eq_true_eq, decide_eq_false_iff_not, beq_iff_eq, Bool.or_eq_false_iff, Bool.and_eq_false_iff, beq_eq_false_iff_ne]; omega)
        exact law_c0 (by decide) (by decide) hi a b fin
      · obtain rfl : tt = 59 := by simpa using htt.symm
        obtain ⟨a, b⟩ := pop p5_relF h (k1 (sc := sc) (a := sv sc (i + 1)) (b := sv sc (i + 2)) (c := sv sc (i + 3)) h.1) (fun t1 K => (m1 (sc := sc) (a := sv sc (i + 1)) (b := sv sc (i + 2)) (c := sv sc (i + 3)) K)) sw1 sm1 (fun r j q => by revert q; simp only [p5_Y, lawX, eX, lX, pX, fX, snX, brX, wyX, paX, trX, asX, gdX, lnX, lkX, lpX, lwcX, tyX, jyX, mkX, dzX, cpX, taX, glX, t1X, spX, dgX, kpX, mlawX, mvX, meX, mlX, mfaX, stX, hvX, pwX, btX, sgX, mlsX, jdX, tdX, dsX, enX, mftX, ldrX, wmX, maX, lwX, lrX, mrX, feX, ngX, trsX, dysX, gnX, t9X, spmX, kpmX, udX, Bool.or_eq_true, Bool.and_eq_true, decide_eq_true_eq, decide_eq_false_iff_not, beq_iff_eq, Bool.or_eq_false_iff, Bool.and_eq_false_iff, beq_eq_false_iff_ne]; omega) (fun r j q => by revert q; simp only [p5_Y, lawX, eX, lX, pX, fX, snX, brX, wyX, paX, trX, asX, gdX, lnX, lkX, lpX, lwcX, tyX, jyX, mkX, dzX, cpX, taX, glX, t1X, spX, dgX, kpX, mlawX, mvX, meX, mlX, mfaX, stX, hvX, pwX, btX, sgX, mlsX, jdX, tdX, dsX, enX, mftX, ldrX, wmX, maX, lwX, lrX, mrX, feX, ngX, trsX, dysX, gnX, t9X, spmX, kpmX, udX, Bool.or_eq_true, Bool.and_eq_true, decide_eq_true_eq, decide_eq_false_iff_not, beq_iff_eq, Bool.or_eq_false_iff, Bool.and_eq_false_iff, beq_eq_false_iff_ne]; omega)
        exact law_c1 (by decide) (by decide) hi a b fin
      · obtain rfl : tt = 96 := by simpa using htt.symm
        obtain ⟨a, b⟩ := pop p5_relF h (k2 (sc := sc) (a := sv sc (i + 1)) (b := sv sc (i + 2)) (c := sv sc (i + 3)) h.1) (fun t1 K => (m2 (sc := sc) (a := sv sc (i + 1)) (b := sv sc (i + 2)) (c := sv sc (i + 3)) K)) sw2 sm2 (fun r j q => by revert q; simp only [p5_Y, lawX, eX, lX, pX, fX, snX, brX, wyX, paX, trX, asX, gdX, lnX, lkX, lpX, lwcX, tyX, jyX, mkX, dzX, cpX, taX, glX, t1X, spX, dgX, kpX, mlawX, mvX, meX, mlX, mfaX, stX, hvX, pwX, btX, sgX, mlsX, jdX, tdX, dsX, enX, mftX, ldrX, wmX, maX, lwX, lrX, mrX, feX, ngX, trsX, dysX, gnX, t9X, spmX, kpmX, udX, Bool.or_eq_true, Bool.and_eq_true, decide_eq_true_eq, decide_eq_false_iff_not, beq_iff_eq, Bool.or_eq_false_iff, Bool.and_eq_false_iff, beq_eq_false_iff_ne]; omega) (fun r j q => by revert q; simp only [p5_Y, lawX, eX, lX, pX, fX, snX, brX, wyX, paX, trX, asX, gdX, lnX, lkX, lpX, lwcX, tyX, jyX, mkX, dzX, cpX, taX, glX, t1X, spX, dgX, kpX, mlawX, mvX, meX, mlX, mfaX, stX, hvX, pwX, btX, sgX, mlsX, jdX, tdX, dsX, enX, mftX, ldrX, wmX, maX, lwX, lrX, mrX, feX, ngX, trsX, dysX, gnX, t9X, spmX, kpmX, udX, Bool.or_eq_true, Bool.and_eq_true, decide_eq_true_eq, decide_eq_false_iff_not, beq_iff_eq, Bool.or_eq_false_iff, Bool.and_eq_false_iff, beq_eq_false_iff_ne]; omega)
        exact law_c2 (by decide) (by decide) hi a b fin
      · obtain rfl : tt = 133 := by simpa using htt.symm
        obtain ⟨a, b⟩ := twoE h (k3e (sc := sc) (a := sv sc (i + 1)) (b := sv sc (i + 2)) (c := sv sc (i + 3)) (d := sv sc (i + 4)) (e := sv sc (i + 5)) h.1) (fun t1 K => m3e (sc := sc) (a := sv sc (i + 1)) (b := sv sc (i + 2)) (c := sv sc (i + 3)) (d := sv sc (i + 4)) (e := sv sc (i + 5)) K) sw3 sm3 (fun r1 t1 r2 t2 F _ F2 q1 q2 => p5_feed h.2.2 F F2 q1 q2)
        exact law_c3 (by decide) (by decide) hi a b fin
      · obtain rfl : tt = 190 := by simpa using htt.symm
        obtain ⟨a, b⟩ := two h (k4 (sc := sc) (n := sv sc (i + 1)) h.1) (fun t1 K => m4 (sc := sc) (n := sv sc (i + 1)) K) sw4 sm4 (fun r1 t1 r2 t2 F _ F2 q1 q2 => p5_law h.2.2 F F2 q1.2 q2)
        exact law_c4 (by decide) (by decide) hi a b fin
      · obtain rfl : tt = 207 := by simpa using htt.symm
        obtain ⟨a, b⟩ := two h (k5 (sc := sc) (n := sv sc (i + 1)) h.1) (fun t1 K => m5 (sc := sc) (n := sv sc (i + 1)) K) sw5 sm5 (fun r1 t1 r2 t2 F _ F2 q1 q2 => p5_land h.1 h.2.2 F F2 q1.2 q2)
        exact law_c5 (by decide) (by decide) hi a b fin
      · obtain rfl : tt = 224 := by simpa using htt.symm
        obtain ⟨a, b⟩ := two h (k6 (sc := sc) (n := sv sc (i + 1)) h.1) (fun t1 K => m6 (sc := sc) (n := sv sc (i + 1)) K) sw6 sm6 (fun r1 t1 r2 t2 F _ F2 q1 q2 => p5_lines h.2.2 F F2 rfl rfl q1 q2)
        exact law_c6 (by decide) (by decide) hi a b fin
      · obtain rfl : tt = 241 := by simpa using htt.symm
        obtain ⟨a, b⟩ := two h (k7 (sc := sc) (n := sv sc (i + 1)) h.1) (fun t1 K => m7 (sc := sc) (n := sv sc (i + 1)) K) sw7 sm7 (fun r1 t1 r2 t2 F _ F2 q1 q2 => p5_lines h.2.2 F F2 rfl rfl q1 q2)
        exact law_c7 (by decide) (by decide) hi a b fin
      · obtain rfl : tt = 258 := by simpa using htt.symm
        obtain ⟨a, b⟩ := pop p5_relF h (k8 (sc := sc) (n := sv sc (i + 1)) h.1) (fun t1 K => (m8 (sc := sc) (n := sv sc (i + 1)) K)) sw8 sm8 (fun r j q => by revert q; simp only [p5_Y, lawX, eX, lX, pX, fX, snX, brX, wyX, paX, trX, asX, gdX, lnX, lkX, lpX, lwcX, tyX, jyX, mkX, dzX, cpX, taX, glX, t1X, spX, dgX, kpX, mlawX, mvX, meX, mlX, mfaX, stX, hvX, pwX, btX, sgX, mlsX, jdX, tdX, dsX, enX, mftX, ldrX, wmX, maX, lwX, lrX, mrX, feX, ngX, trsX, dysX, gnX, t9X, spmX, kpmX, udX, Bool.or_eq_true, Bool.and_eq_true, decide_eq_true_eq, decide_eq_false_iff_not, beq_iff_eq, Bool.or_eq_false_iff, Bool.and_eq_false_iff, beq_eq_false_iff_ne]; omega) (fun r j q => by revert q; simp only [p5_Y, lawX, eX, lX, pX, fX, snX, brX, wyX, paX, trX, asX, gdX, lnX, lkX, lpX, lwcX, tyX, jyX, mkX, dzX, cpX, taX, glX, t1X, spX, dgX, kpX, mlawX, mvX, meX, mlX, mfaX, stX, hvX, pwX, btX, sgX, mlsX, jdX, tdX, dsX, enX, mftX, ldrX, wmX, maX, lwX, lrX, mrX, feX, ngX, trsX, dysX, gnX, t9X, spmX, kpmX, udX, Bool.or_eq_true, Bool.and_eq_true, decide_eq_true_eq, decide_eq_false_iff_not, beq_iff_eq, Bool.or_eq_false_iff, Bool.and_eq_false_iff, beq_eq_false_iff_ne]; omega)
        exact law_c8 (by decide) (by decide) hi a b fin
      · obtain rfl : tt = 275 := by simpa using htt.symm
        obtain ⟨a, b⟩ := pop p5_relF h (k9 (sc := sc) (n := sv sc (i + 1)) (w := sv sc (i + 2)) h.1) (fun t1 K => (m9 (sc := sc) (n := sv sc (i + 1)) (w := sv sc (i + 2)) K)) sw9 sm9 (fun r j q => by revert q; simp only [p5_Y, lawX, eX, lX, pX, fX, snX, brX, wyX, paX, trX, asX, gdX, lnX, lkX, lpX, lwcX, tyX, jyX, mkX, dzX, cpX, taX, glX, t1X, spX, dgX, kpX, mlawX, mvX, meX, mlX, mfaX, stX, hvX, pwX, btX, sgX, mlsX, jdX, tdX, dsX, enX, mftX, ldrX, wmX, maX, lwX, lrX, mrX, feX, ngX, trsX, dysX, gnX, t9X, spmX, kpmX, udX, Bool.or_eq_true, Bool.and_eq_true, decide_eq_true_eq, decide_eq_false_iff_not, beq_iff_eq, Bool.or_eq_false_iff, Bool.and_eq_false_iff, beq_eq_false_iff_ne]; omega) (fun r j q => by revert q; simp only [p5_Y, lawX, eX, lX, pX, fX, snX, brX, wyX, paX, trX, asX, gdX, lnX, lkX, lpX, lwcX, tyX, jyX, mkX, dzX, cpX, taX, glX, t1X, spX, dgX, kpX, mlawX, mvX, meX, mlX, mfaX, stX, hvX, pwX, btX, sgX, mlsX, jdX, tdX, dsX, enX, mftX, ldrX, wmX, maX, lwX, lrX, mrX, feX, ngX, trsX, dysX, gnX, t9X, spmX, kpmX, udX, Bool.or_eq_true, Bool.and_eq_true, decide_eq_true_eq, decide_eq_false_iff_not, beq_iff_eq, Bool.or_eq_false_iff, Bool.and_eq_false_iff, beq_eq_false_iff_ne]; omega)
        exact law_c9 (by decide) (by decide) hi a b fin
      · obtain rfl : tt = 302 := by simpa using htt.symm
        obtain ⟨a, b⟩ := pop p5_relF h (k10 (sc := sc) (n := sv sc (i + 1)) (w := sv sc (i + 2)) h.1) (fun t1 K => (m10 (sc := sc) (n := sv sc (i + 1)) (w := sv sc (i + 2)) K)) sw10 sm10 (fun _ _ _ => rfl) (fun _ _ _ => rfl)
        exact law_c10 (by decide) (by decide) hi a b fin
      · obtain rfl : tt = 329 := by simpa using htt.symm
        obtain ⟨a, b⟩ := pop p5_relF h (k11 (sc := sc) (a := sv sc (i + 1)) (b := sv sc (i + 2)) (c := sv sc (i + 3)) h.1) (fun t1 K => (m11 (sc := sc) (a := sv sc (i + 1)) (b := sv sc (i + 2)) (c := sv sc (i + 3)) K)) sw11 sm11 (fun r j q => by revert q; simp only [p5_Y, lawX, eX, lX, pX, fX, snX, brX, wyX, paX, trX, asX, gdX, lnX, lkX, lpX, lwcX, tyX, jyX, mkX, dzX, cpX, taX, glX, t1X, spX, dgX, kpX, mlawX, mvX, meX, mlX, mfaX, stX, hvX, pwX, btX, sgX, mlsX, jdX, tdX, dsX, enX, mftX, ldrX, wmX, maX, lwX, lrX, mrX, feX, ngX, trsX, dysX, gnX, t9X, spmX, kpmX, udX, Bool.or_eq_true, Bool.and_eq_true, decide_eq_true_eq, decide_eq_false_iff_not, beq_iff_eq, Bool.or_eq_false_iff, Bool.and_eq_false_iff, beq_eq_false_iff_ne]; omega) (fun r j q => by revert q; simp only [p5_Y, lawX, eX, lX, pX, fX, snX, brX, wyX, paX, trX, asX, gdX, lnX, lkX, lpX, lwcX, tyX, jyX, mkX, dzX, cpX, taX, glX, t1X, spX, dgX, kpX, mlawX, mvX, meX, mlX, mfaX, stX, hvX, pwX, btX, sgX, mlsX, jdX, tdX, dsX, enX, mftX, ldrX, wmX, maX, lwX, lrX, mrX, feX, ngX, trsX, dysX, gnX, t9X, spmX, kpmX, udX, Bool.or_eq_true, Bool.and_eq_true, decide_eq_true_eq, decide_eq_false_iff_not, beq_iff_eq, Bool.or_eq_false_iff, Bool.and_eq_false_iff, beq_eq_false_iff_ne]; omega)
        exact law_c11 (by decide) (by decide) hi a b fin
      · obtain rfl : tt = 366 := by simpa using htt.symm
        obtain ⟨a, b⟩ := pop p5_relF h (k12 (sc := sc) (a := sv sc (i + 1)) (b := sv sc (i + 2)) (c := sv sc (i + 3)) h.1) (fun t1 K => (m12 (sc := sc) (a := sv sc (i + 1)) (b := sv sc (i + 2)) (c := sv sc (i + 3)) K)) sw12 sm12 (fun r j q => by revert q; simp only [p5_Y, lawX, eX, lX, pX, fX, snX, brX, wyX, paX, trX, asX, gdX, lnX, lkX, lpX, lwcX, tyX, jyX, mkX, dzX, cpX, taX, glX, t1X, spX, dgX, kpX, mlawX, mvX, meX, mlX, mfaX, stX, hvX, pwX, btX, sgX, mlsX, jdX, tdX, dsX, enX, mftX, ldrX, wmX, maX, lwX, lrX, mrX, feX, ngX, trsX, dysX, gnX, t9X, spmX, kpmX, udX, Bool.or_eq_true, Bool.and_eq_true, decide_eq_true_eq, decide_eq_false_iff_not, beq_iff_eq, Bool.or_eq_false_iff, Bool.and_eq_false_iff, beq_eq_false_iff_ne]; omega) (fun r j q => by revert q; simp only [p5_Y, lawX, eX, lX, pX, fX, snX, brX, wyX, paX, trX, asX, gdX, lnX, lkX, lpX, lwcX, tyX, jyX, mkX, dzX, cpX, taX, glX, t1X, spX, dgX, kpX, mlawX, mvX, meX, mlX, mfaX, stX, hvX, pwX, btX, sgX, mlsX, jdX, tdX, dsX, enX, mftX, ldrX, wmX, maX, lwX, lrX, mrX, feX, ngX, trsX, dysX, gnX, t9X, spmX, kpmX, udX, Bool.or_eq_true, Bool.and_eq_true, decide_eq_true_eq, decide_eq_false_iff_not, beq_iff_eq, Bool.or_eq_false_iff, Bool.and_eq_false_iff, beq_eq_false_iff_ne]; omega)
        exact law_c12 (by decide) (by decide) hi a b fin
      · obtain rfl : tt = 403 := by simpa using htt.symm
        obtain ⟨a, b⟩ := pop p5_relF h (k13 (sc := sc) (a := sv sc (i + 1)) (b := sv sc (i + 2)) (c := sv sc (i + 3)) (d := sv sc (i + 4)) h.1) (fun t1 K => (m13 (sc := sc) (a := sv sc (i + 1)) (b := sv sc (i + 2)) (c := sv sc (i + 3)) (d := sv sc (i + 4)) K)) sw13 sm13 (fun r j q => by revert q; simp only [p5_Y, lawX, eX, lX, pX, fX, snX, brX, wyX, paX, trX, asX, gdX, lnX, lkX, lpX, lwcX, tyX, jyX, mkX, dzX, cpX, taX, glX, t1X, spX, dgX, kpX, mlawX, mvX, meX, mlX, mfaX, stX, hvX, pwX, btX, sgX, mlsX, jdX, tdX, dsX, enX, mftX, ldrX, wmX, maX, lwX, lrX, mrX, feX, ngX, trsX, dysX, gnX, t9X, spmX, kpmX, udX, Bool.or_eq_true, Bool.and_eq_true, decide_eq_true_eq, decide_eq_false_iff_not, beq_iff_eq, Bool.or_eq_false_iff, Bool.and_eq_false_iff, beq_eq_false_iff_ne]; omega) (fun r j q => by revert q; simp only [p5_Y, lawX, eX, lX, pX, fX, snX, brX, wyX, paX, trX, asX, gdX, lnX, lkX, lpX, lwcX, tyX, jyX, mkX, dzX, cpX, taX, glX, t1X, spX, dgX, kpX, mlawX, mvX, meX, mlX, mfaX, stX, hvX, pwX, btX, sgX, mlsX, jdX, tdX, dsX, enX, mftX, ldrX, wmX, maX, lwX, lrX, mrX, feX, ngX, trsX, dysX, gnX, t9X, spmX, kpmX, udX, Bool.or_eq_true, Bool.and_eq_true, decide_eq_true_eq, decide_eq_false_iff_not, beq_iff_eq, Bool.or_eq_false_iff, Bool.and_eq_false_iff, beq_eq_false_iff_ne]; omega)
        exact law_c13 (by decide) (by decide) hi a b fin
      · obtain rfl : tt = 450 := by simpa using htt.symm
        obtain ⟨a, b⟩ := pop p5_relF h (k14 (sc := sc) (a := sv sc (i + 1)) (b := sv sc (i + 2)) (c := sv sc (i + 3)) (d := sv sc (i + 4)) (e := sv sc (i + 5)) h.1) (fun t1 K => (m14 (sc := sc) (a := sv sc (i + 1)) (b := sv sc (i + 2)) (c := sv sc (i + 3)) (d := sv sc (i + 4)) (e := sv sc (i + 5)) K)) sw14 sm14 (fun r j q => by revert q; simp only [p5_Y, lawX, eX, lX, pX, fX, snX, brX, wyX, paX, trX, asX, gdX, lnX, lkX, lpX, lwcX, tyX, jyX, mkX, dzX, cpX, taX, glX, t1X, spX, dgX, kpX, mlawX, mvX, meX, mlX, mfaX, stX, hvX, pwX, btX, sgX, mlsX, jdX, tdX, dsX, enX, mftX, ldrX, wmX, maX, lwX, lrX, mrX, feX, ngX, trsX, dysX, gnX, t9X, spmX, kpmX, udX, Bool.or_eq_true, Bool.and_eq_true, decide_eq_true_eq, decide_eq_false_iff_not, beq_iff_eq, Bool.or_eq_false_iff, Bool.and_eq_false_iff, beq_eq_false_iff_ne]; omega) (fun r j q => by revert q; simp only [p5_Y, lawX, eX, lX, pX, fX, snX, brX, wyX, paX, trX, asX, gdX, lnX, lkX, lpX, lwcX, tyX, jyX, mkX, dzX, cpX, taX, glX, t1X, spX, dgX, kpX, mlawX, mvX, meX, mlX, mfaX, stX, hvX, pwX, btX, sgX, mlsX, jdX, tdX, dsX, enX, mftX, ldrX, wmX, maX, lwX, lrX, mrX, feX, ngX, trsX, dysX, gnX, t9X, spmX, kpmX, udX, Bool.or_eq_true, Bool.and_eq_true, decide_eq_true_eq, decide_eq_false_iff_not, beq_iff_eq, Bool.or_eq_false_iff, Bool.and_eq_false_iff, beq_eq_false_iff_ne]; omega)
        exact law_c14 (by decide) (by decide) hi a b fin
      · obtain rfl : tt = 507 := by simpa using htt.symm
        obtain ⟨a, b⟩ := pop p5_relF h (k15 (sc := sc) (a := sv sc (i + 1)) (b := sv sc (i + 2)) (c := sv sc (i + 3)) (d := sv sc (i + 4)) (e := sv sc (i + 5)) (f := sv sc (i + 6)) h.1) (fun t1 K => (m15 (sc := sc) (a := sv sc (i + 1)) (b := sv sc (i + 2)) (c := sv sc (i + 3)) (d := sv sc (i + 4)) (e := sv sc (i + 5)) (f := sv sc (i + 6)) K)) sw15 sm15 (fun r j q => by revert q; simp only [p5_Y, lawX, eX, lX, pX, fX, snX, brX, wyX, paX, trX, asX, gdX, lnX, lkX, lpX, lwcX, tyX, jyX, mkX, dzX, cpX, taX, glX, t1X, spX, dgX, kpX, mlawX, mvX, meX, mlX, mfaX, stX, hvX, pwX, btX, sgX, mlsX, jdX, tdX, dsX, enX, mftX, ldrX, wmX, maX, lwX, lrX, mrX, feX, ngX, trsX, dysX, gnX, t9X, spmX, kpmX, udX, Bool.or_eq_true, Bool.and_eq_true, decide_eq_true_eq, decide_eq_false_iff_not, beq_iff_eq, Bool.or_eq_false_iff, Bool.and_eq_false_iff, beq_eq_false_iff_ne]; omega) (fun r j q => by revert q; simp only [p5_Y, lawX, eX, lX, pX, fX, snX, brX, wyX, paX, trX, asX, gdX, lnX, lkX, lpX, lwcX, tyX, jyX, mkX, dzX, cpX, taX, glX, t1X, spX, dgX, kpX, mlawX, mvX, meX, mlX, mfaX, stX, hvX, pwX, btX, sgX, mlsX, jdX, tdX, dsX, enX, mftX, ldrX, wmX, maX, lwX, lrX, mrX, feX, ngX, trsX, dysX, gnX, t9X, spmX, kpmX, udX, Bool.or_eq_true, Bool.and_eq_true, decide_eq_true_eq, decide_eq_false_iff_not, beq_iff_eq, Bool.or_eq_false_iff, Bool.and_eq_false_iff, beq_eq_false_iff_ne]; omega)
        exact law_c15 (by decide) (by decide) hi a b fin
      · obtain rfl : tt = 574 := by simpa using htt.symm
        obtain ⟨a, b⟩ := pop p5_relF h (k16 (sc := sc) (a := sv sc (i + 1)) (b := sv sc (i + 2)) h.1) (fun t1 K => (m16 (sc := sc) (a := sv sc (i + 1)) (b := sv sc (i + 2)) K)) sw16 sm16 (fun r j q => by revert q; simp only [p5_Y, lawX, eX, lX, pX, fX, snX, brX, wyX, paX, trX, asX, gdX, lnX, lkX, lpX, lwcX, tyX, jyX, mkX, dzX, cpX, taX, glX, t1X, spX, dgX, kpX, mlawX, mvX, meX, mlX, mfaX, stX, hvX, pwX, btX, sgX, mlsX, jdX, tdX, dsX, enX, mftX, ldrX, wmX, maX, lwX, lrX, mrX, feX, ngX, trsX, dysX, gnX, t9X, spmX, kpmX, udX, Bool.or_eq_true, Bool.and_eq_true, decide_eq_true_eq, decide_eq_false_iff_not, beq_iff_eq, Bool.or_eq_false_iff, Bool.and_eq_false_iff, beq_eq_false_iff_ne]; omega) (fun r j q => by revert q; simp only [p5_Y, lawX, eX, lX, pX, fX, snX, brX, wyX, paX, trX, asX, gdX, lnX, lkX, lpX, lwcX, tyX, jyX, mkX, dzX, cpX, taX, glX, t1X, spX, dgX, kpX, mlawX, mvX, meX, mlX, mfaX, stX, hvX, pwX, btX, sgX, mlsX, jdX, tdX, dsX, enX, mftX, ldrX, wmX, maX, lwX, lrX, mrX, feX, ngX, trsX, dysX, gnX, t9X, spmX, kpmX, udX, Bool.or_eq_true, Bool.and_eq_true, decide_eq_true_eq, decide_eq_false_iff_not, beq_iff_eq, Bool.or_eq_false_iff, Bool.and_eq_false_iff, beq_eq_false_iff_ne]; omega)
        exact law_c16 (by decide) (by decide) hi a b fin
      · obtain rfl : tt = 601 := by simpa using htt.symm
        obtain ⟨a, b⟩ := pop p5_relF h (k17 (sc := sc) (a := sv sc (i + 1)) (b := sv sc (i + 2)) (c := sv sc (i + 3)) h.1) (fun t1 K => (m17 (sc := sc) (a := sv sc (i + 1)) (b := sv sc (i + 2)) (c := sv sc (i + 3)) K)) sw17 sm17 (fun r j q => by revert q; simp only [p5_Y, lawX, eX, lX, pX, fX, snX, brX, wyX, paX, trX, asX, gdX, lnX, lkX, lpX, lwcX, tyX, jyX, mkX, dzX, cpX, taX, glX, t1X, spX, dgX, kpX, mlawX, mvX, meX, mlX, mfaX, stX, hvX, pwX, btX, sgX, mlsX, jdX, tdX, dsX, enX, mftX, ldrX, wmX, maX, lwX, lrX, mrX, feX, ngX, trsX, dysX, gnX, t9X, spmX, kpmX, udX, Bool.or_eq_true, Bool.and_eq_true, decide_eq_true_eq, decide_eq_false_iff_not, beq_iff_eq, Bool.or_eq_false_iff, Bool.and_eq_false_iff, beq_eq_false_iff_ne]; omega) (fun r j q => by revert q; simp only [p5_Y, lawX, eX, lX, pX, fX, snX, brX, wyX, paX, trX, asX, gdX, lnX, lkX, lpX, lwcX, tyX, jyX, mkX, dzX, cpX, taX, glX, t1X, spX, dgX, kpX, mlawX, mvX, meX, mlX, mfaX, stX, hvX, pwX, btX, sgX, mlsX, jdX, tdX, dsX, enX, mftX, ldrX, wmX, maX, lwX, lrX, mrX, feX, ngX, trsX, dysX, gnX, t9X, spmX, kpmX, udX, Bool.or_eq_true, Bool.and_eq_true, decide_eq_true_eq, decide_eq_false_iff_not, beq_iff_eq, Bool.or_eq_false_iff, Bool.and_eq_false_iff, beq_eq_false_iff_ne]; omega)
        exact law_c17 (by decide) (by decide) hi a b fin
      · obtain rfl : tt = 638 := by simpa using htt.symm
        obtain ⟨a, b⟩ := pop p5_relF h (k18 (sc := sc) (a := sv sc (i + 1)) (b := sv sc (i + 2)) (c := sv sc (i + 3)) (d := sv sc (i + 4)) (e := sv sc (i + 5)) h.1) (fun t1 K => (m18 (sc := sc) (a := sv sc (i + 1)) (b := sv sc (i + 2)) (c := sv sc (i + 3)) (d := sv sc (i + 4)) (e := sv sc (i + 5)) K)) sw18 sm18 (fun r j q => by revert q; simp only [p5_Y, lawX, eX, lX, pX, fX, snX, brX, wyX, paX, trX, asX, gdX, lnX, lkX, lpX, lwcX, tyX, jyX, mkX, dzX, cpX, taX, glX, t1X, spX, dgX, kpX, mlawX, mvX, meX, mlX, mfaX, stX, hvX, pwX, btX, sgX, mlsX, jdX, tdX, dsX, enX, mftX, ldrX, wmX, maX, lwX, lrX, mrX, feX, ngX, trsX, dysX, gnX, t9X, spmX, kpmX, udX, Bool.or_eq_true, Bool.and_eq_true, decide_eq_true_eq, decide_eq_false_iff_not, beq_iff_eq, Bool.or_eq_false_iff, Bool.and_eq_false_iff, beq_eq_false_iff_ne]; omega) (fun r j q => by revert q; simp only [p5_Y, lawX, eX, lX, pX, fX, snX, brX, wyX, paX, trX, asX, gdX, lnX, lkX, lpX, lwcX, tyX, jyX, mkX, dzX, cpX, taX, glX, t1X, spX, dgX, kpX, mlawX, mvX, meX, mlX, mfaX, stX, hvX, pwX, btX, sgX, mlsX, jdX, tdX, dsX, enX, mftX, ldrX, wmX, maX, lwX, lrX, mrX, feX, ngX, trsX, dysX, gnX, t9X, spmX, kpmX, udX, Bool.or_eq_true, Bool.and_eq_true, decide_eq_true_eq, decide_eq_false_iff_not, beq_iff_eq, Bool.or_eq_false_iff, Bool.and_eq_false_iff, beq_eq_false_iff_ne]; omega)
        exact law_c18 (by decide) (by decide) hi a b fin
      · obtain rfl : tt = 695 := by simpa using htt.symm
        obtain ⟨a, b⟩ := pop p5_relF h (k19 (sc := sc) (a := sv sc (i + 1)) (b := sv sc (i + 2)) (c := sv sc (i + 3)) (d := sv sc (i + 4)) (e := sv sc (i + 5)) h.1) (fun t1 K => (m19 (sc := sc) (a := sv sc (i + 1)) (b := sv sc (i + 2)) (c := sv sc (i + 3)) (d := sv sc (i + 4)) (e := sv sc (i + 5)) K)) sw19 sm19 (fun r j q => by revert q; simp only [p5_Y, lawX, eX, lX, pX, fX, snX, brX, wyX, paX, trX, asX, gdX, lnX, lkX, lpX, lwcX, tyX, jyX, mkX, dzX, cpX, taX, glX, t1X, spX, dgX, kpX, mlawX, mvX, meX, mlX, mfaX, stX, hvX, pwX, btX, sgX, mlsX, jdX, tdX, dsX, enX, mftX, ldrX, wmX, maX, lwX, lrX, mrX, feX, ngX, trsX, dysX, gnX, t9X, spmX, kpmX, udX, Bool.or_eq_true, Bool.and_eq_true, decide_eq_true_eq, decide_eq_false_iff_not, beq_iff_eq, Bool.or_eq_false_iff, Bool.and_eq_false_iff, beq_eq_false_iff_ne]; omega) (fun r j q => by revert q; simp only [p5_Y, lawX, eX, lX, pX, fX, snX, brX, wyX, paX, trX, asX, gdX, lnX, lkX, lpX, lwcX, tyX, jyX, mkX, dzX, cpX, taX, glX, t1X, spX, dgX, kpX, mlawX, mvX, meX, mlX, mfaX, stX, hvX, pwX, btX, sgX, mlsX, jdX, tdX, dsX, enX, mftX, ldrX, wmX, maX, lwX, lrX, mrX, feX, ngX, trsX, dysX, gnX, t9X, spmX, kpmX, udX, Bool.or_eq_true, Bool.and_eq_true, decide_eq_true_eq, decide_eq_false_iff_not, beq_iff_eq, Bool.or_eq_false_iff, Bool.and_eq_false_iff, beq_eq_false_iff_ne]; omega)
        exact law_c19 (by decide) (by decide) hi a b fin
      · obtain rfl : tt = 752 := by simpa using htt.symm
        obtain ⟨a, b⟩ := two h (k20 (sc := sc) (m := sv sc (i + 1)) (w := sv sc (i + 2)) h.1) (fun t1 K => m20 (sc := sc) (m := sv sc (i + 1)) (w := sv sc (i + 2)) K) sw20 sm20 (fun r1 t1 r2 t2 F _ F2 q1 q2 => p5_parted (hy_Ri _) h.2.2 F F2 q1 q2)
        exact law_c20 (by decide) (by decide) hi a b fin
      · obtain rfl : tt = 779 := by simpa using htt.symm
        obtain ⟨a, b⟩ := pop p5_relF h (k21 (sc := sc) (a := sv sc (i + 1)) (b := sv sc (i + 2)) (c := sv sc (i + 3)) (d := sv sc (i + 4)) h.1) (fun t1 K => (m21 (sc := sc) (a := sv sc (i + 1)) (b := sv sc (i + 2)) (c := sv sc (i + 3)) (d := sv sc (i + 4)) K)) sw21 sm21 (fun r j q => by revert q; simp only [p5_Y, lawX, eX, lX, pX, fX, snX, brX, wyX, paX, trX, asX, gdX, lnX, lkX, lpX, lwcX, tyX, jyX, mkX, dzX, cpX, taX, glX, t1X, spX, dgX, kpX, mlawX, mvX, meX, mlX, mfaX, stX, hvX, pwX, btX, sgX, mlsX, jdX, tdX, dsX, enX, mftX, ldrX, wmX, maX, lwX, lrX, mrX, feX, ngX, trsX, dysX, gnX, t9X, spmX, kpmX, udX, Bool.or_eq_true, Bool.and_eq_true, decide_eq_true_eq, decide_eq_false_iff_not, beq_iff_eq, Bool.or_eq_false_iff, Bool.and_eq_false_iff, beq_eq_false_iff_ne]; omega) (fun r j q => by revert q; simp only [p5_Y, lawX, eX, lX, pX, fX, snX, brX, wyX, paX, trX, asX, gdX, lnX, lkX, lpX, lwcX, tyX, jyX, mkX, dzX, cpX, taX, glX, t1X, spX, dgX, kpX, mlawX, mvX, meX, mlX, mfaX, stX, hvX, pwX, btX, sgX, mlsX, jdX, tdX, dsX, enX, mftX, ldrX, wmX, maX, lwX, lrX, mrX, feX, ngX, trsX, dysX, gnX, t9X, spmX, kpmX, udX, Bool.or_eq_true, Bool.and_eq_true, decide_eq_true_eq, decide_eq_false_iff_not, beq_iff_eq, Bool.or_eq_false_iff, Bool.and_eq_false_iff, beq_eq_false_iff_ne]; omega)
        exact law_c21 (by decide) (by decide) hi a b fin
      · obtain rfl : tt = 826 := by simpa using htt.symm
        obtain ⟨a, b⟩ := two h (k22 (sc := sc) (n := sv sc (i + 1)) (w := sv sc (i + 2)) h.1) (fun t1 K => m22 (sc := sc) (n := sv sc (i + 1)) (w := sv sc (i + 2)) K) sw22 sm22 (fun r1 t1 r2 t2 F _ F2 q1 q2 => p5_spies h.2.2 F F2 q1 q2)
        exact law_c22 (by decide) (by decide) hi a b fin
      · obtain rfl : tt = 853 := by simpa using htt.symm
        obtain ⟨a, b⟩ := pop p5_relF h (k23 (sc := sc) (a := sv sc (i + 1)) (b := sv sc (i + 2)) h.1) (fun t1 K => (m23 (sc := sc) (a := sv sc (i + 1)) (b := sv sc (i + 2)) K)) sw23 sm23 (fun r j q => by revert q; simp only [p5_Y, lawX, eX, lX, pX, fX, snX, brX, wyX, paX, trX, asX, gdX, lnX, lkX, lpX, lwcX, tyX, jyX, mkX, dzX, cpX, taX, glX, t1X, spX, dgX, kpX, mlawX, mvX, meX, mlX, mfaX, stX, hvX, pwX, btX, sgX, mlsX, jdX, tdX, dsX, enX, mftX, ldrX, wmX, maX, lwX, lrX, mrX, feX, ngX, trsX, dysX, gnX, t9X, spmX, kpmX, udX, Bool.or_eq_true, Bool.and_eq_true, decide_eq_true_eq, decide_eq_false_iff_not, beq_iff_eq, Bool.or_eq_false_iff, Bool.and_eq_false_iff, beq_eq_false_iff_ne]; omega) (fun r j q => by revert q; simp only [p5_Y, lawX, eX, lX, pX, fX, snX, brX, wyX, paX, trX, asX, gdX, lnX, lkX, lpX, lwcX, tyX, jyX, mkX, dzX, cpX, taX, glX, t1X, spX, dgX, kpX, mlawX, mvX, meX, mlX, mfaX, stX, hvX, pwX, btX, sgX, mlsX, jdX, tdX, dsX, enX, mftX, ldrX, wmX, maX, lwX, lrX, mrX, feX, ngX, trsX, dysX, gnX, t9X, spmX, kpmX, udX, Bool.or_eq_true, Bool.and_eq_true, decide_eq_true_eq, decide_eq_false_iff_not, beq_iff_eq, Bool.or_eq_false_iff, Bool.and_eq_false_iff, beq_eq_false_iff_ne]; omega)
        exact law_c23 (by decide) (by decide) hi a b fin
      · obtain rfl : tt = 880 := by simpa using htt.symm
        obtain ⟨a, b⟩ := pop p5_relF h (k24 (sc := sc) (a := sv sc (i + 1)) (b := sv sc (i + 2)) (c := sv sc (i + 3)) h.1) (fun t1 K => (m24 (sc := sc) (a := sv sc (i + 1)) (b := sv sc (i + 2)) (c := sv sc (i + 3)) K)) sw24 sm24 (fun r j q => by revert q; simp only [p5_Y, lawX, eX, lX, pX, fX, snX, brX, wyX, paX, trX, asX, gdX, lnX, lkX, lpX, lwcX, tyX, jyX, mkX, dzX, cpX, taX, glX, t1X, spX, dgX, kpX, mlawX, mvX, meX, mlX, mfaX, stX, hvX, pwX, btX, sgX, mlsX, jdX, tdX, dsX, enX, mftX, ldrX, wmX, maX, lwX, lrX, mrX, feX, ngX, trsX, dysX, gnX, t9X, spmX, kpmX, udX, Bool.or_eq_true, Bool.and_eq_true, decide_eq_true_eq, decide_eq_false_iff_not, beq_iff_eq, Bool.or_eq_false_iff, Bool.and_eq_false_iff, beq_eq_false_iff_ne]; omega) (fun r j q => by revert q; simp only [p5_Y, lawX, eX, lX, pX, fX, snX, brX, wyX, paX, trX, asX, gdX, lnX, lkX, lpX, lwcX, tyX, jyX, mkX, dzX, cpX, taX, glX, t1X, spX, dgX, kpX, mlawX, mvX, meX, mlX, mfaX, stX, hvX, pwX, btX, sgX, mlsX, jdX, tdX, dsX, enX, mftX, ldrX, wmX, maX, lwX, lrX, mrX, feX, ngX, trsX, dysX, gnX, t9X, spmX, kpmX, udX, Bool.or_eq_true, Bool.and_eq_true, decide_eq_true_eq, decide_eq_false_iff_not, beq_iff_eq, Bool.or_eq_false_iff, Bool.and_eq_false_iff, beq_eq_false_iff_ne]; omega)
        exact law_c24 (by decide) (by decide) hi a b fin
      · obtain rfl : tt = 917 := by simpa using htt.symm
        obtain ⟨a, b⟩ := pop p5_relF h (k25 (sc := sc) (a := sv sc (i + 1)) h.1) (fun t1 K => (m25 (sc := sc) (a := sv sc (i + 1)) K)) sw25 sm25 (fun r j q => by revert q; simp only [p5_Y, lawX, eX, lX, pX, fX, snX, brX, wyX, paX, trX, asX, gdX, lnX, lkX, lpX, lwcX, tyX, jyX, mkX, dzX, cpX, taX, glX, t1X, spX, dgX, kpX, mlawX, mvX, meX, mlX, mfaX, stX, hvX, pwX, btX, sgX, mlsX, jdX, tdX, dsX, enX, mftX, ldrX, wmX, maX, lwX, lrX, mrX, feX, ngX, trsX, dysX, gnX, t9X, spmX, kpmX, udX, Bool.or_eq_true, Bool.and_eq_true, decide_eq_true_eq, decide_eq_false_iff_not, beq_iff_eq, Bool.or_eq_false_iff, Bool.and_eq_false_iff, beq_eq_false_iff_ne]; omega) (fun r j q => by revert q; simp only [p5_Y, lawX, eX, lX, pX, fX, snX, brX, wyX, paX, trX, asX, gdX, lnX, lkX, lpX, lwcX, tyX, jyX, mkX, dzX, cpX, taX, glX, t1X, spX, dgX, kpX, mlawX, mvX, meX, mlX, mfaX, stX, hvX, pwX, btX, sgX, mlsX, jdX, tdX, dsX, enX, mftX, ldrX, wmX, maX, lwX, lrX, mrX, feX, ngX, trsX, dysX, gnX, t9X, spmX, kpmX, udX, Bool.or_eq_true, Bool.and_eq_true, decide_eq_true_eq, decide_eq_false_iff_not, beq_iff_eq, Bool.or_eq_false_iff, Bool.and_eq_false_iff, beq_eq_false_iff_ne]; omega)
        exact law_c25 (by decide) (by decide) hi a b fin
      · obtain rfl : tt = 934 := by simpa using htt.symm
        obtain ⟨a, b⟩ := pop p5_relF h ((k26 (sc := sc) h.1).mono (fun _ _ q => q.1)) (fun t1 K => ((m26 (sc := sc) K).mono (fun _ _ q => q.1))) sw26 sm26 (fun r j q => by revert q; simp only [p5_Y, lawX, eX, lX, pX, fX, snX, brX, wyX, paX, trX, asX, gdX, lnX, lkX, lpX, lwcX, tyX, jyX, mkX, dzX, cpX, taX, glX, t1X, spX, dgX, kpX, mlawX, mvX, meX, mlX, mfaX, stX, hvX, pwX, btX, sgX, mlsX, jdX, tdX, dsX, enX, mftX, ldrX, wmX, maX, lwX, lrX, mrX, feX, ngX, trsX, dysX, gnX, t9X, spmX, kpmX, udX, Bool.or_eq_true, Bool.and_eq_true, decide_eq_true_eq, decide_eq_false_iff_not, beq_iff_eq, Bool.or_eq_false_iff, Bool.and_eq_false_iff, beq_eq_false_iff_ne]; omega) (fun r j q => by revert q; simp only [p5_Y, lawX, eX, lX, pX, fX, snX, brX, wyX, paX, trX, asX, gdX, lnX, lkX, lpX, lwcX, tyX, jyX, mkX, dzX, cpX, taX, glX, t1X, spX, dgX, kpX, mlawX, mvX, meX, mlX, mfaX, stX, hvX, pwX, btX, sgX, mlsX, jdX, tdX, dsX, enX, mftX, ldrX, wmX, maX, lwX, lrX, mrX, feX, ngX, trsX, dysX, gnX, t9X, spmX, kpmX, udX, Bool.or_eq_true, Bool.and_eq_true, decide_eq_true_eq, decide_eq_false_iff_not, beq_iff_eq, Bool.or_eq_false_iff, Bool.and_eq_false_iff, beq_eq_false_iff_ne]; omega)
        exact law_c26 (by decide) (by decide) hi a b fin
      · obtain rfl : tt = 941 := by simpa using htt.symm
        obtain ⟨a, b⟩ := pop p5_relF h ((k27 (sc := sc) h.1).mono (fun _ _ q => q.1)) (fun t1 K => ((m27 (sc := sc) K).mono (fun _ _ q => q.1))) sw27 sm27 (fun r j q => by revert q; simp only [p5_Y, lawX, eX, lX, pX, fX, snX, brX, wyX, paX, trX, asX, gdX, lnX, lkX, lpX, lwcX, tyX, jyX, mkX, dzX, cpX, taX, glX, t1X, spX, dgX, kpX, mlawX, mvX, meX, mlX, mfaX, stX, hvX, pwX, btX, sgX, mlsX, jdX, tdX, dsX, enX, mftX, ldrX, wmX, maX, lwX, lrX, mrX, feX, ngX, trsX, dysX, gnX, t9X, spmX, kpmX, udX, Bool.or_eq_true, Bool.and_eq_true, decide_eq_true_eq, decide_eq_false_iff_not, beq_iff_eq, Bool.or_eq_false_iff, Bool.and_eq_false_iff, beq_eq_false_iff_ne]; omega) (fun r j q => by revert q; simp only [p5_Y, lawX, eX, lX, pX, fX, snX, brX, wyX, paX, trX, asX, gdX, lnX, lkX, lpX, lwcX, tyX, jyX, mkX, dzX, cpX, taX, glX, t1X, spX, dgX, kpX, mlawX, mvX, meX, mlX, mfaX, stX, hvX, pwX, btX, sgX, mlsX, jdX, tdX, dsX, enX, mftX, ldrX, wmX, maX, lwX, lrX, mrX, feX, ngX, trsX, dysX, gnX, t9X, spmX, kpmX, udX, Bool.or_eq_true, Bool.and_eq_true, decide_eq_true_eq, decide_eq_false_iff_not, beq_iff_eq, Bool.or_eq_false_iff, Bool.and_eq_false_iff, beq_eq_false_iff_ne]; omega)
        exact law_c27 (by decide) (by decide) hi a b fin
      · obtain rfl : tt = 948 := by simpa using htt.symm
        obtain ⟨a, b⟩ := two h (k28 (sc := sc) (n := sv sc (i + 1)) h.1) (fun t1 K => m28 (sc := sc) (n := sv sc (i + 1)) K) sw28 sm28 (fun r1 t1 r2 t2 F _ F2 q1 q2 => p5_check h.2.2 F F2 q1.2 q2.2)
        exact law_c28 (by decide) (by decide) hi a b fin
      · obtain rfl : tt = 965 := by simpa using htt.symm
        obtain ⟨a, b⟩ := pop p5_relF h ((k29 (sc := sc) (w := sv sc (i + 1)) (hy_Ri _) h.1).mono (fun _ _ q => q.1)) (fun t1 K => ((m29 (sc := sc) (w := sv sc (i + 1)) K).mono (fun _ _ q => q.1))) sw29 sm29 (fun _ _ _ => rfl) (fun _ _ _ => rfl)
        exact law_c29 (by decide) (by decide) hi a b fin
      · obtain rfl : tt = 982 := by rw [if_pos (.inr hb)] at htt; exact htt
        exact fin t h
  exact main sc.length 0 t0 (by omega) (by omega) p5_0
