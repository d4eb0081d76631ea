/-! the class: every call ends, keeps all this, and leaves the rest alone -/
abbrev cpX (b : Nat) : Nat → Nat → Bool := fun r j => r == b + 1 || r == b + 2 || r == b + 3 || (r == b && (j == 3 || j == 4 || j == 5))
theorem sp_scopy_F (t : hy_T) (a b : Nat) : hy_F (cpX b) t (sp_scopy t a b) := by
  intro r j q
  simp only [cpX, Bool.or_eq_false_iff, Bool.and_eq_false_iff, beq_eq_false_iff_ne] at q
  simp only [sp_scopy, hy_up, hy_cp]
  repeat (rw [if_neg (by omega)])
theorem sp_scopy_3733 {t : hy_T} (h : st_ok 37 t) : st_ok 33 (sp_scopy t 37 33) := by
  refine ⟨h.c, h.d, h.w, fun j hj => ?_⟩
  have := h.t j hj
  simpa [sp_scopy, hy_up, hy_cp, hj] using this
theorem sp_scopy_3337 {t : hy_T} (h : st_ok 33 t) : st_ok 37 (sp_scopy t 33 37) := by
  refine ⟨h.c, h.d, h.w, fun j hj => ?_⟩
  have := h.t j hj
  simpa [sp_scopy, hy_up, hy_cp, hj] using this
theorem cK_tell {t : hy_T} (k : cK t) {c f s : Int} (h : sp_tellable (t 5 2) c f s = true) : cK (sp_tellC t c f s) ∧ hy_F (fun r _ => r == 5 || r == 6 || r == 7) t (sp_tellC t c f s) := by
  have F : hy_F (fun r _ => r == 5 || r == 6 || r == 7) t (sp_tellC t c f s) := by
    unfold sp_tellC
    split
    · exact hy_F.rf.up rfl
    · exact (((hy_F.rf.up rfl).up rfl).up rfl).up rfl
  refine ⟨⟨⟨⟨ck_tp F (fun r j q => by revert q; simp only [ckX, ckT, lawX, ckN, ckS, ckP, eX, lX, pX, fX, snX, brX, wyX, paX, trX, asX, gdX, lnX, lkX, lpX, lwcX, tyX, jyX, mkX, dzX, cpX, Bool.or_eq_true, Bool.and_eq_true, beq_iff_eq, Bool.or_eq_false_iff, Bool.and_eq_false_iff, beq_eq_false_iff_ne]; omega) k.tp, ck_lc F (fun r j q => by revert q; simp only [ckX, ckT, lawX, ckN, ckS, ckP, eX, lX, pX, fX, snX, brX, wyX, paX, trX, asX, gdX, lnX, lkX, lpX, lwcX, tyX, jyX, mkX, dzX, cpX, Bool.or_eq_true, Bool.and_eq_true, beq_iff_eq, Bool.or_eq_false_iff, Bool.and_eq_false_iff, beq_eq_false_iff_ne]; omega) k.lc⟩, da_F F (fun _ => rfl) k.da, ck_ln F (fun r j q => by revert q; simp only [ckX, ckT, lawX, ckN, ckS, ckP, eX, lX, pX, fX, snX, brX, wyX, paX, trX, asX, gdX, lnX, lkX, lpX, lwcX, tyX, jyX, mkX, dzX, cpX, Bool.or_eq_true, Bool.and_eq_true, beq_iff_eq, Bool.or_eq_false_iff, Bool.and_eq_false_iff, beq_eq_false_iff_ne]; omega) k.ln⟩, ⟨ck_st F (fun r j q => by revert q; simp only [ckX, ckT, lawX, ckN, ckS, ckP, eX, lX, pX, fX, snX, brX, wyX, paX, trX, asX, gdX, lnX, lkX, lpX, lwcX, tyX, jyX, mkX, dzX, cpX, Bool.or_eq_true, Bool.and_eq_true, beq_iff_eq, Bool.or_eq_false_iff, Bool.and_eq_false_iff, beq_eq_false_iff_ne]; omega) k.s1, ck_st F (fun r j q => by revert q; simp only [ckX, ckT, lawX, ckN, ckS, ckP, eX, lX, pX, fX, snX, brX, wyX, paX, trX, asX, gdX, lnX, lkX, lpX, lwcX, tyX, jyX, mkX, dzX, cpX, Bool.or_eq_true, Bool.and_eq_true, beq_iff_eq, Bool.or_eq_false_iff, Bool.and_eq_false_iff, beq_eq_false_iff_ne]; omega) k.s2⟩, pa_stk_F F (fun _ => rfl) k.sk, ?_⟩, F⟩
  have kp := k.pr
  unfold sp_tellC
  split
  · exact kp
  · next hfs =>
    simp only [sp_tellable, sp_told, Bool.and_eq_true, Bool.or_eq_true, decide_eq_true_eq] at h
    have hr : (-1 ≤ f ∧ f < 12) ∧ -1 ≤ s ∧ s < 12 := by
      rcases h.2 with q | q
      · exact absurd q hfs
      · have q1 := q.1.1.1
        have q2 := q.1.2.1
        omega
    intro j hj
    obtain ⟨k1, k2⟩ := kp j hj
    refine ⟨?_, ?_⟩
    · rw [hy_up_ne (by decide), hy_up_ne (by decide), hy_up_ne (by decide)]
      simp only [hy_up]
      split
      · exact hr.1
      · exact k1
    · rw [hy_up_ne (by decide), hy_up_ne (by decide)]
      simp only [hy_up]
      split
      · exact hr.2
      · rw [if_neg (by omega)]; exact k2
abbrev taX : Nat → Nat → Bool := fun r j => r == 4 || (r == 3 && j == 1)
theorem tp_add_F (t : hy_T) (w : Int) : hy_F taX t (tp_add t w) := by
  have h : ∀ (t1 : hy_T) (v : Int), hy_F taX t t1 → hy_F taX t (tp_add1 t1 v) := by
    intro t1 v hF
    unfold tp_add1
    split
    · exact (hF.up rfl).up rfl
    · exact hF
  exact h _ _ (h _ _ (h _ _ (h _ _ hy_F.rf)))
theorem wf_feed_s {t : hy_T} (h : tp_ok t) (a b c d e : Int) : tp_ok (wf_feed t a b c d e) ∧ hy_F taX t (wf_feed t a b c d e) :=
  ⟨tp_add_ok (tp_add_ok (tp_add_ok (tp_add_ok (tp_add_ok h a) b) c) d) e, ((((tp_add_F t a).tr' (tp_add_F _ b)).tr' (tp_add_F _ c)).tr' (tp_add_F _ d)).tr' (tp_add_F _ e)⟩
abbrev glX : Nat → Nat → Bool := fun r j => gdX r j || r == 9 || (r == 3 && j == 1)
theorem wf_land_s {t : hy_T} (h : tp_ok t) (n : Int) : tp_ok (wf_land t n).2 ∧ hy_F glX t (wf_land t n).2 ∧ (wf_land t n).2 3 1 = if 1 ≤ n ∧ n ≤ 160 ∧ n ≤ t 3 1 then 0 else t 3 1 := by
  obtain ⟨a1, a2⟩ := gd_rowsN_s h n 8
  have fF := tp_finish_F (gd_rowsN t n 8)
  have b1 := tp_finish_ok a1
  have b2 : hy_F glX t (tp_finish (gd_rowsN t n 8)) := (a2.tr' (gdX_tp fF)).w (fun r j q => (Bool.or_eq_false_iff.mp (Bool.or_eq_false_iff.mp q).1).1)
  have c : tp_ok (gd_read t n) ∧ hy_F glX t (gd_read t n) := by
    unfold gd_read
    split
    · refine ⟨⟨fun j hj => ?_, ?_, ?_, ?_⟩, fun r j q => ?_⟩
      · simp only [hy_cp]; rw [if_neg (by omega)]; exact b1.b j hj
      · simp only [hy_cp]; rw [if_neg (by omega)]; exact b1.l
      · simp only [hy_cp]; rw [if_neg (by omega)]; exact b1.e
      · simp only [hy_cp]; rw [if_neg (by omega)]; exact b1.p
      · have q9 : r ≠ 9 := by
          have := (Bool.or_eq_false_iff.mp (Bool.or_eq_false_iff.mp q).1).2
          simpa using this
        simp only [hy_cp]
        rw [if_neg (by omega)]
        exact b2 r j q
    · exact ⟨b1, b2⟩
  have d : tp_ok (hy_up (gd_read t n) 3 1 0) ∧ hy_F glX t (hy_up (gd_read t n) 3 1 0) := ⟨⟨c.1.b, hz_0260, c.1.e, c.1.p⟩, c.2.up rfl⟩
  unfold wf_land
  by_cases hq : 1 ≤ n ∧ n ≤ 160 ∧ n ≤ t 3 1
  · rw [if_pos hq, if_pos hq]
    split
    · exact ⟨d.1, d.2, rfl⟩
    · exact ⟨d.1, d.2, rfl⟩
  · rw [if_neg hq, if_neg hq]
    exact ⟨h, hy_F.rf, rfl⟩
theorem cK_tape {X : Nat → Nat → Bool} {t t1 : hy_T} (h : hy_F X t t1) (hx : frees X (fun r j => lawX r j || r == 21 || ckN r j || ckS 33 r j || ckS 37 r j || r == 56 || ckP r j)) (h1 : tp_ok t1) (k : cK t) : cK t1 :=
  ⟨⟨⟨h1, ck_lc h (fun r j q => hx r j (by simp only [q]; simp)) k.lc⟩, da_F h (fun j => hx 21 j (by simp)) k.da, ck_ln h (fun r j q => hx r j (by simp only [q]; simp)) k.ln⟩,
   ⟨ck_st h (fun r j q => hx r j (by simp only [q]; simp)) k.s1, ck_st h (fun r j q => hx r j (by simp only [q]; simp)) k.s2⟩, pa_stk_F h (fun j => hx 56 j (by simp)) k.sk, ck_pr h (fun r j q => hx r j (by simp only [q]; simp)) k.pr⟩
theorem cK_law {t : hy_T} (k : cK t) (n : Int) : cK (wf_law t n).2 ∧ hy_F lwcX t (wf_law t n).2 := by
  obtain ⟨F, a, b, c⟩ := wf_law_s k.tp k.da k.lc n
  exact ⟨⟨⟨⟨a, c⟩, b, ck_ln F (fun r j q => by revert q; simp only [ckX, ckT, lawX, ckN, ckS, ckP, eX, lX, pX, fX, snX, brX, wyX, paX, trX, asX, gdX, lnX, lkX, lpX, lwcX, tyX, jyX, mkX, dzX, cpX, taX, glX, Bool.or_eq_true, Bool.and_eq_true, beq_iff_eq, Bool.or_eq_false_iff, Bool.and_eq_false_iff, beq_eq_false_iff_ne]; omega) k.ln⟩, ⟨ck_st F (fun r j q => by revert q; simp only [ckX, ckT, lawX, ckN, ckS, ckP, eX, lX, pX, fX, snX, brX, wyX, paX, trX, asX, gdX, lnX, lkX, lpX, lwcX, tyX, jyX, mkX, dzX, cpX, taX, glX, Bool.or_eq_true, Bool.and_eq_true, beq_iff_eq, Bool.or_eq_false_iff, Bool.and_eq_false_iff, beq_eq_false_iff_ne]; omega) k.s1, ck_st F (fun r j q => by revert q; simp only [ckX, ckT, lawX, ckN, ckS, ckP, eX, lX, pX, fX, snX, brX, wyX, paX, trX, asX, gdX, lnX, lkX, lpX, lwcX, tyX, jyX, mkX, dzX, cpX, taX, glX, Bool.or_eq_true, Bool.and_eq_true, beq_iff_eq, Bool.or_eq_false_iff, Bool.and_eq_false_iff, beq_eq_false_iff_ne]; omega) k.s2⟩, pa_stk_F F (fun _ => rfl) k.sk, ck_pr F (fun r j q => by revert q; simp only [ckX, ckT, lawX, ckN, ckS, ckP, eX, lX, pX, fX, snX, brX, wyX, paX, trX, asX, gdX, lnX, lkX, lpX, lwcX, tyX, jyX, mkX, dzX, cpX, taX, glX, Bool.or_eq_true, Bool.and_eq_true, beq_iff_eq, Bool.or_eq_false_iff, Bool.and_eq_false_iff, beq_eq_false_iff_ne]; omega) k.pr⟩, F⟩
theorem wf_law_31 (t : hy_T) (n : Int) : (wf_law t n).2 3 1 = if 1 ≤ n ∧ n ≤ 240 ∧ n ≤ t 3 1 then 0 else t 3 1 := by
  unfold wf_law
  by_cases hq : 1 ≤ n ∧ n ≤ 240 ∧ n ≤ t 3 1
  · rw [if_pos hq, if_pos hq]
    split
    · rfl
    · rfl
  · rw [if_neg hq, if_neg hq]
theorem cK_st1 {X : Nat → Nat → Bool} {t t1 : hy_T} (h : hy_F X t t1) (hx : frees X (fun r j => ckT r j || lawX r j || r == 21 || ckN r j || ckS 37 r j || r == 56 || ckP r j)) (h1 : st_ok 33 t1) (k : cK t) : cK t1 :=
  ⟨⟨⟨ck_tp h (fun r j q => hx r j (by simp only [q]; simp)) k.tp, ck_lc h (fun r j q => hx r j (by simp only [q]; simp)) k.lc⟩, da_F h (fun j => hx 21 j (by simp)) k.da, ck_ln h (fun r j q => hx r j (by simp only [q]; simp)) k.ln⟩,
   ⟨h1, ck_st h (fun r j q => hx r j (by simp only [q]; simp)) k.s2⟩, pa_stk_F h (fun j => hx 56 j (by simp)) k.sk, ck_pr h (fun r j q => hx r j (by simp only [q]; simp)) k.pr⟩
theorem cK_st2 {X : Nat → Nat → Bool} {t t1 : hy_T} (h : hy_F X t t1) (hx : frees X (fun r j => ckT r j || lawX r j || r == 21 || ckN r j || ckS 33 r j || r == 56 || ckP r j)) (h1 : st_ok 37 t1) (k : cK t) : cK t1 :=
  ⟨⟨⟨ck_tp h (fun r j q => hx r j (by simp only [q]; simp)) k.tp, ck_lc h (fun r j q => hx r j (by simp only [q]; simp)) k.lc⟩, da_F h (fun j => hx 21 j (by simp)) k.da, ck_ln h (fun r j q => hx r j (by simp only [q]; simp)) k.ln⟩,
   ⟨ck_st h (fun r j q => hx r j (by simp only [q]; simp)) k.s1, h1⟩, pa_stk_F h (fun j => hx 56 j (by simp)) k.sk, ck_pr h (fun r j q => hx r j (by simp only [q]; simp)) k.pr⟩
/-- what every call of the class does -/
abbrev cQ (X : Nat → Nat → Bool) (t : hy_T) : Option Int → hy_T → Prop := fun r t' => (∃ x : Int, r = some x) ∧ cK t' ∧ hy_F X t t'
section KO
variable {sc : List Int32} {t : hy_T}
theorem k1 {a b c : Int} (k : cK t) : hy_Ct sc hm_W_have 3 [.inr (some 2), .inl a, .inl b, .inl c] t (cQ (fun r _ => r == 34) t) := c_W_have.mono (fun r t' q => by
  obtain ⟨rfl, rfl⟩ := q
  have F : hy_F (fun r _ => r == 34) t (if wf_have t a b c = true then sp_setH 33 t a b c else t) := by
    split
    · unfold sp_setH
      split
      · exact hy_F.rf.up rfl
      · exact hy_F.rf
    · exact hy_F.rf
  exact ⟨⟨_, rfl⟩, cK_F F (fun r j q => by revert q; simp only [ckX, ckT, lawX, ckN, ckS, ckP, eX, lX, pX, fX, snX, brX, wyX, paX, trX, asX, gdX, lnX, lkX, lpX, lwcX, tyX, jyX, mkX, dzX, cpX, taX, glX, Bool.or_eq_true, Bool.and_eq_true, beq_iff_eq, Bool.or_eq_false_iff, Bool.and_eq_false_iff, beq_eq_false_iff_ne]; omega) k, F⟩)
theorem k2 {a b c : Int} (k : cK t) : hy_Ct sc hm_W_owner 2 [.inr (some 2), .inl a, .inl b, .inl c] t (cQ (fun r _ => r == 35) t) := c_W_owner.mono (fun r t' q => by
  obtain ⟨rfl, rfl⟩ := q
  have F : hy_F (fun r _ => r == 35) t (if wf_owner a b c = true then hy_up t 35 (8 * b + a).toNat c else t) := by
    split
    · exact hy_F.rf.up rfl
    · exact hy_F.rf
  exact ⟨⟨_, rfl⟩, cK_F F (fun r j q => by revert q; simp only [ckX, ckT, lawX, ckN, ckS, ckP, eX, lX, pX, fX, snX, brX, wyX, paX, trX, asX, gdX, lnX, lkX, lpX, lwcX, tyX, jyX, mkX, dzX, cpX, taX, glX, Bool.or_eq_true, Bool.and_eq_true, beq_iff_eq, Bool.or_eq_false_iff, Bool.and_eq_false_iff, beq_eq_false_iff_ne]; omega) k, F⟩)
theorem cK_feed {a b c d e : Int} (k : cK t) : cK (if t 3 1 ≤ 240 then wf_feed t a b c d e else t) ∧ hy_F taX t (if t 3 1 ≤ 240 then wf_feed t a b c d e else t) := by
  obtain ⟨h1, F⟩ := wf_feed_s k.tp a b c d e
  split
  · exact ⟨cK_tape F (fun r j q => by revert q; simp only [ckX, ckT, lawX, ckN, ckS, ckP, eX, lX, pX, fX, snX, brX, wyX, paX, trX, asX, gdX, lnX, lkX, lpX, lwcX, tyX, jyX, mkX, dzX, cpX, taX, glX, Bool.or_eq_true, Bool.and_eq_true, beq_iff_eq, Bool.or_eq_false_iff, Bool.and_eq_false_iff, beq_eq_false_iff_ne]; omega) h1 k, F⟩
  · exact ⟨k, hy_F.rf⟩
theorem k3 {a b c d e : Int} (k : cK t) : hy_Ct sc hm_W_feed 1 [.inr (some 2), .inl a, .inl b, .inl c, .inl d, .inl e] t (fun r t' => cQ taX t r t' ∧ t' = if t 3 1 ≤ 240 then wf_feed t a b c d e else t) := (c_W_feed k.tp.l).mono (fun r t' q => by
  obtain ⟨rfl, rfl⟩ := q
  obtain ⟨k1, F⟩ := cK_feed (a := a) (b := b) (c := c) (d := d) (e := e) k
  exact ⟨⟨⟨_, rfl⟩, k1, F⟩, rfl⟩)
theorem k4 {n : Int} (k : cK t) : hy_Ct sc hm_W_law 63 [.inr (some 2), .inl n] t (fun r t' => cQ lwcX t r t' ∧ r = some (wf_law t n).1 ∧ t' = (wf_law t n).2) := (c_W_law k.tp).mono (fun r t' q => by
  obtain ⟨rfl, rfl⟩ := q
  obtain ⟨k1, F⟩ := cK_law k n
  exact ⟨⟨⟨_, rfl⟩, k1, F⟩, rfl, rfl⟩)
theorem k5 {n : Int} (k : cK t) : hy_Ct sc hm_W_land 5 [.inr (some 2), .inl n] t (fun r t' => cQ glX t r t' ∧ r = some (wf_land t n).1 ∧ t' = (wf_land t n).2) := (c_W_land k.tp).mono (fun r t' q => by
  obtain ⟨rfl, rfl⟩ := q
  obtain ⟨h1, F, -⟩ := wf_land_s k.tp n
  exact ⟨⟨⟨_, rfl⟩, cK_tape F (fun r j q => by revert q; simp only [ckX, ckT, lawX, ckN, ckS, ckP, eX, lX, pX, fX, snX, brX, wyX, paX, trX, asX, gdX, lnX, lkX, lpX, lwcX, tyX, jyX, mkX, dzX, cpX, taX, glX, Bool.or_eq_true, Bool.and_eq_true, beq_iff_eq, Bool.or_eq_false_iff, Bool.and_eq_false_iff, beq_eq_false_iff_ne]; omega) h1 k, F⟩, rfl, rfl⟩)
theorem k6 {n : Int} (k : cK t) : hy_Ct sc hm_W_treaties 5 [.inr (some 2), .inl n] t (fun r t' => cQ (tyX 33) t r t' ∧ t' 3 1 = if 1 ≤ n ∧ n ≤ 120 ∧ n ≤ t 3 1 then 0 else t 3 1) := (c_W_treaties k.tp k.ln k.s1).mono (fun r t' q => by
  obtain ⟨x, F, s1, ln, tp, z⟩ := q
  exact ⟨⟨x, ⟨⟨⟨tp, ck_lc F (fun r j q => by revert q; simp only [ckX, ckT, lawX, ckN, ckS, ckP, eX, lX, pX, fX, snX, brX, wyX, paX, trX, asX, gdX, lnX, lkX, lpX, lwcX, tyX, jyX, mkX, dzX, cpX, taX, glX, Bool.or_eq_true, Bool.and_eq_true, beq_iff_eq, Bool.or_eq_false_iff, Bool.and_eq_false_iff, beq_eq_false_iff_ne]; omega) k.lc⟩, da_F F (fun _ => rfl) k.da, ln⟩, ⟨s1, ck_st F (fun r j q => by revert q; simp only [ckX, ckT, lawX, ckN, ckS, ckP, eX, lX, pX, fX, snX, brX, wyX, paX, trX, asX, gdX, lnX, lkX, lpX, lwcX, tyX, jyX, mkX, dzX, cpX, taX, glX, Bool.or_eq_true, Bool.and_eq_true, beq_iff_eq, Bool.or_eq_false_iff, Bool.and_eq_false_iff, beq_eq_false_iff_ne]; omega) k.s2⟩, pa_stk_F F (fun _ => rfl) k.sk, ck_pr F (fun r j q => by revert q; simp only [ckX, ckT, lawX, ckN, ckS, ckP, eX, lX, pX, fX, snX, brX, wyX, paX, trX, asX, gdX, lnX, lkX, lpX, lwcX, tyX, jyX, mkX, dzX, cpX, taX, glX, Bool.or_eq_true, Bool.and_eq_true, beq_iff_eq, Bool.or_eq_false_iff, Bool.and_eq_false_iff, beq_eq_false_iff_ne]; omega) k.pr⟩, F⟩, z⟩)
theorem k7 {n : Int} (k : cK t) : hy_Ct sc hm_W_judged 5 [.inr (some 2), .inl n] t (fun r t' => cQ jyX t r t' ∧ t' 3 1 = if 1 ≤ n ∧ n ≤ 120 ∧ n ≤ t 3 1 then 0 else t 3 1) := (c_W_judged k.tp k.ln k.s1).mono (fun r t' q => by
  obtain ⟨x, F, ln, tp, z⟩ := q
  exact ⟨⟨x, ⟨⟨⟨tp, ck_lc F (fun r j q => by revert q; simp only [ckX, ckT, lawX, ckN, ckS, ckP, eX, lX, pX, fX, snX, brX, wyX, paX, trX, asX, gdX, lnX, lkX, lpX, lwcX, tyX, jyX, mkX, dzX, cpX, taX, glX, Bool.or_eq_true, Bool.and_eq_true, beq_iff_eq, Bool.or_eq_false_iff, Bool.and_eq_false_iff, beq_eq_false_iff_ne]; omega) k.lc⟩, da_F F (fun _ => rfl) k.da, ln⟩, ⟨ck_st F (fun r j q => by revert q; simp only [ckX, ckT, lawX, ckN, ckS, ckP, eX, lX, pX, fX, snX, brX, wyX, paX, trX, asX, gdX, lnX, lkX, lpX, lwcX, tyX, jyX, mkX, dzX, cpX, taX, glX, Bool.or_eq_true, Bool.and_eq_true, beq_iff_eq, Bool.or_eq_false_iff, Bool.and_eq_false_iff, beq_eq_false_iff_ne]; omega) k.s1, ck_st F (fun r j q => by revert q; simp only [ckX, ckT, lawX, ckN, ckS, ckP, eX, lX, pX, fX, snX, brX, wyX, paX, trX, asX, gdX, lnX, lkX, lpX, lwcX, tyX, jyX, mkX, dzX, cpX, taX, glX, Bool.or_eq_true, Bool.and_eq_true, beq_iff_eq, Bool.or_eq_false_iff, Bool.and_eq_false_iff, beq_eq_false_iff_ne]; omega) k.s2⟩, pa_stk_F F (fun _ => rfl) k.sk, ck_pr F (fun r j q => by revert q; simp only [ckX, ckT, lawX, ckN, ckS, ckP, eX, lX, pX, fX, snX, brX, wyX, paX, trX, asX, gdX, lnX, lkX, lpX, lwcX, tyX, jyX, mkX, dzX, cpX, taX, glX, Bool.or_eq_true, Bool.and_eq_true, beq_iff_eq, Bool.or_eq_false_iff, Bool.and_eq_false_iff, beq_eq_false_iff_ne]; omega) k.pr⟩, F⟩, z⟩)
abbrev dgX : Nat → Nat → Bool := fun r j => dzX 33 r j || eX r j
theorem k8 {n : Int} (k : cK t) : hy_Ct sc hm_W_days 6 [.inr (some 2), .inl n] t (cQ dgX t) := (c_W_days k.s1 k.lc).mono (fun r t' q => by
  by_cases hq : 1 ≤ n ∧ n ≤ 99
  · rw [if_pos hq] at q
    obtain ⟨rfl, F⟩ := q
    obtain ⟨s1, F1, -⟩ := sp_days_s 33 k.s1 n
    have G : hy_F dgX t t' := (F1.w (fun r j q => (Bool.or_eq_false_iff.mp q).1)).tr' (F.w (fun r j q => (Bool.or_eq_false_iff.mp q).2))
    exact ⟨⟨_, rfl⟩, cK_st1 G (fun r j q => by revert q; simp only [dgX, ckT, lawX, ckN, ckS, ckP, eX, dzX, Bool.or_eq_true, Bool.and_eq_true, beq_iff_eq, Bool.or_eq_false_iff, Bool.and_eq_false_iff, beq_eq_false_iff_ne]; omega) (st_ok_E (by decide) F s1) k, G⟩
  · rw [if_neg hq] at q
    obtain ⟨rfl, rfl⟩ := q
    exact ⟨⟨_, rfl⟩, k, hy_F.rf⟩)
theorem k9 {n w : Int} (k : cK t) : hy_Ct sc hm_W_tried 6 [.inr (some 2), .inl n, .inl w] t (cQ trX t) := (c_W_tried k.s1 k.lc).mono (fun r t' q => ⟨⟨_, q.1⟩, cK_F q.2 (fun r j q => by revert q; simp only [ckX, ckT, lawX, ckN, ckS, ckP, eX, lX, pX, fX, snX, brX, wyX, paX, trX, asX, gdX, lnX, lkX, lpX, lwcX, tyX, jyX, mkX, dzX, cpX, taX, glX, Bool.or_eq_true, Bool.and_eq_true, beq_iff_eq, Bool.or_eq_false_iff, Bool.and_eq_false_iff, beq_eq_false_iff_ne]; omega) k, q.2⟩)
theorem k10 {n w : Int} (k : cK t) : hy_Ct sc hm_W_treatyIs 2 [.inr (some 2), .inl n, .inl w] t (cQ (fun _ _ => false) t) := (c_W_treatyIs k.s1.c).mono (fun r t' q => by
  obtain ⟨rfl, rfl⟩ := q
  exact ⟨⟨_, rfl⟩, k, hy_F.rf⟩)
theorem k11 {a b c : Int} (k : cK t) : hy_Ct sc hm_W_sees 5 [.inr (some 2), .inl a, .inl b, .inl c] t (cQ eX t) := (c_W_sees k.lc).mono (fun r t' q => ⟨⟨_, q.1⟩, cK_F q.2 (fun r j q => by revert q; simp only [ckX, ckT, lawX, ckN, ckS, ckP, eX, lX, pX, fX, snX, brX, wyX, paX, trX, asX, gdX, lnX, lkX, lpX, lwcX, tyX, jyX, mkX, dzX, cpX, taX, glX, Bool.or_eq_true, Bool.and_eq_true, beq_iff_eq, Bool.or_eq_false_iff, Bool.and_eq_false_iff, beq_eq_false_iff_ne]; omega) k, q.2⟩)
theorem k12 {a b c : Int} (k : cK t) : hy_Ct sc hm_W_appears 5 [.inr (some 2), .inl a, .inl b, .inl c] t (cQ lX t) := (c_W_appears k.lc).mono (fun r t' q => ⟨⟨_, q.1⟩, cK_F q.2 (fun r j q => by revert q; simp only [ckX, ckT, lawX, ckN, ckS, ckP, eX, lX, pX, fX, snX, brX, wyX, paX, trX, asX, gdX, lnX, lkX, lpX, lwcX, tyX, jyX, mkX, dzX, cpX, taX, glX, Bool.or_eq_true, Bool.and_eq_true, beq_iff_eq, Bool.or_eq_false_iff, Bool.and_eq_false_iff, beq_eq_false_iff_ne]; omega) k, q.2⟩)
theorem k13 {a b c d : Int} (k : cK t) : hy_Ct sc hm_W_child 6 [.inr (some 2), .inl a, .inl b, .inl c, .inl d] t (cQ eX t) := (c_W_child k.lc).mono (fun r t' q => ⟨⟨_, q.1⟩, cK_F q.2 (fun r j q => by revert q; simp only [ckX, ckT, lawX, ckN, ckS, ckP, eX, lX, pX, fX, snX, brX, wyX, paX, trX, asX, gdX, lnX, lkX, lpX, lwcX, tyX, jyX, mkX, dzX, cpX, taX, glX, Bool.or_eq_true, Bool.and_eq_true, beq_iff_eq, Bool.or_eq_false_iff, Bool.and_eq_false_iff, beq_eq_false_iff_ne]; omega) k, q.2⟩)
theorem k14 {a b c d e : Int} (k : cK t) : hy_Ct sc hm_W_unseen 5 [.inr (some 2), .inl a, .inl b, .inl c, .inl d, .inl e] t (cQ lX t) := (c_W_unseen k.lc).mono (fun r t' q => ⟨⟨_, q.1⟩, cK_F q.2 (fun r j q => by revert q; simp only [ckX, ckT, lawX, ckN, ckS, ckP, eX, lX, pX, fX, snX, brX, wyX, paX, trX, asX, gdX, lnX, lkX, lpX, lwcX, tyX, jyX, mkX, dzX, cpX, taX, glX, Bool.or_eq_true, Bool.and_eq_true, beq_iff_eq, Bool.or_eq_false_iff, Bool.and_eq_false_iff, beq_eq_false_iff_ne]; omega) k, q.2⟩)
theorem k15 {a b c d e f : Int} (k : cK t) : hy_Ct sc hm_W_way 5 [.inr (some 2), .inl a, .inl b, .inl c, .inl d, .inl e, .inl f] t (cQ wyX t) := (c_W_way k.lc).mono (fun r t' q => ⟨q.1, cK_F q.2 (fun r j q => by revert q; simp only [ckX, ckT, lawX, ckN, ckS, ckP, eX, lX, pX, fX, snX, brX, wyX, paX, trX, asX, gdX, lnX, lkX, lpX, lwcX, tyX, jyX, mkX, dzX, cpX, taX, glX, Bool.or_eq_true, Bool.and_eq_true, beq_iff_eq, Bool.or_eq_false_iff, Bool.and_eq_false_iff, beq_eq_false_iff_ne]; omega) k, q.2⟩)
theorem k16 {a b : Int} (k : cK t) : hy_Ct sc hm_W_worth 6 [.inr (some 2), .inl a, .inl b] t (cQ pX t) := (c_W_worth k.lc).mono (fun r t' q => ⟨⟨_, q.1⟩, cK_F q.2 (fun r j q => by revert q; simp only [ckX, ckT, lawX, ckN, ckS, ckP, eX, lX, pX, fX, snX, brX, wyX, paX, trX, asX, gdX, lnX, lkX, lpX, lwcX, tyX, jyX, mkX, dzX, cpX, taX, glX, Bool.or_eq_true, Bool.and_eq_true, beq_iff_eq, Bool.or_eq_false_iff, Bool.and_eq_false_iff, beq_eq_false_iff_ne]; omega) k, q.2⟩)
theorem k17 {a b c : Int} (k : cK t) : hy_Ct sc hm_W_gain 6 [.inr (some 2), .inl a, .inl b, .inl c] t (cQ pX t) := (c_W_gain k.lc).mono (fun r t' q => ⟨q.1, cK_F q.2 (fun r j q => by revert q; simp only [ckX, ckT, lawX, ckN, ckS, ckP, eX, lX, pX, fX, snX, brX, wyX, paX, trX, asX, gdX, lnX, lkX, lpX, lwcX, tyX, jyX, mkX, dzX, cpX, taX, glX, Bool.or_eq_true, Bool.and_eq_true, beq_iff_eq, Bool.or_eq_false_iff, Bool.and_eq_false_iff, beq_eq_false_iff_ne]; omega) k, q.2⟩)
theorem k18 {a b c d e : Int} (k : cK t) : hy_Ct sc hm_W_power 6 [.inr (some 2), .inl a, .inl b, .inl c, .inl d, .inl e] t (cQ pX t) := (c_W_power k.lc).mono (fun r t' q => ⟨q.1, cK_F q.2 (fun r j q => by revert q; simp only [ckX, ckT, lawX, ckN, ckS, ckP, eX, lX, pX, fX, snX, brX, wyX, paX, trX, asX, gdX, lnX, lkX, lpX, lwcX, tyX, jyX, mkX, dzX, cpX, taX, glX, Bool.or_eq_true, Bool.and_eq_true, beq_iff_eq, Bool.or_eq_false_iff, Bool.and_eq_false_iff, beq_eq_false_iff_ne]; omega) k, q.2⟩)
theorem k19 {a b c d e : Int} (k : cK t) : hy_Ct sc hm_W_signals 6 [.inr (some 2), .inl a, .inl b, .inl c, .inl d, .inl e] t (cQ snX t) := (c_W_signals k.lc).mono (fun r t' q => ⟨⟨_, q.1⟩, cK_F q.2 (fun r j q => by revert q; simp only [ckX, ckT, lawX, ckN, ckS, ckP, eX, lX, pX, fX, snX, brX, wyX, paX, trX, asX, gdX, lnX, lkX, lpX, lwcX, tyX, jyX, mkX, dzX, cpX, taX, glX, Bool.or_eq_true, Bool.and_eq_true, beq_iff_eq, Bool.or_eq_false_iff, Bool.and_eq_false_iff, beq_eq_false_iff_ne]; omega) k, q.2⟩)
abbrev t1X : Nat → Nat → Bool := fun r j => r == 3 && j == 1
theorem tp_ok_0 {t : hy_T} (h : tp_ok t) : tp_ok (hy_up t 3 1 0) := ⟨h.b, hz_0260, h.e, h.p⟩
theorem k20 {m w : Int} (k : cK t) : hy_Ct sc hm_W_parted 4 [.inr (some 2), .inl m, .inl w] t (fun r t' => cQ t1X t r t' ∧ t' = if wf_partok t m w then hy_up t 3 1 0 else t) := (c_W_parted k.tp).mono (fun r t' q => by
  obtain ⟨x, rfl⟩ := q
  have F : hy_F t1X t (if wf_partok t m w then hy_up t 3 1 0 else t) := by
    split
    · exact hy_F.rf.up rfl
    · exact hy_F.rf
  have h1 : tp_ok (if wf_partok t m w then hy_up t 3 1 0 else t) := by
    split
    · exact tp_ok_0 k.tp
    · exact k.tp
  exact ⟨⟨x, cK_tape F (fun r j q => by revert q; simp only [ckX, ckT, lawX, ckN, ckS, ckP, eX, lX, pX, fX, snX, brX, wyX, paX, trX, asX, gdX, lnX, lkX, lpX, lwcX, tyX, jyX, mkX, dzX, cpX, taX, glX, t1X, Bool.or_eq_true, Bool.and_eq_true, beq_iff_eq, Bool.or_eq_false_iff, Bool.and_eq_false_iff, beq_eq_false_iff_ne]; omega) h1 k, F⟩, rfl⟩)
theorem k21 {a b c d : Int} (k : cK t) : hy_Ct sc hm_W_battle 6 [.inr (some 2), .inl a, .inl b, .inl c, .inl d] t (cQ fX t) := (c_W_battle k.lc).mono (fun r t' q => ⟨q.1, cK_F q.2 (fun r j q => by revert q; simp only [ckX, ckT, lawX, ckN, ckS, ckP, eX, lX, pX, fX, snX, brX, wyX, paX, trX, asX, gdX, lnX, lkX, lpX, lwcX, tyX, jyX, mkX, dzX, cpX, taX, glX, t1X, Bool.or_eq_true, Bool.and_eq_true, beq_iff_eq, Bool.or_eq_false_iff, Bool.and_eq_false_iff, beq_eq_false_iff_ne]; omega) k, q.2⟩)
abbrev spX : Nat → Nat → Bool := fun r j => t1X r j || brX r j
theorem k22 {n w : Int} (k : cK t) : hy_Ct sc hm_W_spies 6 [.inr (some 2), .inl n, .inl w] t (fun r t' => cQ spX t r t' ∧ t' 3 1 = if wf_spyok t n w then 0 else t 3 1) := (c_W_spies k.tp k.lc).mono (fun r t' q => by
  obtain ⟨x, F⟩ := q
  have F0 : hy_F t1X t (if wf_spyok t n w then hy_up t 3 1 0 else t) := by
    split
    · exact hy_F.rf.up rfl
    · exact hy_F.rf
  have h1 : tp_ok (if wf_spyok t n w then hy_up t 3 1 0 else t) := by
    split
    · exact tp_ok_0 k.tp
    · exact k.tp
  have z : (if wf_spyok t n w then hy_up t 3 1 0 else t) 3 1 = if wf_spyok t n w then 0 else t 3 1 := by
    split
    · rfl
    · rfl
  have G : hy_F spX t t' := (F0.w (fun r j q => (Bool.or_eq_false_iff.mp q).1)).tr' (F.w (fun r j q => (Bool.or_eq_false_iff.mp q).2))
  exact ⟨⟨x, cK_tape G (fun r j q => by revert q; simp only [ckX, ckT, lawX, ckN, ckS, ckP, eX, lX, pX, fX, snX, brX, wyX, paX, trX, asX, gdX, lnX, lkX, lpX, lwcX, tyX, jyX, mkX, dzX, cpX, taX, glX, t1X, spX, Bool.or_eq_true, Bool.and_eq_true, beq_iff_eq, Bool.or_eq_false_iff, Bool.and_eq_false_iff, beq_eq_false_iff_ne]; omega) (tp_ok_F F (fun _ => rfl) (fun _ => rfl) h1) k, G⟩, (F 3 1 rfl).trans z⟩)
theorem k23 {a b : Int} (k : cK t) : hy_Ct sc hm_W_painting 5 [.inr (some 2), .inl a, .inl b] t (cQ eX t) := (c_W_painting k.lc).mono (fun r t' q => ⟨⟨_, q.1⟩, cK_F q.2 (fun r j q => by revert q; simp only [ckX, ckT, lawX, ckN, ckS, ckP, eX, lX, pX, fX, snX, brX, wyX, paX, trX, asX, gdX, lnX, lkX, lpX, lwcX, tyX, jyX, mkX, dzX, cpX, taX, glX, t1X, spX, Bool.or_eq_true, Bool.and_eq_true, beq_iff_eq, Bool.or_eq_false_iff, Bool.and_eq_false_iff, beq_eq_false_iff_ne]; omega) k, q.2⟩)
theorem k24 {a b c : Int} (k : cK t) : hy_Ct sc hm_W_ash 5 [.inr (some 2), .inl a, .inl b, .inl c] t (cQ asX t) := (c_W_ash k.lc k.sk).mono (fun r t' q => by
  by_cases hq : ((0 ≤ a ∧ a < 6) ∧ 0 ≤ b ∧ b < 4) ∧ 0 ≤ c ∧ c < 3
  · rw [if_pos hq] at q
    obtain ⟨t1, F1, -, e, hr⟩ := q
    have main : ∀ u : hy_T, u = pa_seaN (wf_ashN t1 64) 64 → pa_stk u ∧ hy_F asX t u := fun u hu => by
      have F2 := wf_ashN_F t1 64
      have s2 : pa_stk (wf_ashN t1 64) := pa_stk_F F2 (fun _ => rfl) (pa_stk_F F1 (fun _ => rfl) k.sk)
      obtain ⟨s3, -, F3⟩ := pa_sea_s s2 64
      rw [← hu] at s3 F3
      exact ⟨s3, ((F1.w (fun r j q => by revert q; simp only [lX, asX, Bool.or_eq_false_iff, beq_eq_false_iff_ne]; omega)).tr' (F2.w (fun r j q => by revert q; simp only [asX, Bool.or_eq_false_iff, beq_eq_false_iff_ne]; omega))).tr' (F3.w (fun r j q => by revert q; simp only [paX, asX, Bool.or_eq_false_iff, Bool.and_eq_false_iff, beq_eq_false_iff_ne]; omega))⟩
    obtain ⟨s3, G⟩ := main t' e
    exact ⟨⟨_, hr⟩, ⟨⟨⟨ck_tp G (fun r j q => by revert q; simp only [ckX, ckT, lawX, ckN, ckS, ckP, eX, lX, pX, fX, snX, brX, wyX, paX, trX, asX, gdX, lnX, lkX, lpX, lwcX, tyX, jyX, mkX, dzX, cpX, taX, glX, t1X, spX, Bool.or_eq_true, Bool.and_eq_true, beq_iff_eq, Bool.or_eq_false_iff, Bool.and_eq_false_iff, beq_eq_false_iff_ne]; omega) k.tp, ck_lc G (fun r j q => by revert q; simp only [ckX, ckT, lawX, ckN, ckS, ckP, eX, lX, pX, fX, snX, brX, wyX, paX, trX, asX, gdX, lnX, lkX, lpX, lwcX, tyX, jyX, mkX, dzX, cpX, taX, glX, t1X, spX, Bool.or_eq_true, Bool.and_eq_true, beq_iff_eq, Bool.or_eq_false_iff, Bool.and_eq_false_iff, beq_eq_false_iff_ne]; omega) k.lc⟩, da_F G (fun _ => rfl) k.da, ck_ln G (fun r j q => by revert q; simp only [ckX, ckT, lawX, ckN, ckS, ckP, eX, lX, pX, fX, snX, brX, wyX, paX, trX, asX, gdX, lnX, lkX, lpX, lwcX, tyX, jyX, mkX, dzX, cpX, taX, glX, t1X, spX, Bool.or_eq_true, Bool.and_eq_true, beq_iff_eq, Bool.or_eq_false_iff, Bool.and_eq_false_iff, beq_eq_false_iff_ne]; omega) k.ln⟩, ⟨ck_st G (fun r j q => by revert q; simp only [ckX, ckT, lawX, ckN, ckS, ckP, eX, lX, pX, fX, snX, brX, wyX, paX, trX, asX, gdX, lnX, lkX, lpX, lwcX, tyX, jyX, mkX, dzX, cpX, taX, glX, t1X, spX, Bool.or_eq_true, Bool.and_eq_true, beq_iff_eq, Bool.or_eq_false_iff, Bool.and_eq_false_iff, beq_eq_false_iff_ne]; omega) k.s1, ck_st G (fun r j q => by revert q; simp only [ckX, ckT, lawX, ckN, ckS, ckP, eX, lX, pX, fX, snX, brX, wyX, paX, trX, asX, gdX, lnX, lkX, lpX, lwcX, tyX, jyX, mkX, dzX, cpX, taX, glX, t1X, spX, Bool.or_eq_true, Bool.and_eq_true, beq_iff_eq, Bool.or_eq_false_iff, Bool.and_eq_false_iff, beq_eq_false_iff_ne]; omega) k.s2⟩, s3, ck_pr G (fun r j q => by revert q; simp only [ckX, ckT, lawX, ckN, ckS, ckP, eX, lX, pX, fX, snX, brX, wyX, paX, trX, asX, gdX, lnX, lkX, lpX, lwcX, tyX, jyX, mkX, dzX, cpX, taX, glX, t1X, spX, Bool.or_eq_true, Bool.and_eq_true, beq_iff_eq, Bool.or_eq_false_iff, Bool.and_eq_false_iff, beq_eq_false_iff_ne]; omega) k.pr⟩, G⟩
  · rw [if_neg hq] at q
    obtain ⟨rfl, rfl⟩ := q
    exact ⟨⟨_, rfl⟩, k, hy_F.rf⟩)
theorem k25 {a : Int} (k : cK t) : hy_Ct sc hm_W_seed 1 [.inr (some 2), .inl a] t (cQ (fun r j => r == 33 && j == 5) t) := c_W_seed.mono (fun r t' q => by
  obtain ⟨rfl, rfl⟩ := q
  have F : hy_F (fun r j => r == 33 && j == 5) t (if wf_seed a = true then hy_up t 33 5 a else t) := by
    split
    · exact hy_F.rf.up rfl
    · exact hy_F.rf
  have s1 : st_ok 33 (if wf_seed a = true then hy_up t 33 5 a else t) := by
    split
    · next h => exact ⟨k.s1.c, k.s1.d, of_decide_eq_true h, k.s1.t⟩
    · exact k.s1
  exact ⟨⟨_, rfl⟩, cK_st1 F (fun r j q => by revert q; simp only [ckX, ckT, lawX, ckN, ckS, ckP, eX, lX, pX, fX, snX, brX, wyX, paX, trX, asX, gdX, lnX, lkX, lpX, lwcX, tyX, jyX, mkX, dzX, cpX, taX, glX, t1X, spX, Bool.or_eq_true, Bool.and_eq_true, beq_iff_eq, Bool.or_eq_false_iff, Bool.and_eq_false_iff, beq_eq_false_iff_ne]; omega) s1 k, F⟩)
abbrev kpX : Nat → Nat → Bool := fun r j => cpX 37 r j || (r == 2 && j == 9)
theorem k26 (k : cK t) : hy_Ct sc hm_W_keep 1 [.inr (some 2)] t (fun r t' => cQ kpX t r t' ∧ r = some (t 33 3) ∧ t' = hy_up (sp_scopy t 33 37) 2 9 1) := c_W_keep.mono (fun r t' q => by
  obtain ⟨rfl, rfl⟩ := q
  have F0 := sp_scopy_F t 33 37
  have F : hy_F kpX t (hy_up (sp_scopy t 33 37) 2 9 1) := (F0.w (fun r j q => (Bool.or_eq_false_iff.mp q).1)).up rfl
  have s := sp_scopy_3337 k.s1
  have s2 : st_ok 37 (hy_up (sp_scopy t 33 37) 2 9 1) := ⟨s.c, s.d, s.w, s.t⟩
  exact ⟨⟨⟨_, rfl⟩, cK_st2 F (fun r j q => by revert q; simp only [kpX, cpX, ckT, lawX, ckN, ckS, ckP, Bool.or_eq_true, Bool.and_eq_true, beq_iff_eq, Bool.or_eq_false_iff, Bool.and_eq_false_iff, beq_eq_false_iff_ne]; omega) s2 k, F⟩, rfl, rfl⟩)
theorem k27 (k : cK t) : hy_Ct sc hm_W_undo 1 [.inr (some 2)] t (fun r t' => cQ (cpX 33) t r t' ∧ r = some (if t 2 9 = 0 then 0 else 1) ∧ t' = if t 2 9 = 0 then t else sp_scopy t 37 33) := c_W_undo.mono (fun r t' q => by
  obtain ⟨rfl, rfl⟩ := q
  have F0 := sp_scopy_F t 37 33
  have s := sp_scopy_3733 k.s2
  refine ⟨⟨⟨_, rfl⟩, ?_⟩, rfl, rfl⟩
  split
  · exact ⟨k, hy_F.rf⟩
  · exact ⟨cK_st1 F0 (fun r j q => by revert q; simp only [ckX, ckT, lawX, ckN, ckS, ckP, eX, lX, pX, fX, snX, brX, wyX, paX, trX, asX, gdX, lnX, lkX, lpX, lwcX, tyX, jyX, mkX, dzX, cpX, taX, glX, t1X, spX, Bool.or_eq_true, Bool.and_eq_true, beq_iff_eq, Bool.or_eq_false_iff, Bool.and_eq_false_iff, beq_eq_false_iff_ne]; omega) s k, F0⟩)
theorem k28 {n : Int} (k : cK t) : hy_Ct sc hm_W_check 2 [.inr (some 2), .inl n] t (fun r t' => cQ t1X t r t' ∧ r = some (if (0 ≤ n ∧ n ≤ 8) ∧ 4 * n ≤ t 3 1 then wf_check t n else -2) ∧ t' = if (0 ≤ n ∧ n ≤ 8) ∧ 4 * n ≤ t 3 1 then hy_up t 3 1 0 else t) := (c_W_check k.tp.l).mono (fun r t' q => by
  obtain ⟨rfl, rfl⟩ := q
  refine ⟨⟨⟨_, rfl⟩, ?_⟩, rfl, rfl⟩
  split
  · have F : hy_F t1X t (hy_up t 3 1 0) := hy_F.rf.up rfl
    exact ⟨cK_tape F (fun r j q => by revert q; simp only [ckX, ckT, lawX, ckN, ckS, ckP, eX, lX, pX, fX, snX, brX, wyX, paX, trX, asX, gdX, lnX, lkX, lpX, lwcX, tyX, jyX, mkX, dzX, cpX, taX, glX, t1X, spX, Bool.or_eq_true, Bool.and_eq_true, beq_iff_eq, Bool.or_eq_false_iff, Bool.and_eq_false_iff, beq_eq_false_iff_ne]; omega) (tp_ok_0 k.tp) k, F⟩
  · exact ⟨k, hy_F.rf⟩)
theorem k29 {w : Int} (hR : hy_R w) (k : cK t) : hy_Ct sc hm_W_count 3 [.inr (some 2), .inl w] t (fun r t' => cQ (fun _ _ => false) t r t' ∧ r = some (wf_count t w) ∧ t' = t) := (c_W_count hR (fun j hj => (k.pr j hj).1) (fun j hj => (k.pr j hj).2)).mono (fun r t' q => by
  obtain ⟨rfl, rfl⟩ := q
  exact ⟨⟨⟨_, rfl⟩, k, hy_F.rf⟩, rfl, rfl⟩)
end KO
