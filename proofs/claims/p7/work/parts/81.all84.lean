/-! the class: what stays true behind every call -/
abbrev pr_ok (t : hy_T) : Prop := ∀ j : Nat, j < 12 → (-1 ≤ t 6 j ∧ t 6 j < 12) ∧ -1 ≤ t 7 j ∧ t 7 j < 12
def cK (t : hy_T) : Prop := ((tp_ok t ∧ lc_ok t) ∧ da_ok t ∧ ln_ok t) ∧ (st_ok 33 t ∧ st_ok 37 t) ∧ pa_stk t ∧ pr_ok t
theorem cK.tp {t : hy_T} (h : cK t) : tp_ok t := h.1.1.1
theorem cK.lc {t : hy_T} (h : cK t) : lc_ok t := h.1.1.2
theorem cK.da {t : hy_T} (h : cK t) : da_ok t := h.1.2.1
theorem cK.ln {t : hy_T} (h : cK t) : ln_ok t := h.1.2.2
theorem cK.s1 {t : hy_T} (h : cK t) : st_ok 33 t := h.2.1.1
theorem cK.s2 {t : hy_T} (h : cK t) : st_ok 37 t := h.2.1.2
theorem cK.sk {t : hy_T} (h : cK t) : pa_stk t := h.2.2.1
theorem cK.pr {t : hy_T} (h : cK t) : pr_ok t := h.2.2.2
abbrev ckT : Nat → Nat → Bool := fun r j => (r == 3 && (j == 1 || j == 2 || j == 3)) || r == 4
abbrev ckN : Nat → Nat → Bool := fun r _ => r == 28 || r == 29 || r == 31 || r == 32
abbrev ckS (b : Nat) : Nat → Nat → Bool := fun r j => (r == b && (j == 3 || j == 4 || j == 5)) || r == b + 3
abbrev ckP : Nat → Nat → Bool := fun r _ => r == 6 || r == 7
abbrev frees (X Y : Nat → Nat → Bool) : Prop := ∀ r j, Y r j = true → X r j = false
theorem ck_tp {X : Nat → Nat → Bool} {t t1 : hy_T} (h : hy_F X t t1) (hx : frees X ckT) (k : tp_ok t) : tp_ok t1 :=
  ⟨fun j hj => by rw [h 4 j (hx 4 j rfl)]; exact k.b j hj, by rw [h 3 1 (hx 3 1 rfl)]; exact k.l, by rw [h 3 2 (hx 3 2 rfl)]; exact k.e, by rw [h 3 3 (hx 3 3 rfl)]; exact k.p⟩
theorem ck_lc {X : Nat → Nat → Bool} {t t1 : hy_T} (h : hy_F X t t1) (hx : frees X lawX) (k : lc_ok t) : lc_ok t1 := lc_ok_same (lc_same_of h hx) k
theorem ck_ln {X : Nat → Nat → Bool} {t t1 : hy_T} (h : hy_F X t t1) (hx : frees X ckN) (k : ln_ok t) : ln_ok t1 :=
  ln_ok_F h (fun j => hx 28 j rfl) (fun j => hx 29 j rfl) (fun j => hx 31 j rfl) (fun j => hx 32 j rfl) k
theorem ck_st {b : Nat} {X : Nat → Nat → Bool} {t t1 : hy_T} (h : hy_F X t t1) (hx : frees X (ckS b)) (k : st_ok b t) : st_ok b t1 :=
  ⟨by rw [h b 3 (hx b 3 (by simp))]; exact k.c, by rw [h b 4 (hx b 4 (by simp))]; exact k.d, by rw [h b 5 (hx b 5 (by simp))]; exact k.w, fun j hj => by rw [h (b + 3) j (hx (b + 3) j (by simp))]; exact k.t j hj⟩
theorem ck_pr {X : Nat → Nat → Bool} {t t1 : hy_T} (h : hy_F X t t1) (hx : frees X ckP) (k : pr_ok t) : pr_ok t1 := fun j hj => by
  rw [h 6 j (hx 6 j rfl), h 7 j (hx 7 j rfl)]
  exact k j hj
/-- a call that leaves all of this alone -/
abbrev ckX : Nat → Nat → Bool := fun r j => ckT r j || lawX r j || r == 21 || ckN r j || ckS 33 r j || ckS 37 r j || r == 56 || ckP r j
theorem cK_F {X : Nat → Nat → Bool} {t t1 : hy_T} (h : hy_F X t t1) (hx : frees X ckX) (k : cK t) : cK t1 :=
  ⟨⟨⟨ck_tp h (fun r j q => hx r j (by simp only [ckX, q]; simp)) k.tp, ck_lc h (fun r j q => hx r j (by simp only [ckX, q]; simp)) k.lc⟩, da_F h (fun j => hx 21 j (by simp [ckX])) k.da, ck_ln h (fun r j q => hx r j (by simp only [ckX, q]; simp)) k.ln⟩,
   ⟨ck_st h (fun r j q => hx r j (by simp only [ckX, q]; simp)) k.s1, ck_st h (fun r j q => hx r j (by simp only [ckX, q]; simp)) k.s2⟩, pa_stk_F h (fun j => hx 56 j (by simp [ckX])) k.sk, ck_pr h (fun r j q => hx r j (by simp only [ckX, q]; simp)) k.pr⟩
/-! the class: every call ends, keeps all this, and leaves the rest alone -/
abbrev cpX (b : Nat) : Nat → Nat → Bool := fun r j => r == b + 1 || r == b + 2 || r == b + 3 || (r == b && (j == 3 || j == 4 || j == 5))
theorem sp_scopy_F (t : hy_T) (a b : Nat) : hy_F (cpX b) t (sp_scopy t a b) := by
  intro r j q
  simp only [cpX, Bool.or_eq_false_iff, Bool.and_eq_false_iff, beq_eq_false_iff_ne] at q
  simp only [sp_scopy, hy_up, hy_cp]
  repeat (rw [if_neg (by omega)])
theorem sp_scopy_3733 {t : hy_T} (h : st_ok 37 t) : st_ok 33 (sp_scopy t 37 33) := by
  refine ⟨h.c, h.d, h.w, fun j hj => ?_⟩
  have := h.t j hj
  simpa [sp_scopy, hy_up, hy_cp, hj] using this
theorem sp_scopy_3337 {t : hy_T} (h : st_ok 33 t) : st_ok 37 (sp_scopy t 33 37) := by
  refine ⟨h.c, h.d, h.w, fun j hj => ?_⟩
  have := h.t j hj
  simpa [sp_scopy, hy_up, hy_cp, hj] using this
theorem cK_tell {t : hy_T} (k : cK t) {c f s : Int} (h : sp_tellable (t 5 2) c f s = true) : cK (sp_tellC t c f s) ∧ hy_F (fun r _ => r == 5 || r == 6 || r == 7) t (sp_tellC t c f s) := by
  have F : hy_F (fun r _ => r == 5 || r == 6 || r == 7) t (sp_tellC t c f s) := by
    unfold sp_tellC
    split
    · exact hy_F.rf.up rfl
    · exact (((hy_F.rf.up rfl).up rfl).up rfl).up rfl
  refine ⟨⟨⟨⟨ck_tp F (fun r j q => by revert q; simp only [ckX, ckT, lawX, ckN, ckS, ckP, eX, lX, pX, fX, snX, brX, wyX, paX, trX, asX, gdX, lnX, lkX, lpX, lwcX, tyX, jyX, mkX, dzX, cpX, Bool.or_eq_true, Bool.and_eq_true, beq_iff_eq, Bool.or_eq_false_iff, Bool.and_eq_false_iff, beq_eq_false_iff_ne]; omega) k.tp, ck_lc F (fun r j q => by revert q; simp only [ckX, ckT, lawX, ckN, ckS, ckP, eX, lX, pX, fX, snX, brX, wyX, paX, trX, asX, gdX, lnX, lkX, lpX, lwcX, tyX, jyX, mkX, dzX, cpX, Bool.or_eq_true, Bool.and_eq_true, beq_iff_eq, Bool.or_eq_false_iff, Bool.and_eq_false_iff, beq_eq_false_iff_ne]; omega) k.lc⟩, da_F F (fun _ => rfl) k.da, ck_ln F (fun r j q => by revert q; simp only [ckX, ckT, lawX, ckN, ckS, ckP, eX, lX, pX, fX, snX, brX, wyX, paX, trX, asX, gdX, lnX, lkX, lpX, lwcX, tyX, jyX, mkX, dzX, cpX, Bool.or_eq_true, Bool.and_eq_true, beq_iff_eq, Bool.or_eq_false_iff, Bool.and_eq_false_iff, beq_eq_false_iff_ne]; omega) k.ln⟩, ⟨ck_st F (fun r j q => by revert q; simp only [ckX, ckT, lawX, ckN, ckS, ckP, eX, lX, pX, fX, snX, brX, wyX, paX, trX, asX, gdX, lnX, lkX, lpX, lwcX, tyX, jyX, mkX, dzX, cpX, Bool.or_eq_true, Bool.and_eq_true, beq_iff_eq, Bool.or_eq_false_iff, Bool.and_eq_false_iff, beq_eq_false_iff_ne]; omega) k.s1, ck_st F (fun r j q => by revert q; simp only [ckX, ckT, lawX, ckN, ckS, ckP, eX, lX, pX, fX, snX, brX, wyX, paX, trX, asX, gdX, lnX, lkX, lpX, lwcX, tyX, jyX, mkX, dzX, cpX, Bool.or_eq_true, Bool.and_eq_true, beq_iff_eq, Bool.or_eq_false_iff, Bool.and_eq_false_iff, beq_eq_false_iff_ne]; omega) k.s2⟩, pa_stk_F F (fun _ => rfl) k.sk, ?_⟩, F⟩
  have kp := k.pr
  unfold sp_tellC
  split
  · exact kp
  · next hfs =>
    simp only [sp_tellable, sp_told, Bool.and_eq_true, Bool.or_eq_true, decide_eq_true_eq] at h
    have hr : (-1 ≤ f ∧ f < 12) ∧ -1 ≤ s ∧ s < 12 := by
      rcases h.2 with q | q
      · exact absurd q hfs
      · have q1 := q.1.1.1
        have q2 := q.1.2.1
        omega
    intro j hj
    obtain ⟨k1, k2⟩ := kp j hj
    refine ⟨?_, ?_⟩
    · rw [hy_up_ne (by decide), hy_up_ne (by decide), hy_up_ne (by decide)]
      simp only [hy_up]
      split
      · exact hr.1
      · exact k1
    · rw [hy_up_ne (by decide), hy_up_ne (by decide)]
      simp only [hy_up]
      split
      · exact hr.2
      · rw [if_neg (by omega)]; exact k2
abbrev taX : Nat → Nat → Bool := fun r j => r == 4 || (r == 3 && j == 1)
theorem tp_add_F (t : hy_T) (w : Int) : hy_F taX t (tp_add t w) := by
  have h : ∀ (t1 : hy_T) (v : Int), hy_F taX t t1 → hy_F taX t (tp_add1 t1 v) := by
    intro t1 v hF
    unfold tp_add1
    split
    · exact (hF.up rfl).up rfl
    · exact hF
  exact h _ _ (h _ _ (h _ _ (h _ _ hy_F.rf)))
theorem wf_feed_s {t : hy_T} (h : tp_ok t) (a b c d e : Int) : tp_ok (wf_feed t a b c d e) ∧ hy_F taX t (wf_feed t a b c d e) :=
  ⟨tp_add_ok (tp_add_ok (tp_add_ok (tp_add_ok (tp_add_ok h a) b) c) d) e, ((((tp_add_F t a).tr' (tp_add_F _ b)).tr' (tp_add_F _ c)).tr' (tp_add_F _ d)).tr' (tp_add_F _ e)⟩
abbrev glX : Nat → Nat → Bool := fun r j => gdX r j || r == 9 || (r == 3 && j == 1)
theorem wf_land_s {t : hy_T} (h : tp_ok t) (n : Int) : tp_ok (wf_land t n).2 ∧ hy_F glX t (wf_land t n).2 ∧ (wf_land t n).2 3 1 = if 1 ≤ n ∧ n ≤ 160 ∧ n ≤ t 3 1 then 0 else t 3 1 := by
  obtain ⟨a1, a2⟩ := gd_rowsN_s h n 8
  have fF := tp_finish_F (gd_rowsN t n 8)
  have b1 := tp_finish_ok a1
  have b2 : hy_F glX t (tp_finish (gd_rowsN t n 8)) := (a2.tr' (gdX_tp fF)).w (fun r j q => (Bool.or_eq_false_iff.mp (Bool.or_eq_false_iff.mp q).1).1)
  have c : tp_ok (gd_read t n) ∧ hy_F glX t (gd_read t n) := by
    unfold gd_read
    split
    · refine ⟨⟨fun j hj => ?_, ?_, ?_, ?_⟩, fun r j q => ?_⟩
      · simp only [hy_cp]; rw [if_neg (by omega)]; exact b1.b j hj
      · simp only [hy_cp]; rw [if_neg (by omega)]; exact b1.l
      · simp only [hy_cp]; rw [if_neg (by omega)]; exact b1.e
      · simp only [hy_cp]; rw [if_neg (by omega)]; exact b1.p
      · have q9 : r ≠ 9 := by
          have := (Bool.or_eq_false_iff.mp (Bool.or_eq_false_iff.mp q).1).2
          simpa using this
        simp only [hy_cp]
        rw [if_neg (by omega)]
        exact b2 r j q
    · exact ⟨b1, b2⟩
  have d : tp_ok (hy_up (gd_read t n) 3 1 0) ∧ hy_F glX t (hy_up (gd_read t n) 3 1 0) := ⟨⟨c.1.b, hz_0260, c.1.e, c.1.p⟩, c.2.up rfl⟩
  unfold wf_land
  by_cases hq : 1 ≤ n ∧ n ≤ 160 ∧ n ≤ t 3 1
  · rw [if_pos hq, if_pos hq]
    split
    · exact ⟨d.1, d.2, rfl⟩
    · exact ⟨d.1, d.2, rfl⟩
  · rw [if_neg hq, if_neg hq]
    exact ⟨h, hy_F.rf, rfl⟩
theorem cK_tape {X : Nat → Nat → Bool} {t t1 : hy_T} (h : hy_F X t t1) (hx : frees X (fun r j => lawX r j || r == 21 || ckN r j || ckS 33 r j || ckS 37 r j || r == 56 || ckP r j)) (h1 : tp_ok t1) (k : cK t) : cK t1 :=
  ⟨⟨⟨h1, ck_lc h (fun r j q => hx r j (by simp only [q]; simp)) k.lc⟩, da_F h (fun j => hx 21 j (by simp)) k.da, ck_ln h (fun r j q => hx r j (by simp only [q]; simp)) k.ln⟩,
   ⟨ck_st h (fun r j q => hx r j (by simp only [q]; simp)) k.s1, ck_st h (fun r j q => hx r j (by simp only [q]; simp)) k.s2⟩, pa_stk_F h (fun j => hx 56 j (by simp)) k.sk, ck_pr h (fun r j q => hx r j (by simp only [q]; simp)) k.pr⟩
theorem cK_law {t : hy_T} (k : cK t) (n : Int) : cK (wf_law t n).2 ∧ hy_F lwcX t (wf_law t n).2 := by
  obtain ⟨F, a, b, c⟩ := wf_law_s k.tp k.da k.lc n
  exact ⟨⟨⟨⟨a, c⟩, b, ck_ln F (fun r j q => by revert q; simp only [ckX, ckT, lawX, ckN, ckS, ckP, eX, lX, pX, fX, snX, brX, wyX, paX, trX, asX, gdX, lnX, lkX, lpX, lwcX, tyX, jyX, mkX, dzX, cpX, taX, glX, Bool.or_eq_true, Bool.and_eq_true, beq_iff_eq, Bool.or_eq_false_iff, Bool.and_eq_false_iff, beq_eq_false_iff_ne]; omega) k.ln⟩, ⟨ck_st F (fun r j q => by revert q; simp only [ckX, ckT, lawX, ckN, ckS, ckP, eX, lX, pX, fX, snX, brX, wyX, paX, trX, asX, gdX, lnX, lkX, lpX, lwcX, tyX, jyX, mkX, dzX, cpX, taX, glX, Bool.or_eq_true, Bool.and_eq_true, beq_iff_eq, Bool.or_eq_false_iff, Bool.and_eq_false_iff, beq_eq_false_iff_ne]; omega) k.s1, ck_st F (fun r j q => by revert q; simp only [ckX, ckT, lawX, ckN, ckS, ckP, eX, lX, pX, fX, snX, brX, wyX, paX, trX, asX, gdX, lnX, lkX, lpX, lwcX, tyX, jyX, mkX, dzX, cpX, taX, glX, Bool.or_eq_true, Bool.and_eq_true, beq_iff_eq, Bool.or_eq_false_iff, Bool.and_eq_false_iff, beq_eq_false_iff_ne]; omega) k.s2⟩, pa_stk_F F (fun _ => rfl) k.sk, ck_pr F (fun r j q => by revert q; simp only [ckX, ckT, lawX, ckN, ckS, ckP, eX, lX, pX, fX, snX, brX, wyX, paX, trX, asX, gdX, lnX, lkX, lpX, lwcX, tyX, jyX, mkX, dzX, cpX, taX, glX, Bool.or_eq_true, Bool.and_eq_true, beq_iff_eq, Bool.or_eq_false_iff, Bool.and_eq_false_iff, beq_eq_false_iff_ne]; omega) k.pr⟩, F⟩
theorem wf_law_31 (t : hy_T) (n : Int) : (wf_law t n).2 3 1 = if 1 ≤ n ∧ n ≤ 240 ∧ n ≤ t 3 1 then 0 else t 3 1 := by
  unfold wf_law
  by_cases hq : 1 ≤ n ∧ n ≤ 240 ∧ n ≤ t 3 1
  · rw [if_pos hq, if_pos hq]
    split
    · rfl
    · rfl
  · rw [if_neg hq, if_neg hq]
theorem cK_st1 {X : Nat → Nat → Bool} {t t1 : hy_T} (h : hy_F X t t1) (hx : frees X (fun r j => ckT r j || lawX r j || r == 21 || ckN r j || ckS 37 r j || r == 56 || ckP r j)) (h1 : st_ok 33 t1) (k : cK t) : cK t1 :=
  ⟨⟨⟨ck_tp h (fun r j q => hx r j (by simp only [q]; simp)) k.tp, ck_lc h (fun r j q => hx r j (by simp only [q]; simp)) k.lc⟩, da_F h (fun j => hx 21 j (by simp)) k.da, ck_ln h (fun r j q => hx r j (by simp only [q]; simp)) k.ln⟩,
   ⟨h1, ck_st h (fun r j q => hx r j (by simp only [q]; simp)) k.s2⟩, pa_stk_F h (fun j => hx 56 j (by simp)) k.sk, ck_pr h (fun r j q => hx r j (by simp only [q]; simp)) k.pr⟩
theorem cK_st2 {X : Nat → Nat → Bool} {t t1 : hy_T} (h : hy_F X t t1) (hx : frees X (fun r j => ckT r j || lawX r j || r == 21 || ckN r j || ckS 33 r j || r == 56 || ckP r j)) (h1 : st_ok 37 t1) (k : cK t) : cK t1 :=
  ⟨⟨⟨ck_tp h (fun r j q => hx r j (by simp only [q]; simp)) k.tp, ck_lc h (fun r j q => hx r j (by simp only [q]; simp)) k.lc⟩, da_F h (fun j => hx 21 j (by simp)) k.da, ck_ln h (fun r j q => hx r j (by simp only [q]; simp)) k.ln⟩,
   ⟨ck_st h (fun r j q => hx r j (by simp only [q]; simp)) k.s1, h1⟩, pa_stk_F h (fun j => hx 56 j (by simp)) k.sk, ck_pr h (fun r j q => hx r j (by simp only [q]; simp)) k.pr⟩
/-- what every call of the class does -/
abbrev cQ (X : Nat → Nat → Bool) (t : hy_T) : Option Int → hy_T → Prop := fun r t' => (∃ x : Int, r = some x) ∧ cK t' ∧ hy_F X t t'
section KO
variable {sc : List Int32} {t : hy_T}
theorem k1 {a b c : Int} (k : cK t) : hy_Ct sc hm_W_have 3 [.inr (some 2), .inl a, .inl b, .inl c] t (cQ (fun r _ => r == 34) t) := c_W_have.mono (fun r t' q => by
  obtain ⟨rfl, rfl⟩ := q
  have F : hy_F (fun r _ => r == 34) t (if wf_have t a b c = true then sp_setH 33 t a b c else t) := by
    split
    · unfold sp_setH
      split
      · exact hy_F.rf.up rfl
      · exact hy_F.rf
    · exact hy_F.rf
  exact ⟨⟨_, rfl⟩, cK_F F (fun r j q => by revert q; simp only [ckX, ckT, lawX, ckN, ckS, ckP, eX, lX, pX, fX, snX, brX, wyX, paX, trX, asX, gdX, lnX, lkX, lpX, lwcX, tyX, jyX, mkX, dzX, cpX, taX, glX, Bool.or_eq_true, Bool.and_eq_true, beq_iff_eq, Bool.or_eq_false_iff, Bool.and_eq_false_iff, beq_eq_false_iff_ne]; omega) k, F⟩)
theorem k2 {a b c : Int} (k : cK t) : hy_Ct sc hm_W_owner 2 [.inr (some 2), .inl a, .inl b, .inl c] t (cQ (fun r _ => r == 35) t) := c_W_owner.mono (fun r t' q => by
  obtain ⟨rfl, rfl⟩ := q
  have F : hy_F (fun r _ => r == 35) t (if wf_owner a b c = true then hy_up t 35 (8 * b + a).toNat c else t) := by
    split
    · exact hy_F.rf.up rfl
    · exact hy_F.rf
  exact ⟨⟨_, rfl⟩, cK_F F (fun r j q => by revert q; simp only [ckX, ckT, lawX, ckN, ckS, ckP, eX, lX, pX, fX, snX, brX, wyX, paX, trX, asX, gdX, lnX, lkX, lpX, lwcX, tyX, jyX, mkX, dzX, cpX, taX, glX, Bool.or_eq_true, Bool.and_eq_true, beq_iff_eq, Bool.or_eq_false_iff, Bool.and_eq_false_iff, beq_eq_false_iff_ne]; omega) k, F⟩)
theorem cK_feed {a b c d e : Int} (k : cK t) : cK (if t 3 1 ≤ 240 then wf_feed t a b c d e else t) ∧ hy_F taX t (if t 3 1 ≤ 240 then wf_feed t a b c d e else t) := by
  obtain ⟨h1, F⟩ := wf_feed_s k.tp a b c d e
  split
  · exact ⟨cK_tape F (fun r j q => by revert q; simp only [ckX, ckT, lawX, ckN, ckS, ckP, eX, lX, pX, fX, snX, brX, wyX, paX, trX, asX, gdX, lnX, lkX, lpX, lwcX, tyX, jyX, mkX, dzX, cpX, taX, glX, Bool.or_eq_true, Bool.and_eq_true, beq_iff_eq, Bool.or_eq_false_iff, Bool.and_eq_false_iff, beq_eq_false_iff_ne]; omega) h1 k, F⟩
  · exact ⟨k, hy_F.rf⟩
theorem k3 {a b c d e : Int} (k : cK t) : hy_Ct sc hm_W_feed 1 [.inr (some 2), .inl a, .inl b, .inl c, .inl d, .inl e] t (fun r t' => cQ taX t r t' ∧ t' = if t 3 1 ≤ 240 then wf_feed t a b c d e else t) := (c_W_feed k.tp.l).mono (fun r t' q => by
  obtain ⟨rfl, rfl⟩ := q
  obtain ⟨k1, F⟩ := cK_feed (a := a) (b := b) (c := c) (d := d) (e := e) k
  exact ⟨⟨⟨_, rfl⟩, k1, F⟩, rfl⟩)
theorem k4 {n : Int} (k : cK t) : hy_Ct sc hm_W_law 63 [.inr (some 2), .inl n] t (fun r t' => cQ lwcX t r t' ∧ r = some (wf_law t n).1 ∧ t' = (wf_law t n).2) := (c_W_law k.tp).mono (fun r t' q => by
  obtain ⟨rfl, rfl⟩ := q
  obtain ⟨k1, F⟩ := cK_law k n
  exact ⟨⟨⟨_, rfl⟩, k1, F⟩, rfl, rfl⟩)
theorem k5 {n : Int} (k : cK t) : hy_Ct sc hm_W_land 5 [.inr (some 2), .inl n] t (fun r t' => cQ glX t r t' ∧ r = some (wf_land t n).1 ∧ t' = (wf_land t n).2) := (c_W_land k.tp).mono (fun r t' q => by
  obtain ⟨rfl, rfl⟩ := q
  obtain ⟨h1, F, -⟩ := wf_land_s k.tp n
  exact ⟨⟨⟨_, rfl⟩, cK_tape F (fun r j q => by revert q; simp only [ckX, ckT, lawX, ckN, ckS, ckP, eX, lX, pX, fX, snX, brX, wyX, paX, trX, asX, gdX, lnX, lkX, lpX, lwcX, tyX, jyX, mkX, dzX, cpX, taX, glX, Bool.or_eq_true, Bool.and_eq_true, beq_iff_eq, Bool.or_eq_false_iff, Bool.and_eq_false_iff, beq_eq_false_iff_ne]; omega) h1 k, F⟩, rfl, rfl⟩)
theorem k6 {n : Int} (k : cK t) : hy_Ct sc hm_W_treaties 5 [.inr (some 2), .inl n] t (fun r t' => cQ (tyX 33) t r t' ∧ t' 3 1 = if 1 ≤ n ∧ n ≤ 120 ∧ n ≤ t 3 1 then 0 else t 3 1) := (c_W_treaties k.tp k.ln k.s1).mono (fun r t' q => by
  obtain ⟨x, F, s1, ln, tp, z⟩ := q
  exact ⟨⟨x, ⟨⟨⟨tp, ck_lc F (fun r j q => by revert q; simp only [ckX, ckT, lawX, ckN, ckS, ckP, eX, lX, pX, fX, snX, brX, wyX, paX, trX, asX, gdX, lnX, lkX, lpX, lwcX, tyX, jyX, mkX, dzX, cpX, taX, glX, Bool.or_eq_true, Bool.and_eq_true, beq_iff_eq, Bool.or_eq_false_iff, Bool.and_eq_false_iff, beq_eq_false_iff_ne]; omega) k.lc⟩, da_F F (fun _ => rfl) k.da, ln⟩, ⟨s1, ck_st F (fun r j q => by revert q; simp only [ckX, ckT, lawX, ckN, ckS, ckP, eX, lX, pX, fX, snX, brX, wyX, paX, trX, asX, gdX, lnX, lkX, lpX, lwcX, tyX, jyX, mkX, dzX, cpX, taX, glX, Bool.or_eq_true, Bool.and_eq_true, beq_iff_eq, Bool.or_eq_false_iff, Bool.and_eq_false_iff, beq_eq_false_iff_ne]; omega) k.s2⟩, pa_stk_F F (fun _ => rfl) k.sk, ck_pr F (fun r j q => by revert q; simp only [ckX, ckT, lawX, ckN, ckS, ckP, eX, lX, pX, fX, snX, brX, wyX, paX, trX, asX, gdX, lnX, lkX, lpX, lwcX, tyX, jyX, mkX, dzX, cpX, taX, glX, Bool.or_eq_true, Bool.and_eq_true, beq_iff_eq, Bool.or_eq_false_iff, Bool.and_eq_false_iff, beq_eq_false_iff_ne]; omega) k.pr⟩, F⟩, z⟩)
theorem k7 {n : Int} (k : cK t) : hy_Ct sc hm_W_judged 5 [.inr (some 2), .inl n] t (fun r t' => cQ jyX t r t' ∧ t' 3 1 = if 1 ≤ n ∧ n ≤ 120 ∧ n ≤ t 3 1 then 0 else t 3 1) := (c_W_judged k.tp k.ln k.s1).mono (fun r t' q => by
  obtain ⟨x, F, ln, tp, z⟩ := q
  exact ⟨⟨x, ⟨⟨⟨tp, ck_lc F (fun r j q => by revert q; simp only [ckX, ckT, lawX, ckN, ckS, ckP, eX, lX, pX, fX, snX, brX, wyX, paX, trX, asX, gdX, lnX, lkX, lpX, lwcX, tyX, jyX, mkX, dzX, cpX, taX, glX, Bool.or_eq_true, Bool.and_eq_true, beq_iff_eq, Bool.or_eq_false_iff, Bool.and_eq_false_iff, beq_eq_false_iff_ne]; omega) k.lc⟩, da_F F (fun _ => rfl) k.da, ln⟩, ⟨ck_st F (fun r j q => by revert q; simp only [ckX, ckT, lawX, ckN, ckS, ckP, eX, lX, pX, fX, snX, brX, wyX, paX, trX, asX, gdX, lnX, lkX, lpX, lwcX, tyX, jyX, mkX, dzX, cpX, taX, glX, Bool.or_eq_true, Bool.and_eq_true, beq_iff_eq, Bool.or_eq_false_iff, Bool.and_eq_false_iff, beq_eq_false_iff_ne]; omega) k.s1, ck_st F (fun r j q => by revert q; simp only [ckX, ckT, lawX, ckN, ckS, ckP, eX, lX, pX, fX, snX, brX, wyX, paX, trX, asX, gdX, lnX, lkX, lpX, lwcX, tyX, jyX, mkX, dzX, cpX, taX, glX, Bool.or_eq_true, Bool.and_eq_true, beq_iff_eq, Bool.or_eq_false_iff, Bool.and_eq_false_iff, beq_eq_false_iff_ne]; omega) k.s2⟩, pa_stk_F F (fun _ => rfl) k.sk, ck_pr F (fun r j q => by revert q; simp only [ckX, ckT, lawX, ckN, ckS, ckP, eX, lX, pX, fX, snX, brX, wyX, paX, trX, asX, gdX, lnX, lkX, lpX, lwcX, tyX, jyX, mkX, dzX, cpX, taX, glX, Bool.or_eq_true, Bool.and_eq_true, beq_iff_eq, Bool.or_eq_false_iff, Bool.and_eq_false_iff, beq_eq_false_iff_ne]; omega) k.pr⟩, F⟩, z⟩)
abbrev dgX : Nat → Nat → Bool := fun r j => dzX 33 r j || eX r j
theorem k8 {n : Int} (k : cK t) : hy_Ct sc hm_W_days 6 [.inr (some 2), .inl n] t (cQ dgX t) := (c_W_days k.s1 k.lc).mono (fun r t' q => by
  by_cases hq : 1 ≤ n ∧ n ≤ 99
  · rw [if_pos hq] at q
    obtain ⟨rfl, F⟩ := q
    obtain ⟨s1, F1, -⟩ := sp_days_s 33 k.s1 n
    have G : hy_F dgX t t' := (F1.w (fun r j q => (Bool.or_eq_false_iff.mp q).1)).tr' (F.w (fun r j q => (Bool.or_eq_false_iff.mp q).2))
    exact ⟨⟨_, rfl⟩, cK_st1 G (fun r j q => by revert q; simp only [dgX, ckT, lawX, ckN, ckS, ckP, eX, dzX, Bool.or_eq_true, Bool.and_eq_true, beq_iff_eq, Bool.or_eq_false_iff, Bool.and_eq_false_iff, beq_eq_false_iff_ne]; omega) (st_ok_E (by decide) F s1) k, G⟩
  · rw [if_neg hq] at q
    obtain ⟨rfl, rfl⟩ := q
    exact ⟨⟨_, rfl⟩, k, hy_F.rf⟩)
theorem k9 {n w : Int} (k : cK t) : hy_Ct sc hm_W_tried 6 [.inr (some 2), .inl n, .inl w] t (cQ trX t) := (c_W_tried k.s1 k.lc).mono (fun r t' q => ⟨⟨_, q.1⟩, cK_F q.2 (fun r j q => by revert q; simp only [ckX, ckT, lawX, ckN, ckS, ckP, eX, lX, pX, fX, snX, brX, wyX, paX, trX, asX, gdX, lnX, lkX, lpX, lwcX, tyX, jyX, mkX, dzX, cpX, taX, glX, Bool.or_eq_true, Bool.and_eq_true, beq_iff_eq, Bool.or_eq_false_iff, Bool.and_eq_false_iff, beq_eq_false_iff_ne]; omega) k, q.2⟩)
theorem k10 {n w : Int} (k : cK t) : hy_Ct sc hm_W_treatyIs 2 [.inr (some 2), .inl n, .inl w] t (cQ (fun _ _ => false) t) := (c_W_treatyIs k.s1.c).mono (fun r t' q => by
  obtain ⟨rfl, rfl⟩ := q
  exact ⟨⟨_, rfl⟩, k, hy_F.rf⟩)
theorem k11 {a b c : Int} (k : cK t) : hy_Ct sc hm_W_sees 5 [.inr (some 2), .inl a, .inl b, .inl c] t (cQ eX t) := (c_W_sees k.lc).mono (fun r t' q => ⟨⟨_, q.1⟩, cK_F q.2 (fun r j q => by revert q; simp only [ckX, ckT, lawX, ckN, ckS, ckP, eX, lX, pX, fX, snX, brX, wyX, paX, trX, asX, gdX, lnX, lkX, lpX, lwcX, tyX, jyX, mkX, dzX, cpX, taX, glX, Bool.or_eq_true, Bool.and_eq_true, beq_iff_eq, Bool.or_eq_false_iff, Bool.and_eq_false_iff, beq_eq_false_iff_ne]; omega) k, q.2⟩)
theorem k12 {a b c : Int} (k : cK t) : hy_Ct sc hm_W_appears 5 [.inr (some 2), .inl a, .inl b, .inl c] t (cQ lX t) := (c_W_appears k.lc).mono (fun r t' q => ⟨⟨_, q.1⟩, cK_F q.2 (fun r j q => by revert q; simp only [ckX, ckT, lawX, ckN, ckS, ckP, eX, lX, pX, fX, snX, brX, wyX, paX, trX, asX, gdX, lnX, lkX, lpX, lwcX, tyX, jyX, mkX, dzX, cpX, taX, glX, Bool.or_eq_true, Bool.and_eq_true, beq_iff_eq, Bool.or_eq_false_iff, Bool.and_eq_false_iff, beq_eq_false_iff_ne]; omega) k, q.2⟩)
theorem k13 {a b c d : Int} (k : cK t) : hy_Ct sc hm_W_child 6 [.inr (some 2), .inl a, .inl b, .inl c, .inl d] t (cQ eX t) := (c_W_child k.lc).mono (fun r t' q => ⟨⟨_, q.1⟩, cK_F q.2 (fun r j q => by revert q; simp only [ckX, ckT, lawX, ckN, ckS, ckP, eX, lX, pX, fX, snX, brX, wyX, paX, trX, asX, gdX, lnX, lkX, lpX, lwcX, tyX, jyX, mkX, dzX, cpX, taX, glX, Bool.or_eq_true, Bool.and_eq_true, beq_iff_eq, Bool.or_eq_false_iff, Bool.and_eq_false_iff, beq_eq_false_iff_ne]; omega) k, q.2⟩)
theorem k14 {a b c d e : Int} (k : cK t) : hy_Ct sc hm_W_unseen 5 [.inr (some 2), .inl a, .inl b, .inl c, .inl d, .inl e] t (cQ lX t) := (c_W_unseen k.lc).mono (fun r t' q => ⟨⟨_, q.1⟩, cK_F q.2 (fun r j q => by revert q; simp only [ckX, ckT, lawX, ckN, ckS, ckP, eX, lX, pX, fX, snX, brX, wyX, paX, trX, asX, gdX, lnX, lkX, lpX, lwcX, tyX, jyX, mkX, dzX, cpX, taX, glX, Bool.or_eq_true, Bool.and_eq_true, beq_iff_eq, Bool.or_eq_false_iff, Bool.and_eq_false_iff, beq_eq_false_iff_ne]; omega) k, q.2⟩)
theorem k15 {a b c d e f : Int} (k : cK t) : hy_Ct sc hm_W_way 5 [.inr (some 2), .inl a, .inl b, .inl c, .inl d, .inl e, .inl f] t (cQ wyX t) := (c_W_way k.lc).mono (fun r t' q => ⟨q.1, cK_F q.2 (fun r j q => by revert q; simp only [ckX, ckT, lawX, ckN, ckS, ckP, eX, lX, pX, fX, snX, brX, wyX, paX, trX, asX, gdX, lnX, lkX, lpX, lwcX, tyX, jyX, mkX, dzX, cpX, taX, glX, Bool.or_eq_true, Bool.and_eq_true, beq_iff_eq, Bool.or_eq_false_iff, Bool.and_eq_false_iff, beq_eq_false_iff_ne]; omega) k, q.2⟩)
theorem k16 {a b : Int} (k : cK t) : hy_Ct sc hm_W_worth 6 [.inr (some 2), .inl a, .inl b] t (cQ pX t) := (c_W_worth k.lc).mono (fun r t' q => ⟨⟨_, q.1⟩, cK_F q.2 (fun r j q => by revert q; simp only [ckX, ckT, lawX, ckN, ckS, ckP, eX, lX, pX, fX, snX, brX, wyX, paX, trX, asX, gdX, lnX, lkX, lpX, lwcX, tyX, jyX, mkX, dzX, cpX, taX, glX, Bool.or_eq_true, Bool.and_eq_true, beq_iff_eq, Bool.or_eq_false_iff, Bool.and_eq_false_iff, beq_eq_false_iff_ne]; omega) k, q.2⟩)
theorem k17 {a b c : Int} (k : cK t) : hy_Ct sc hm_W_gain 6 [.inr (some 2), .inl a, .inl b, .inl c] t (cQ pX t) := (c_W_gain k.lc).mono (fun r t' q => ⟨q.1, cK_F q.2 (fun r j q => by revert q; simp only [ckX, ckT, lawX, ckN, ckS, ckP, eX, lX, pX, fX, snX, brX, wyX, paX, trX, asX, gdX, lnX, lkX, lpX, lwcX, tyX, jyX, mkX, dzX, cpX, taX, glX, Bool.or_eq_true, Bool.and_eq_true, beq_iff_eq, Bool.or_eq_false_iff, Bool.and_eq_false_iff, beq_eq_false_iff_ne]; omega) k, q.2⟩)
theorem k18 {a b c d e : Int} (k : cK t) : hy_Ct sc hm_W_power 6 [.inr (some 2), .inl a, .inl b, .inl c, .inl d, .inl e] t (cQ pX t) := (c_W_power k.lc).mono (fun r t' q => ⟨q.1, cK_F q.2 (fun r j q => by revert q; simp only [ckX, ckT, lawX, ckN, ckS, ckP, eX, lX, pX, fX, snX, brX, wyX, paX, trX, asX, gdX, lnX, lkX, lpX, lwcX, tyX, jyX, mkX, dzX, cpX, taX, glX, Bool.or_eq_true, Bool.and_eq_true, beq_iff_eq, Bool.or_eq_false_iff, Bool.and_eq_false_iff, beq_eq_false_iff_ne]; omega) k, q.2⟩)
theorem k19 {a b c d e : Int} (k : cK t) : hy_Ct sc hm_W_signals 6 [.inr (some 2), .inl a, .inl b, .inl c, .inl d, .inl e] t (cQ snX t) := (c_W_signals k.lc).mono (fun r t' q => ⟨⟨_, q.1⟩, cK_F q.2 (fun r j q => by revert q; simp only [ckX, ckT, lawX, ckN, ckS, ckP, eX, lX, pX, fX, snX, brX, wyX, paX, trX, asX, gdX, lnX, lkX, lpX, lwcX, tyX, jyX, mkX, dzX, cpX, taX, glX, Bool.or_eq_true, Bool.and_eq_true, beq_iff_eq, Bool.or_eq_false_iff, Bool.and_eq_false_iff, beq_eq_false_iff_ne]; omega) k, q.2⟩)
abbrev t1X : Nat → Nat → Bool := fun r j => r == 3 && j == 1
theorem tp_ok_0 {t : hy_T} (h : tp_ok t) : tp_ok (hy_up t 3 1 0) := ⟨h.b, hz_0260, h.e, h.p⟩
theorem k20 {m w : Int} (k : cK t) : hy_Ct sc hm_W_parted 4 [.inr (some 2), .inl m, .inl w] t (fun r t' => cQ t1X t r t' ∧ t' = if wf_partok t m w then hy_up t 3 1 0 else t) := (c_W_parted k.tp).mono (fun r t' q => by
  obtain ⟨x, rfl⟩ := q
  have F : hy_F t1X t (if wf_partok t m w then hy_up t 3 1 0 else t) := by
    split
    · exact hy_F.rf.up rfl
    · exact hy_F.rf
  have h1 : tp_ok (if wf_partok t m w then hy_up t 3 1 0 else t) := by
    split
    · exact tp_ok_0 k.tp
    · exact k.tp
  exact ⟨⟨x, cK_tape F (fun r j q => by revert q; simp only [ckX, ckT, lawX, ckN, ckS, ckP, eX, lX, pX, fX, snX, brX, wyX, paX, trX, asX, gdX, lnX, lkX, lpX, lwcX, tyX, jyX, mkX, dzX, cpX, taX, glX, t1X, Bool.or_eq_true, Bool.and_eq_true, beq_iff_eq, Bool.or_eq_false_iff, Bool.and_eq_false_iff, beq_eq_false_iff_ne]; omega) h1 k, F⟩, rfl⟩)
theorem k21 {a b c d : Int} (k : cK t) : hy_Ct sc hm_W_battle 6 [.inr (some 2), .inl a, .inl b, .inl c, .inl d] t (cQ fX t) := (c_W_battle k.lc).mono (fun r t' q => ⟨q.1, cK_F q.2 (fun r j q => by revert q; simp only [ckX, ckT, lawX, ckN, ckS, ckP, eX, lX, pX, fX, snX, brX, wyX, paX, trX, asX, gdX, lnX, lkX, lpX, lwcX, tyX, jyX, mkX, dzX, cpX, taX, glX, t1X, Bool.or_eq_true, Bool.and_eq_true, beq_iff_eq, Bool.or_eq_false_iff, Bool.and_eq_false_iff, beq_eq_false_iff_ne]; omega) k, q.2⟩)
abbrev spX : Nat → Nat → Bool := fun r j => t1X r j || brX r j
theorem k22 {n w : Int} (k : cK t) : hy_Ct sc hm_W_spies 6 [.inr (some 2), .inl n, .inl w] t (fun r t' => cQ spX t r t' ∧ t' 3 1 = if wf_spyok t n w then 0 else t 3 1) := (c_W_spies k.tp k.lc).mono (fun r t' q => by
  obtain ⟨x, F⟩ := q
  have F0 : hy_F t1X t (if wf_spyok t n w then hy_up t 3 1 0 else t) := by
    split
    · exact hy_F.rf.up rfl
    · exact hy_F.rf
  have h1 : tp_ok (if wf_spyok t n w then hy_up t 3 1 0 else t) := by
    split
    · exact tp_ok_0 k.tp
    · exact k.tp
  have z : (if wf_spyok t n w then hy_up t 3 1 0 else t) 3 1 = if wf_spyok t n w then 0 else t 3 1 := by
    split
    · rfl
    · rfl
  have G : hy_F spX t t' := (F0.w (fun r j q => (Bool.or_eq_false_iff.mp q).1)).tr' (F.w (fun r j q => (Bool.or_eq_false_iff.mp q).2))
  exact ⟨⟨x, cK_tape G (fun r j q => by revert q; simp only [ckX, ckT, lawX, ckN, ckS, ckP, eX, lX, pX, fX, snX, brX, wyX, paX, trX, asX, gdX, lnX, lkX, lpX, lwcX, tyX, jyX, mkX, dzX, cpX, taX, glX, t1X, spX, Bool.or_eq_true, Bool.and_eq_true, beq_iff_eq, Bool.or_eq_false_iff, Bool.and_eq_false_iff, beq_eq_false_iff_ne]; omega) (tp_ok_F F (fun _ => rfl) (fun _ => rfl) h1) k, G⟩, (F 3 1 rfl).trans z⟩)
theorem k23 {a b : Int} (k : cK t) : hy_Ct sc hm_W_painting 5 [.inr (some 2), .inl a, .inl b] t (cQ eX t) := (c_W_painting k.lc).mono (fun r t' q => ⟨⟨_, q.1⟩, cK_F q.2 (fun r j q => by revert q; simp only [ckX, ckT, lawX, ckN, ckS, ckP, eX, lX, pX, fX, snX, brX, wyX, paX, trX, asX, gdX, lnX, lkX, lpX, lwcX, tyX, jyX, mkX, dzX, cpX, taX, glX, t1X, spX, Bool.or_eq_true, Bool.and_eq_true, beq_iff_eq, Bool.or_eq_false_iff, Bool.and_eq_false_iff, beq_eq_false_iff_ne]; omega) k, q.2⟩)
theorem k24 {a b c : Int} (k : cK t) : hy_Ct sc hm_W_ash 5 [.inr (some 2), .inl a, .inl b, .inl c] t (cQ asX t) := (c_W_ash k.lc k.sk).mono (fun r t' q => by
  by_cases hq : ((0 ≤ a ∧ a < 6) ∧ 0 ≤ b ∧ b < 4) ∧ 0 ≤ c ∧ c < 3
  · rw [if_pos hq] at q
    obtain ⟨t1, F1, -, e, hr⟩ := q
    have main : ∀ u : hy_T, u = pa_seaN (wf_ashN t1 64) 64 → pa_stk u ∧ hy_F asX t u := fun u hu => by
      have F2 := wf_ashN_F t1 64
      have s2 : pa_stk (wf_ashN t1 64) := pa_stk_F F2 (fun _ => rfl) (pa_stk_F F1 (fun _ => rfl) k.sk)
      obtain ⟨s3, -, F3⟩ := pa_sea_s s2 64
      rw [← hu] at s3 F3
      exact ⟨s3, ((F1.w (fun r j q => by revert q; simp only [lX, asX, Bool.or_eq_false_iff, beq_eq_false_iff_ne]; omega)).tr' (F2.w (fun r j q => by revert q; simp only [asX, Bool.or_eq_false_iff, beq_eq_false_iff_ne]; omega))).tr' (F3.w (fun r j q => by revert q; simp only [paX, asX, Bool.or_eq_false_iff, Bool.and_eq_false_iff, beq_eq_false_iff_ne]; omega))⟩
    obtain ⟨s3, G⟩ := main t' e
    exact ⟨⟨_, hr⟩, ⟨⟨⟨ck_tp G (fun r j q => by revert q; simp only [ckX, ckT, lawX, ckN, ckS, ckP, eX, lX, pX, fX, snX, brX, wyX, paX, trX, asX, gdX, lnX, lkX, lpX, lwcX, tyX, jyX, mkX, dzX, cpX, taX, glX, t1X, spX, Bool.or_eq_true, Bool.and_eq_true, beq_iff_eq, Bool.or_eq_false_iff, Bool.and_eq_false_iff, beq_eq_false_iff_ne]; omega) k.tp, ck_lc G (fun r j q => by revert q; simp only [ckX, ckT, lawX, ckN, ckS, ckP, eX, lX, pX, fX, snX, brX, wyX, paX, trX, asX, gdX, lnX, lkX, lpX, lwcX, tyX, jyX, mkX, dzX, cpX, taX, glX, t1X, spX, Bool.or_eq_true, Bool.and_eq_true, beq_iff_eq, Bool.or_eq_false_iff, Bool.and_eq_false_iff, beq_eq_false_iff_ne]; omega) k.lc⟩, da_F G (fun _ => rfl) k.da, ck_ln G (fun r j q => by revert q; simp only [ckX, ckT, lawX, ckN, ckS, ckP, eX, lX, pX, fX, snX, brX, wyX, paX, trX, asX, gdX, lnX, lkX, lpX, lwcX, tyX, jyX, mkX, dzX, cpX, taX, glX, t1X, spX, Bool.or_eq_true, Bool.and_eq_true, beq_iff_eq, Bool.or_eq_false_iff, Bool.and_eq_false_iff, beq_eq_false_iff_ne]; omega) k.ln⟩, ⟨ck_st G (fun r j q => by revert q; simp only [ckX, ckT, lawX, ckN, ckS, ckP, eX, lX, pX, fX, snX, brX, wyX, paX, trX, asX, gdX, lnX, lkX, lpX, lwcX, tyX, jyX, mkX, dzX, cpX, taX, glX, t1X, spX, Bool.or_eq_true, Bool.and_eq_true, beq_iff_eq, Bool.or_eq_false_iff, Bool.and_eq_false_iff, beq_eq_false_iff_ne]; omega) k.s1, ck_st G (fun r j q => by revert q; simp only [ckX, ckT, lawX, ckN, ckS, ckP, eX, lX, pX, fX, snX, brX, wyX, paX, trX, asX, gdX, lnX, lkX, lpX, lwcX, tyX, jyX, mkX, dzX, cpX, taX, glX, t1X, spX, Bool.or_eq_true, Bool.and_eq_true, beq_iff_eq, Bool.or_eq_false_iff, Bool.and_eq_false_iff, beq_eq_false_iff_ne]; omega) k.s2⟩, s3, ck_pr G (fun r j q => by revert q; simp only [ckX, ckT, lawX, ckN, ckS, ckP, eX, lX, pX, fX, snX, brX, wyX, paX, trX, asX, gdX, lnX, lkX, lpX, lwcX, tyX, jyX, mkX, dzX, cpX, taX, glX, t1X, spX, Bool.or_eq_true, Bool.and_eq_true, beq_iff_eq, Bool.or_eq_false_iff, Bool.and_eq_false_iff, beq_eq_false_iff_ne]; omega) k.pr⟩, G⟩
  · rw [if_neg hq] at q
    obtain ⟨rfl, rfl⟩ := q
    exact ⟨⟨_, rfl⟩, k, hy_F.rf⟩)
theorem k25 {a : Int} (k : cK t) : hy_Ct sc hm_W_seed 1 [.inr (some 2), .inl a] t (cQ (fun r j => r == 33 && j == 5) t) := c_W_seed.mono (fun r t' q => by
  obtain ⟨rfl, rfl⟩ := q
  have F : hy_F (fun r j => r == 33 && j == 5) t (if wf_seed a = true then hy_up t 33 5 a else t) := by
    split
    · exact hy_F.rf.up rfl
    · exact hy_F.rf
  have s1 : st_ok 33 (if wf_seed a = true then hy_up t 33 5 a else t) := by
    split
    · next h => exact ⟨k.s1.c, k.s1.d, of_decide_eq_true h, k.s1.t⟩
    · exact k.s1
  exact ⟨⟨_, rfl⟩, cK_st1 F (fun r j q => by revert q; simp only [ckX, ckT, lawX, ckN, ckS, ckP, eX, lX, pX, fX, snX, brX, wyX, paX, trX, asX, gdX, lnX, lkX, lpX, lwcX, tyX, jyX, mkX, dzX, cpX, taX, glX, t1X, spX, Bool.or_eq_true, Bool.and_eq_true, beq_iff_eq, Bool.or_eq_false_iff, Bool.and_eq_false_iff, beq_eq_false_iff_ne]; omega) s1 k, F⟩)
abbrev kpX : Nat → Nat → Bool := fun r j => cpX 37 r j || (r == 2 && j == 9)
theorem k26 (k : cK t) : hy_Ct sc hm_W_keep 1 [.inr (some 2)] t (fun r t' => cQ kpX t r t' ∧ r = some (t 33 3) ∧ t' = hy_up (sp_scopy t 33 37) 2 9 1) := c_W_keep.mono (fun r t' q => by
  obtain ⟨rfl, rfl⟩ := q
  have F0 := sp_scopy_F t 33 37
  have F : hy_F kpX t (hy_up (sp_scopy t 33 37) 2 9 1) := (F0.w (fun r j q => (Bool.or_eq_false_iff.mp q).1)).up rfl
  have s := sp_scopy_3337 k.s1
  have s2 : st_ok 37 (hy_up (sp_scopy t 33 37) 2 9 1) := ⟨s.c, s.d, s.w, s.t⟩
  exact ⟨⟨⟨_, rfl⟩, cK_st2 F (fun r j q => by revert q; simp only [kpX, cpX, ckT, lawX, ckN, ckS, ckP, Bool.or_eq_true, Bool.and_eq_true, beq_iff_eq, Bool.or_eq_false_iff, Bool.and_eq_false_iff, beq_eq_false_iff_ne]; omega) s2 k, F⟩, rfl, rfl⟩)
theorem k27 (k : cK t) : hy_Ct sc hm_W_undo 1 [.inr (some 2)] t (fun r t' => cQ (cpX 33) t r t' ∧ r = some (if t 2 9 = 0 then 0 else 1) ∧ t' = if t 2 9 = 0 then t else sp_scopy t 37 33) := c_W_undo.mono (fun r t' q => by
  obtain ⟨rfl, rfl⟩ := q
  have F0 := sp_scopy_F t 37 33
  have s := sp_scopy_3733 k.s2
  refine ⟨⟨⟨_, rfl⟩, ?_⟩, rfl, rfl⟩
  split
  · exact ⟨k, hy_F.rf⟩
  · exact ⟨cK_st1 F0 (fun r j q => by revert q; simp only [ckX, ckT, lawX, ckN, ckS, ckP, eX, lX, pX, fX, snX, brX, wyX, paX, trX, asX, gdX, lnX, lkX, lpX, lwcX, tyX, jyX, mkX, dzX, cpX, taX, glX, t1X, spX, Bool.or_eq_true, Bool.and_eq_true, beq_iff_eq, Bool.or_eq_false_iff, Bool.and_eq_false_iff, beq_eq_false_iff_ne]; omega) s k, F0⟩)
theorem k28 {n : Int} (k : cK t) : hy_Ct sc hm_W_check 2 [.inr (some 2), .inl n] t (fun r t' => cQ t1X t r t' ∧ r = some (if (0 ≤ n ∧ n ≤ 8) ∧ 4 * n ≤ t 3 1 then wf_check t n else -2) ∧ t' = if (0 ≤ n ∧ n ≤ 8) ∧ 4 * n ≤ t 3 1 then hy_up t 3 1 0 else t) := (c_W_check k.tp.l).mono (fun r t' q => by
  obtain ⟨rfl, rfl⟩ := q
  refine ⟨⟨⟨_, rfl⟩, ?_⟩, rfl, rfl⟩
  split
  · have F : hy_F t1X t (hy_up t 3 1 0) := hy_F.rf.up rfl
    exact ⟨cK_tape F (fun r j q => by revert q; simp only [ckX, ckT, lawX, ckN, ckS, ckP, eX, lX, pX, fX, snX, brX, wyX, paX, trX, asX, gdX, lnX, lkX, lpX, lwcX, tyX, jyX, mkX, dzX, cpX, taX, glX, t1X, spX, Bool.or_eq_true, Bool.and_eq_true, beq_iff_eq, Bool.or_eq_false_iff, Bool.and_eq_false_iff, beq_eq_false_iff_ne]; omega) (tp_ok_0 k.tp) k, F⟩
  · exact ⟨k, hy_F.rf⟩)
theorem k29 {w : Int} (hR : hy_R w) (k : cK t) : hy_Ct sc hm_W_count 3 [.inr (some 2), .inl w] t (fun r t' => cQ (fun _ _ => false) t r t' ∧ r = some (wf_count t w) ∧ t' = t) := (c_W_count hR (fun j hj => (k.pr j hj).1) (fun j hj => (k.pr j hj).2)).mono (fun r t' q => by
  obtain ⟨rfl, rfl⟩ := q
  exact ⟨⟨⟨_, rfl⟩, k, hy_F.rf⟩, rfl, rfl⟩)
end KO
/-! the model: what stays true behind every call -/
def mp2_ok (t : hy_T) : Prop := ∀ j : Nat, j < 12 → ((-1 ≤ t 60 j ∧ t 60 j < 12) ∧ -1 ≤ t 61 j ∧ t 61 j < 12) ∧ (t 60 j ≠ -1 → (0 ≤ t 60 j ∧ t 60 j < j) ∧ 0 ≤ t 61 j ∧ t 61 j < j)
theorem mp2_pal {t : hy_T} (h : mp2_ok t) : me_pal t := fun j hj => ⟨(h j hj).1, fun hm => (h j hj).2 (by
  unfold mf_mixed at hm
  simp only [Bool.and_eq_true, decide_eq_true_eq] at hm
  simpa using hm.2)⟩
def kp_row (t : hy_T) (i : Nat) : Prop := (0 ≤ t 94 (6 * i + 0) ∧ t 94 (6 * i + 0) < 12) ∧ (1 ≤ t 94 (6 * i + 1) ∧ t 94 (6 * i + 1) ≤ 15) ∧ (0 ≤ t 94 (6 * i + 2) ∧ t 94 (6 * i + 2) < 6) ∧ (0 ≤ t 94 (6 * i + 3) ∧ t 94 (6 * i + 3) < 6) ∧ (t 94 (6 * i + 4) = 0 ∨ t 94 (6 * i + 4) = 1) ∧ (-9999 ≤ t 94 (6 * i + 5) ∧ t 94 (6 * i + 5) ≤ 9999)
def kp_ok (t : hy_T) : Prop := (0 ≤ t 59 54 ∧ t 59 54 ≤ 16) ∧ (0 ≤ t 59 55 ∧ t 59 55 ≤ 9999) ∧ (0 ≤ t 59 56 ∧ t 59 56 ≤ 65535) ∧ ∀ i : Nat, (i : Int) < t 59 54 → kp_row t i
abbrev mt_ok (t : hy_T) : Prop := 0 ≤ t 59 9 ∧ t 59 9 ≤ 260
def mK (t : hy_T) : Prop := (ml_ok t ∧ mp2_ok t) ∧ (mg_ok t ∧ nl_ok t) ∧ (tr_ok t ∧ kp_ok t) ∧ mt_ok t
theorem mK.ml {t : hy_T} (h : mK t) : ml_ok t := h.1.1
theorem mK.p2 {t : hy_T} (h : mK t) : mp2_ok t := h.1.2
theorem mK.pal {t : hy_T} (h : mK t) : me_pal t := mp2_pal h.1.2
theorem mK.mg {t : hy_T} (h : mK t) : mg_ok t := h.2.1.1
theorem mK.nl {t : hy_T} (h : mK t) : nl_ok t := h.2.1.2
theorem mK.tr {t : hy_T} (h : mK t) : tr_ok t := h.2.2.1.1
theorem mK.kp {t : hy_T} (h : mK t) : kp_ok t := h.2.2.1.2
theorem mK.mt {t : hy_T} (h : mK t) : mt_ok t := h.2.2.2
abbrev mrP : Nat → Nat → Bool := fun r _ => r == 60 || r == 61
abbrev mrT : Nat → Nat → Bool := fun r j => (decide (85 ≤ r) && decide (r ≤ 90)) || (r == 59 && (j == 1 || j == 2 || j == 34))
abbrev mrK : Nat → Nat → Bool := fun r j => r == 94 || (r == 59 && (j == 54 || j == 55 || j == 56))
abbrev mrM : Nat → Nat → Bool := fun r j => r == 59 && j == 9
theorem mk_p2 {X : Nat → Nat → Bool} {t t1 : hy_T} (h : hy_F X t t1) (hx : frees X mrP) (k : mp2_ok t) : mp2_ok t1 := fun j hj => by
  rw [h 60 j (hx 60 j rfl), h 61 j (hx 61 j rfl)]
  exact k j hj
theorem mk_mg {X : Nat → Nat → Bool} {t t1 : hy_T} (h : hy_F X t t1) (hx : ∀ j, X 63 j = false) (k : mg_ok t) : mg_ok t1 := fun j hj => by
  rw [h 63 j (hx j)]
  exact k j hj
theorem mk_nl {X : Nat → Nat → Bool} {t t1 : hy_T} (h : hy_F X t t1) (hx : ∀ j, X 96 j = false) (k : nl_ok t) : nl_ok t1 := fun j hj => by
  rw [h 96 j (hx j)]
  exact k j hj
theorem mk_tr {X : Nat → Nat → Bool} {t t1 : hy_T} (h : hy_F X t t1) (hx : frees X mrT) (k : tr_ok t) : tr_ok t1 := by
  obtain ⟨h1, h2, h3, h4⟩ := k
  have e34 : t1 59 34 = t 59 34 := h 59 34 (hx 59 34 rfl)
  have e2 : t1 59 2 = t 59 2 := h 59 2 (hx 59 2 rfl)
  have e1 : t1 59 1 = t 59 1 := h 59 1 (hx 59 1 rfl)
  refine ⟨by rw [e34]; exact h1, by rw [e2]; exact h2, by rw [e1]; exact h3, fun i hi => ?_⟩
  rw [e34] at hi
  unfold tr_row
  rw [h 85 i (hx 85 i rfl), h 86 i (hx 86 i rfl), h 87 i (hx 87 i rfl), h 88 i (hx 88 i rfl), h 89 i (hx 89 i rfl), h 90 i (hx 90 i rfl)]
  exact h4 i hi
theorem mk_kp {X : Nat → Nat → Bool} {t t1 : hy_T} (h : hy_F X t t1) (hx : frees X mrK) (k : kp_ok t) : kp_ok t1 := by
  obtain ⟨h1, h2, h3, h4⟩ := k
  have e34 : t1 59 54 = t 59 54 := h 59 54 (hx 59 54 rfl)
  have e2 : t1 59 55 = t 59 55 := h 59 55 (hx 59 55 rfl)
  have e1 : t1 59 56 = t 59 56 := h 59 56 (hx 59 56 rfl)
  refine ⟨by rw [e34]; exact h1, by rw [e2]; exact h2, by rw [e1]; exact h3, fun i hi => ?_⟩
  rw [e34] at hi
  unfold kp_row
  rw [h 94 _ (hx 94 _ rfl), h 94 _ (hx 94 _ rfl), h 94 _ (hx 94 _ rfl), h 94 _ (hx 94 _ rfl), h 94 _ (hx 94 _ rfl), h 94 _ (hx 94 _ rfl)]
  exact h4 i hi
theorem mk_mt {X : Nat → Nat → Bool} {t t1 : hy_T} (h : hy_F X t t1) (hx : X 59 9 = false) (k : mt_ok t) : mt_ok t1 := by
  unfold mt_ok
  rw [h 59 9 hx]
  exact k
abbrev mkA : Nat → Nat → Bool := fun r j => mlawX r j || mrP r j || r == 63 || r == 96 || mrT r j || mrK r j
abbrev mkAll : Nat → Nat → Bool := fun r j => mkA r j || mrM r j
theorem mK_A {X : Nat → Nat → Bool} {t t1 : hy_T} (h : hy_F X t t1) (hx : frees X mkA) (h9 : mt_ok t1) (k : mK t) : mK t1 :=
  ⟨⟨ml_ok_F h (fun r j q => hx r j (by simp only [mkA, q]; simp)) k.ml, mk_p2 h (fun r j q => hx r j (by simp only [mkA, q]; simp)) k.p2⟩, ⟨mk_mg h (fun j => hx 63 j (by simp [mkA])) k.mg, mk_nl h (fun j => hx 96 j (by simp [mkA])) k.nl⟩,
   ⟨mk_tr h (fun r j q => hx r j (by simp only [mkA, q]; simp)) k.tr, mk_kp h (fun r j q => hx r j (by simp only [mkA, q]; simp)) k.kp⟩, h9⟩
theorem mK_F {X : Nat → Nat → Bool} {t t1 : hy_T} (h : hy_F X t t1) (hx : frees X mkAll) (k : mK t) : mK t1 :=
  mK_A h (fun r j q => hx r j (by simp only [mkAll, q]; simp)) (mk_mt h (hx 59 9 rfl) k.mt) k
/-- a colour is told -/
theorem mK_tell {t : hy_T} (k : mK t) {c f s : Int} (h : sp_tellable (t 59 0) c f s = true) : mK (sp_tellM t c f s) ∧ hy_F (fun r j => r == 60 || r == 61 || (r == 59 && j == 0)) t (sp_tellM t c f s) := by
  have F : hy_F (fun r j => r == 60 || r == 61 || (r == 59 && j == 0)) t (sp_tellM t c f s) := by
    unfold sp_tellM
    exact ((hy_F.rf.up rfl).up rfl).up rfl
  refine ⟨⟨⟨ml_ok_F F (fun r j q => by revert q; simp only [mlawX, Bool.or_eq_true, Bool.and_eq_true, beq_iff_eq, Bool.or_eq_false_iff, Bool.and_eq_false_iff, beq_eq_false_iff_ne]; omega) k.ml, ?_⟩, ⟨mk_mg F (fun _ => rfl) k.mg, mk_nl F (fun _ => rfl) k.nl⟩, ⟨mk_tr F (fun r j q => by revert q; simp only [mrT, Bool.or_eq_true, Bool.and_eq_true, decide_eq_true_eq, beq_iff_eq, Bool.or_eq_false_iff, Bool.and_eq_false_iff, beq_eq_false_iff_ne]; omega) k.tr, mk_kp F (fun r j q => by revert q; simp only [mrK, Bool.or_eq_true, Bool.and_eq_true, beq_iff_eq, Bool.or_eq_false_iff, Bool.and_eq_false_iff, beq_eq_false_iff_ne]; omega) k.kp⟩, k.mt⟩, F⟩
  simp only [sp_tellable, sp_told, Bool.and_eq_true, Bool.or_eq_true, decide_eq_true_eq] at h
  have hr : (0 ≤ c ∧ c < 12) ∧ ((f = -1 ∧ s = -1) ∨ ((0 ≤ f ∧ f < c) ∧ 0 ≤ s ∧ s < c)) := by
    refine ⟨h.1.1, ?_⟩
    rcases h.2 with q | q
    · exact .inl q
    · have q1 := q.1.1.1
      have q2 := q.1.2.1
      exact .inr ⟨⟨q1.1, q.2.2.1⟩, q2.1, q.2.2.2⟩
  intro j hj
  obtain ⟨k1, k2⟩ := k.p2 j hj
  have e60 : sp_tellM t c f s 60 j = if j = c.toNat then f else t 60 j := by
    unfold sp_tellM
    rw [hy_up_ne (by decide)]
    simp only [hy_up, true_and]
    split
    · rfl
    · rw [if_neg (by omega)]
  have e61 : sp_tellM t c f s 61 j = if j = c.toNat then s else t 61 j := by
    unfold sp_tellM
    simp only [hy_up, true_and]
    split
    · rfl
    · rw [if_neg (by omega), if_neg (by omega)]
  rw [e60, e61]
  by_cases hc : j = c.toNat
  · rw [if_pos hc, if_pos hc]
    refine ⟨⟨?_, ?_⟩, fun q => ⟨?_, ?_⟩⟩ <;> omega
  · rw [if_neg hc, if_neg hc]
    exact ⟨k1, k2⟩
abbrev kpmX : Nat → Nat → Bool := fun r j => r == 93 || r == 94 || r == 95 || (r == 59 && (j == 54 || j == 55 || j == 56 || j == 57))
theorem mf_keep_v (t : hy_T) : hy_F kpmX t (mf_keep t) ∧ (∀ k i : Nat, k < 16 → i < 6 → mf_keep t 94 (6 * k + i) = t (85 + i) k) ∧ mf_keep t 59 54 = t 59 34 ∧ mf_keep t 59 55 = t 59 2 ∧ mf_keep t 59 56 = t 59 1 ∧ mf_keep t 59 57 = 1 := by
  have h0 : hy_F kpmX t (hy_cp (hy_up t 59 57 1) 62 93 48) := fun r j h => by
    unfold hy_cp
    rw [if_neg (by revert h; simp [kpmX]; omega)]
    simp only [hy_up]
    rw [if_neg (by revert h; simp [kpmX]; omega)]
  have h1 := h0.tr' ((mf_packN_F 94 (hy_cp (hy_up t 59 57 1) 62 93 48) 16).w (fun r j q => by revert q; simp [kpmX]; omega))
  have h2 : hy_F kpmX t (hy_cp (mf_packN 94 (hy_cp (hy_up t 59 57 1) 62 93 48) 16) 64 95 64) := fun r j h => by
    unfold hy_cp
    rw [if_neg (by revert h; simp [kpmX]; omega)]
    exact h1 r j h
  have e57 : hy_cp (mf_packN 94 (hy_cp (hy_up t 59 57 1) 62 93 48) 16) 64 95 64 59 57 = 1 := by
    unfold hy_cp
    rw [if_neg (by decide)]
    rw [mf_packN_F 94 _ 16 59 57 rfl]
    rfl
  have e94 : ∀ k i : Nat, k < 16 → i < 6 → hy_cp (mf_packN 94 (hy_cp (hy_up t 59 57 1) 62 93 48) 16) 64 95 64 94 (6 * k + i) = t (85 + i) k := fun k i hk hi => by
    unfold hy_cp
    rw [if_neg (by omega)]
    rw [mf_packN_v (by omega) _ 16 k i hk hi]
    rw [if_neg (by omega)]
    simp only [hy_up]
    rw [if_neg (by omega)]
  unfold mf_keep mf_set3
  revert h2 e57 e94
  generalize hy_cp (mf_packN 94 (hy_cp (hy_up t 59 57 1) 62 93 48) 16) 64 95 64 = u
  intro h2 e57 e94
  refine ⟨((h2.up rfl).up rfl).up rfl, fun k i hk hi => ?_, ?_, ?_, ?_, ?_⟩
  · rw [hy_up_ne (by decide), hy_up_ne (by decide), hy_up_ne (by decide)]
    exact e94 k i hk hi
  · exact h2 59 34 rfl
  · exact h2 59 2 rfl
  · exact h2 59 1 rfl
  · exact e57
theorem mK_keep {t : hy_T} (k : mK t) : mK (mf_keep t) ∧ hy_F kpmX t (mf_keep t) := by
  obtain ⟨F, v, e1, e2, e3, e4⟩ := mf_keep_v t
  obtain ⟨h1, h2, h3, h4⟩ := k.tr
  refine ⟨⟨⟨ml_ok_F F (fun r j q => by revert q; simp only [mlawX, kpmX, Bool.or_eq_true, Bool.and_eq_true, beq_iff_eq, Bool.or_eq_false_iff, Bool.and_eq_false_iff, beq_eq_false_iff_ne]; omega) k.ml, mk_p2 F (fun r j q => by revert q; simp only [mrP, kpmX, Bool.or_eq_true, beq_iff_eq, Bool.or_eq_false_iff, Bool.and_eq_false_iff, beq_eq_false_iff_ne]; omega) k.p2⟩, ⟨mk_mg F (fun _ => rfl) k.mg, mk_nl F (fun _ => rfl) k.nl⟩,
    ⟨mk_tr F (fun r j q => by revert q; simp only [mrT, kpmX, Bool.or_eq_true, Bool.and_eq_true, decide_eq_true_eq, beq_iff_eq, Bool.or_eq_false_iff, Bool.and_eq_false_iff, beq_eq_false_iff_ne]; omega) k.tr, ⟨by rw [e1]; exact h1, by rw [e2]; exact h2, by rw [e3]; exact h3, fun i hi => ?_⟩⟩, mk_mt F rfl k.mt⟩, F⟩
  rw [e1] at hi
  have hi16 : i < 16 := by omega
  have := h4 i hi
  unfold tr_row at this
  unfold kp_row
  rw [v i 0 hi16 (by decide), v i 1 hi16 (by decide), v i 2 hi16 (by decide), v i 3 hi16 (by decide), v i 4 hi16 (by decide), v i 5 hi16 (by decide)]
  exact this
abbrev udX : Nat → Nat → Bool := fun r j => stX r j || r == 64 || (r == 59 && j == 2)
theorem mf_undo_v (t : hy_T) : hy_F udX t (mf_undo t) ∧ (∀ k i : Nat, k < 16 → i < 6 → mf_undo t (85 + i) k = t 94 (6 * k + i)) ∧ mf_undo t 59 34 = t 59 54 ∧ mf_undo t 59 2 = t 59 55 ∧ mf_undo t 59 1 = t 59 56 := by
  have h0 : hy_F udX t (hy_cp t 93 62 48) := fun r j h => by
    unfold hy_cp
    rw [if_neg (by revert h; simp [udX, stX]; omega)]
  have h1 := h0.tr' ((mf_unpN_F (r := 94) (hy_cp t 93 62 48) 16 (by omega)).w (fun r j q => by revert q; simp [udX, stX, mftX]; omega))
  have h2 : hy_F udX t (hy_cp (mf_unpN 94 (hy_cp t 93 62 48) 16) 95 64 64) := fun r j h => by
    unfold hy_cp
    rw [if_neg (by revert h; simp [udX]; omega)]
    exact h1 r j h
  have ev : ∀ k i : Nat, k < 16 → i < 6 → hy_cp (mf_unpN 94 (hy_cp t 93 62 48) 16) 95 64 64 (85 + i) k = t 94 (6 * k + i) := fun k i hk hi => by
    unfold hy_cp
    rw [if_neg (by omega)]
    rw [mf_unpN_v (by omega) _ 16 k i (by omega) hk hi]
    rw [if_neg (by omega)]
  unfold mf_undo mf_set3
  revert h2 ev
  generalize hy_cp (mf_unpN 94 (hy_cp t 93 62 48) 16) 95 64 64 = u
  intro h2 ev
  refine ⟨((h2.up rfl).up rfl).up rfl, fun k i hk hi => ?_, ?_, ?_, ?_⟩
  · rw [hy_up_ne (by omega), hy_up_ne (by omega), hy_up_ne (by omega)]
    exact ev k i hk hi
  · exact h2 59 54 rfl
  · exact h2 59 55 rfl
  · exact h2 59 56 rfl
theorem mK_undo {t : hy_T} (k : mK t) : mK (mf_undo t) ∧ hy_F udX t (mf_undo t) := by
  obtain ⟨F, v, e1, e2, e3⟩ := mf_undo_v t
  obtain ⟨h1, h2, h3, h4⟩ := k.kp
  refine ⟨⟨⟨ml_ok_F F (fun r j q => by revert q; simp only [mlawX, udX, stX, Bool.or_eq_true, Bool.and_eq_true, decide_eq_true_eq, decide_eq_false_iff_not, beq_iff_eq, Bool.or_eq_false_iff, Bool.and_eq_false_iff, beq_eq_false_iff_ne]; omega) k.ml, mk_p2 F (fun r j q => by revert q; simp only [mrP, udX, stX, Bool.or_eq_true, decide_eq_false_iff_not, beq_iff_eq, Bool.or_eq_false_iff, Bool.and_eq_false_iff, beq_eq_false_iff_ne]; omega) k.p2⟩, ⟨mk_mg F (fun _ => rfl) k.mg, mk_nl F (fun _ => rfl) k.nl⟩,
    ⟨⟨by rw [e1]; exact h1, by rw [e2]; exact h2, by rw [e3]; exact h3, fun i hi => ?_⟩, mk_kp F (fun r j q => by revert q; simp only [mrK, udX, stX, Bool.or_eq_true, Bool.and_eq_true, decide_eq_true_eq, decide_eq_false_iff_not, beq_iff_eq, Bool.or_eq_false_iff, Bool.and_eq_false_iff, beq_eq_false_iff_ne]; omega) k.kp⟩, mk_mt F rfl k.mt⟩, F⟩
  rw [e1] at hi
  have hi16 : i < 16 := by omega
  have := h4 i hi
  unfold kp_row at this
  unfold tr_row
  rw [← v i 0 hi16 (by decide), ← v i 1 hi16 (by decide), ← v i 2 hi16 (by decide), ← v i 3 hi16 (by decide), ← v i 4 hi16 (by decide), ← v i 5 hi16 (by decide)] at this
  exact this
/-! the model: every call ends, keeps all this, and leaves the rest alone -/
abbrev mQ (X : Nat → Nat → Bool) (t : hy_T) : Option Int → hy_T → Prop := fun r t' => (∃ x : Int, r = some x) ∧ mK t' ∧ hy_F X t t'
abbrev feX : Nat → Nat → Bool := fun r j => r == 65 || (r == 59 && j == 9)
abbrev ngX : Nat → Nat → Bool := fun r j => ldrX r j || r == 63
theorem mf_tyN_F (v : Int) : ∀ (m : Nat) (t : hy_T), hy_F feX t (mf_tyN v m t)
  | 0, t => hy_F.rf
  | m + 1, t => by
    have h : hy_F feX t (mf_ty1 t v m) := (hy_F.rf.up rfl).up rfl
    exact h.tr' (mf_tyN_F v m _)
theorem mf_feed_s (t : hy_T) (a b c d e : Int) : hy_F feX t (mf_feed t a b c d e) ∧ mf_feed t a b c d e 59 9 = t 59 9 + 20 := by
  refine ⟨((((mf_tyN_F a 4 t).tr' (mf_tyN_F b 4 _)).tr' (mf_tyN_F c 4 _)).tr' (mf_tyN_F d 4 _)).tr' (mf_tyN_F e 4 _), ?_⟩
  unfold mf_feed
  rw [mf_tyN_l, mf_tyN_l, mf_tyN_l, mf_tyN_l, mf_tyN_l]
  omega
section MO
variable {sc : List Int32} {t : hy_T}
theorem m1 {a b c : Int} (k : mK t) : hy_Ct sc hm_M_have 3 [.inr (some 59), .inl a, .inl b, .inl c] t (mQ (fun r _ => r == 62) t) := c_M_have.mono (fun r t' q => by
  obtain ⟨rfl, rfl⟩ := q
  have F : hy_F (fun r _ => r == 62) t (if mf_have t a b c = true then hy_up t 62 (4 * a + b).toNat c else t) := by
    split
    · exact hy_F.rf.up rfl
    · exact hy_F.rf
  exact ⟨⟨_, rfl⟩, mK_F F (fun r j q => by revert q; simp only [mkAll, mkA, mlawX, mrP, mrT, mrK, mrM, mvX, meX, mlX, mfaX, stX, hvX, pwX, btX, sgX, mlsX, jdX, tdX, dsX, enX, mftX, ldrX, wmX, maX, lwX, lrX, mrX, feX, ngX, Bool.or_eq_true, Bool.and_eq_true, decide_eq_true_eq, decide_eq_false_iff_not, beq_iff_eq, Bool.or_eq_false_iff, Bool.and_eq_false_iff, beq_eq_false_iff_ne]; omega) k, F⟩)
theorem m2 {a b c : Int} (k : mK t) : hy_Ct sc hm_M_owner 1 [.inr (some 59), .inl a, .inl b, .inl c] t (mQ (fun r _ => r == 64) t) := c_M_owner.mono (fun r t' q => by
  obtain ⟨rfl, rfl⟩ := q
  have F : hy_F (fun r _ => r == 64) t (if wf_owner a b c = true then hy_up t 64 (8 * b + a).toNat c else t) := by
    split
    · exact hy_F.rf.up rfl
    · exact hy_F.rf
  exact ⟨⟨_, rfl⟩, mK_F F (fun r j q => by revert q; simp only [mkAll, mkA, mlawX, mrP, mrT, mrK, mrM, mvX, meX, mlX, mfaX, stX, hvX, pwX, btX, sgX, mlsX, jdX, tdX, dsX, enX, mftX, ldrX, wmX, maX, lwX, lrX, mrX, feX, ngX, Bool.or_eq_true, Bool.and_eq_true, decide_eq_true_eq, decide_eq_false_iff_not, beq_iff_eq, Bool.or_eq_false_iff, Bool.and_eq_false_iff, beq_eq_false_iff_ne]; omega) k, F⟩)
theorem m3 {a b c d e : Int} (k : mK t) : hy_Ct sc hm_M_feed 1 [.inr (some 59), .inl a, .inl b, .inl c, .inl d, .inl e] t (fun r t' => mQ feX t r t' ∧ t' = if t 59 9 ≤ 240 then mf_feed t a b c d e else t) := (c_M_feed k.mt).mono (fun r t' q => by
  obtain ⟨rfl, rfl⟩ := q
  refine ⟨⟨⟨_, rfl⟩, ?_⟩, rfl⟩
  obtain ⟨F, e9⟩ := mf_feed_s t a b c d e
  have k9 := k.mt
  split
  · exact ⟨mK_A F (fun r j q => by revert q; simp only [mkAll, mkA, mlawX, mrP, mrT, mrK, mrM, mvX, meX, mlX, mfaX, stX, hvX, pwX, btX, sgX, mlsX, jdX, tdX, dsX, enX, mftX, ldrX, wmX, maX, lwX, lrX, mrX, feX, ngX, Bool.or_eq_true, Bool.and_eq_true, decide_eq_true_eq, decide_eq_false_iff_not, beq_iff_eq, Bool.or_eq_false_iff, Bool.and_eq_false_iff, beq_eq_false_iff_ne]; omega) (by unfold mt_ok; omega) k, F⟩
  · exact ⟨k, hy_F.rf⟩)
theorem mt_0 {t : hy_T} (h : t 59 9 = 0) : mt_ok t := by unfold mt_ok; omega
theorem m4 {n : Int} (k : mK t) : hy_Ct sc hm_M_law 8 [.inr (some 59), .inl n] t (fun r t' => mQ lwX t r t' ∧ t' 59 9 = if al_nc t n then 0 else t 59 9) := (c_M_law k.ml).mono (fun r t' q => by
  obtain ⟨F, k1, q⟩ := q
  have hr : (∃ x : Int, r = some x) ∧ t' 59 9 = (if al_nc t n then 0 else t 59 9) := by
    by_cases hn : al_nc t n
    · rw [if_pos hn] at q ⊢
      revert q
      generalize al_law (al_B t n) n t = G
      intro q
      obtain ⟨q1, q2⟩ := q
      match G, q2 with
      | .inl e, q2 => exact ⟨⟨e, q2.1⟩, q1⟩
      | .inr s, q2 => exact ⟨⟨_, q2.1⟩, q1⟩
    · rw [if_neg hn] at q ⊢
      obtain ⟨rfl, rfl⟩ := q
      exact ⟨⟨_, rfl⟩, rfl⟩
  have h9 : mt_ok t' := by
    have := k.mt
    have e := hr.2
    unfold mt_ok
    split at e <;> omega
  exact ⟨⟨hr.1, ⟨⟨k1, mk_p2 F (fun r j q => by revert q; simp only [mkAll, mkA, mlawX, mrP, mrT, mrK, mrM, mvX, meX, mlX, mfaX, stX, hvX, pwX, btX, sgX, mlsX, jdX, tdX, dsX, enX, mftX, ldrX, wmX, maX, lwX, lrX, mrX, feX, ngX, Bool.or_eq_true, Bool.and_eq_true, decide_eq_true_eq, decide_eq_false_iff_not, beq_iff_eq, Bool.or_eq_false_iff, Bool.and_eq_false_iff, beq_eq_false_iff_ne]; omega) k.p2⟩, ⟨mk_mg F (fun _ => rfl) k.mg, mk_nl F (fun _ => rfl) k.nl⟩, ⟨mk_tr F (fun r j q => by revert q; simp only [mkAll, mkA, mlawX, mrP, mrT, mrK, mrM, mvX, meX, mlX, mfaX, stX, hvX, pwX, btX, sgX, mlsX, jdX, tdX, dsX, enX, mftX, ldrX, wmX, maX, lwX, lrX, mrX, feX, ngX, Bool.or_eq_true, Bool.and_eq_true, decide_eq_true_eq, decide_eq_false_iff_not, beq_iff_eq, Bool.or_eq_false_iff, Bool.and_eq_false_iff, beq_eq_false_iff_ne]; omega) k.tr, mk_kp F (fun r j q => by revert q; simp only [mkAll, mkA, mlawX, mrP, mrT, mrK, mrM, mvX, meX, mlX, mfaX, stX, hvX, pwX, btX, sgX, mlsX, jdX, tdX, dsX, enX, mftX, ldrX, wmX, maX, lwX, lrX, mrX, feX, ngX, Bool.or_eq_true, Bool.and_eq_true, decide_eq_true_eq, decide_eq_false_iff_not, beq_iff_eq, Bool.or_eq_false_iff, Bool.and_eq_false_iff, beq_eq_false_iff_ne]; omega) k.kp⟩, h9⟩, F⟩, hr.2⟩)
theorem m5 {n : Int} (k : mK t) : hy_Ct sc hm_M_land 3 [.inr (some 59), .inl n] t (fun r t' => mQ ngX t r t' ∧ t' 59 9 = if ld_ntc t n then 0 else t 59 9) := (c_M_land k.nl).mono (fun r t' q => by
  obtain ⟨rfl, rfl⟩ := q
  by_cases hn : ld_ntc t n
  · simp only [if_pos hn]
    obtain ⟨a1, a2⟩ := ld_read_s k.nl (n := n) (by omega)
    have z : (ld_read t n).2 59 9 = 0 := rfl
    have F1 : hy_F ngX t (ld_read t n).2 := a2.w (fun r j q => (Bool.or_eq_false_iff.mp q).1)
    have k1 : mK (ld_read t n).2 := ⟨⟨ml_ok_F F1 (fun r j q => by revert q; simp only [mkAll, mkA, mlawX, mrP, mrT, mrK, mrM, mvX, meX, mlX, mfaX, stX, hvX, pwX, btX, sgX, mlsX, jdX, tdX, dsX, enX, mftX, ldrX, wmX, maX, lwX, lrX, mrX, feX, ngX, Bool.or_eq_true, Bool.and_eq_true, decide_eq_true_eq, decide_eq_false_iff_not, beq_iff_eq, Bool.or_eq_false_iff, Bool.and_eq_false_iff, beq_eq_false_iff_ne]; omega) k.ml, mk_p2 F1 (fun r j q => by revert q; simp only [mkAll, mkA, mlawX, mrP, mrT, mrK, mrM, mvX, meX, mlX, mfaX, stX, hvX, pwX, btX, sgX, mlsX, jdX, tdX, dsX, enX, mftX, ldrX, wmX, maX, lwX, lrX, mrX, feX, ngX, Bool.or_eq_true, Bool.and_eq_true, decide_eq_true_eq, decide_eq_false_iff_not, beq_iff_eq, Bool.or_eq_false_iff, Bool.and_eq_false_iff, beq_eq_false_iff_ne]; omega) k.p2⟩, ⟨mk_mg a2 (fun _ => rfl) k.mg, a1⟩, ⟨mk_tr F1 (fun r j q => by revert q; simp only [mkAll, mkA, mlawX, mrP, mrT, mrK, mrM, mvX, meX, mlX, mfaX, stX, hvX, pwX, btX, sgX, mlsX, jdX, tdX, dsX, enX, mftX, ldrX, wmX, maX, lwX, lrX, mrX, feX, ngX, Bool.or_eq_true, Bool.and_eq_true, decide_eq_true_eq, decide_eq_false_iff_not, beq_iff_eq, Bool.or_eq_false_iff, Bool.and_eq_false_iff, beq_eq_false_iff_ne]; omega) k.tr, mk_kp F1 (fun r j q => by revert q; simp only [mkAll, mkA, mlawX, mrP, mrT, mrK, mrM, mvX, meX, mlX, mfaX, stX, hvX, pwX, btX, sgX, mlsX, jdX, tdX, dsX, enX, mftX, ldrX, wmX, maX, lwX, lrX, mrX, feX, ngX, Bool.or_eq_true, Bool.and_eq_true, decide_eq_true_eq, decide_eq_false_iff_not, beq_iff_eq, Bool.or_eq_false_iff, Bool.and_eq_false_iff, beq_eq_false_iff_ne]; omega) k.kp⟩, mt_0 z⟩
    revert a1 a2 z F1 k1
    generalize (ld_read t n).2 = u
    intro a1 a2 z F1 k1
    refine ⟨⟨⟨_, rfl⟩, ?_⟩, ?_⟩
    · split
      · have F2 := ld_cpN_F u 64
        have F3 : hy_F ngX t (ld_cpN u 64) := F1.tr' (F2.w (fun r j q => (Bool.or_eq_false_iff.mp q).2))
        exact ⟨⟨⟨ml_ok_F F2 (fun r j q => by revert q; simp only [mkAll, mkA, mlawX, mrP, mrT, mrK, mrM, mvX, meX, mlX, mfaX, stX, hvX, pwX, btX, sgX, mlsX, jdX, tdX, dsX, enX, mftX, ldrX, wmX, maX, lwX, lrX, mrX, feX, ngX, Bool.or_eq_true, Bool.and_eq_true, decide_eq_true_eq, decide_eq_false_iff_not, beq_iff_eq, Bool.or_eq_false_iff, Bool.and_eq_false_iff, beq_eq_false_iff_ne]; omega) k1.ml, mk_p2 F2 (fun r j q => by revert q; simp only [mkAll, mkA, mlawX, mrP, mrT, mrK, mrM, mvX, meX, mlX, mfaX, stX, hvX, pwX, btX, sgX, mlsX, jdX, tdX, dsX, enX, mftX, ldrX, wmX, maX, lwX, lrX, mrX, feX, ngX, Bool.or_eq_true, Bool.and_eq_true, decide_eq_true_eq, decide_eq_false_iff_not, beq_iff_eq, Bool.or_eq_false_iff, Bool.and_eq_false_iff, beq_eq_false_iff_ne]; omega) k1.p2⟩, ⟨fun f hf => by rw [ld_cpN_v u 64 f, if_pos hf]; exact a1 f hf, mk_nl F2 (fun _ => rfl) k1.nl⟩, ⟨mk_tr F2 (fun r j q => by revert q; simp only [mkAll, mkA, mlawX, mrP, mrT, mrK, mrM, mvX, meX, mlX, mfaX, stX, hvX, pwX, btX, sgX, mlsX, jdX, tdX, dsX, enX, mftX, ldrX, wmX, maX, lwX, lrX, mrX, feX, ngX, Bool.or_eq_true, Bool.and_eq_true, decide_eq_true_eq, decide_eq_false_iff_not, beq_iff_eq, Bool.or_eq_false_iff, Bool.and_eq_false_iff, beq_eq_false_iff_ne]; omega) k1.tr, mk_kp F2 (fun r j q => by revert q; simp only [mkAll, mkA, mlawX, mrP, mrT, mrK, mrM, mvX, meX, mlX, mfaX, stX, hvX, pwX, btX, sgX, mlsX, jdX, tdX, dsX, enX, mftX, ldrX, wmX, maX, lwX, lrX, mrX, feX, ngX, Bool.or_eq_true, Bool.and_eq_true, decide_eq_true_eq, decide_eq_false_iff_not, beq_iff_eq, Bool.or_eq_false_iff, Bool.and_eq_false_iff, beq_eq_false_iff_ne]; omega) k1.kp⟩, mk_mt F2 rfl k1.mt⟩, F3⟩
      · exact ⟨k1, F1⟩
    · split
      · exact (ld_cpN_F u 64 59 9 rfl).trans z
      · exact z
  · simp only [if_neg hn]
    exact ⟨⟨⟨_, rfl⟩, k, hy_F.rf⟩, trivial⟩)
abbrev trsX : Nat → Nat → Bool := fun r j => mlsX r j || stX r j
theorem m6 {n : Int} (k : mK t) : hy_Ct sc hm_M_treaties 5 [.inr (some 59), .inl n] t (fun r t' => mQ trsX t r t' ∧ t' 59 9 = if ml_ntc t n then 0 else t 59 9) := (c_M_treaties k.tr).mono (fun r t' q => by
  obtain ⟨rfl, rfl⟩ := q
  by_cases hn : ml_ntc t n
  · simp only [if_pos hn]
    obtain ⟨a1, a2⟩ := ml_lines_s t (n := n) (by omega)
    have z : (ml_lines t n).2 59 9 = 0 := rfl
    have F1 : hy_F trsX t (ml_lines t n).2 := a2.w (fun r j q => (Bool.or_eq_false_iff.mp q).1)
    have k1 : mK (ml_lines t n).2 := mK_A a2 (fun r j q => by revert q; simp only [mkAll, mkA, mlawX, mrP, mrT, mrK, mrM, mvX, meX, mlX, mfaX, stX, hvX, pwX, btX, sgX, mlsX, jdX, tdX, dsX, enX, mftX, ldrX, wmX, maX, lwX, lrX, mrX, feX, ngX, Bool.or_eq_true, Bool.and_eq_true, decide_eq_true_eq, decide_eq_false_iff_not, beq_iff_eq, Bool.or_eq_false_iff, Bool.and_eq_false_iff, beq_eq_false_iff_ne]; omega) (mt_0 z) k
    revert a1 a2 z F1 k1
    generalize (ml_lines t n).2 = u
    intro a1 a2 z F1 k1
    refine ⟨⟨⟨_, rfl⟩, ?_⟩, ?_⟩
    · split
      · obtain ⟨F2, t2, -, -⟩ := mk_madeN_s a1 k1.tr (u 59 33).toNat (by have := a1.1; omega)
        exact ⟨⟨⟨ml_ok_F F2 (fun r j q => by revert q; simp only [mkAll, mkA, mlawX, mrP, mrT, mrK, mrM, mvX, meX, mlX, mfaX, stX, hvX, pwX, btX, sgX, mlsX, jdX, tdX, dsX, enX, mftX, ldrX, wmX, maX, lwX, lrX, mrX, feX, ngX, Bool.or_eq_true, Bool.and_eq_true, decide_eq_true_eq, decide_eq_false_iff_not, beq_iff_eq, Bool.or_eq_false_iff, Bool.and_eq_false_iff, beq_eq_false_iff_ne]; omega) k1.ml, mk_p2 F2 (fun r j q => by revert q; simp only [mkAll, mkA, mlawX, mrP, mrT, mrK, mrM, mvX, meX, mlX, mfaX, stX, hvX, pwX, btX, sgX, mlsX, jdX, tdX, dsX, enX, mftX, ldrX, wmX, maX, lwX, lrX, mrX, feX, ngX, Bool.or_eq_true, Bool.and_eq_true, decide_eq_true_eq, decide_eq_false_iff_not, beq_iff_eq, Bool.or_eq_false_iff, Bool.and_eq_false_iff, beq_eq_false_iff_ne]; omega) k1.p2⟩, ⟨mk_mg F2 (fun _ => rfl) k1.mg, mk_nl F2 (fun _ => rfl) k1.nl⟩, ⟨t2, mk_kp F2 (fun r j q => by revert q; simp only [mkAll, mkA, mlawX, mrP, mrT, mrK, mrM, mvX, meX, mlX, mfaX, stX, hvX, pwX, btX, sgX, mlsX, jdX, tdX, dsX, enX, mftX, ldrX, wmX, maX, lwX, lrX, mrX, feX, ngX, Bool.or_eq_true, Bool.and_eq_true, decide_eq_true_eq, decide_eq_false_iff_not, beq_iff_eq, Bool.or_eq_false_iff, Bool.and_eq_false_iff, beq_eq_false_iff_ne]; omega) k1.kp⟩, mk_mt F2 rfl k1.mt⟩, F1.tr' (F2.w (fun r j q => (Bool.or_eq_false_iff.mp q).2))⟩
      · exact ⟨k1, F1⟩
    · split
      · obtain ⟨F2, -, -, -⟩ := mk_madeN_s a1 k1.tr (u 59 33).toNat (by have := a1.1; omega)
        exact (F2 59 9 rfl).trans z
      · exact z
  · simp only [if_neg hn]
    exact ⟨⟨⟨_, rfl⟩, k, hy_F.rf⟩, trivial⟩)
theorem m7 {n : Int} (k : mK t) : hy_Ct sc hm_M_judged 5 [.inr (some 59), .inl n] t (fun r t' => mQ jdX t r t' ∧ t' 59 9 = if ml_ntc t n then 0 else t 59 9) := (c_M_judged k.tr).mono (fun r t' q => by
  obtain ⟨e, F, z⟩ := q
  have h9 : mt_ok t' := by
    have := k.mt
    unfold mt_ok
    split at z <;> omega
  exact ⟨⟨⟨_, e⟩, mK_A F (fun r j q => by revert q; simp only [mkAll, mkA, mlawX, mrP, mrT, mrK, mrM, mvX, meX, mlX, mfaX, stX, hvX, pwX, btX, sgX, mlsX, jdX, tdX, dsX, enX, mftX, ldrX, wmX, maX, lwX, lrX, mrX, feX, ngX, Bool.or_eq_true, Bool.and_eq_true, decide_eq_true_eq, decide_eq_false_iff_not, beq_iff_eq, Bool.or_eq_false_iff, Bool.and_eq_false_iff, beq_eq_false_iff_ne]; omega) h9 k, F⟩, z⟩)
abbrev dysX : Nat → Nat → Bool := fun r j => dsX r j || mvX r j
theorem m8 {n : Int} (k : mK t) : hy_Ct sc hm_M_days 6 [.inr (some 59), .inl n] t (mQ dysX t) := (c_M_days k.ml k.tr).mono (fun r t' q => by
  obtain ⟨e, F⟩ := q
  have h : tr_ok (if 1 ≤ n ∧ n ≤ 99 then md_days t n else t) ∧ hy_F dysX t (if 1 ≤ n ∧ n ≤ 99 then md_days t n else t) := by
    split
    · obtain ⟨d1, d2⟩ := md_days_s k.tr n
      exact ⟨d1.1, d2.w (fun r j q => (Bool.or_eq_false_iff.mp q).1)⟩
    · exact ⟨k.tr, hy_F.rf⟩
  have G := h.2.tr' (F.w (fun r j q => (Bool.or_eq_false_iff.mp q).2))
  exact ⟨⟨_, e⟩, ⟨⟨ml_ok_F G (fun r j q => by revert q; simp only [dysX, mlawX, mvX, dsX, enX, hvX, mftX, Bool.or_eq_true, Bool.and_eq_true, decide_eq_true_eq, decide_eq_false_iff_not, beq_iff_eq, Bool.or_eq_false_iff, Bool.and_eq_false_iff, beq_eq_false_iff_ne]; omega) k.ml, mk_p2 G (fun r j q => by revert q; simp only [dysX, mrP, mvX, dsX, enX, hvX, mftX, Bool.or_eq_true, Bool.and_eq_true, decide_eq_true_eq, decide_eq_false_iff_not, beq_iff_eq, Bool.or_eq_false_iff, Bool.and_eq_false_iff, beq_eq_false_iff_ne]; omega) k.p2⟩, ⟨mk_mg G (fun _ => rfl) k.mg, mk_nl G (fun _ => rfl) k.nl⟩, ⟨mk_tr F (fun r j q => by revert q; simp only [mkAll, mkA, mlawX, mrP, mrT, mrK, mrM, mvX, meX, mlX, mfaX, stX, hvX, pwX, btX, sgX, mlsX, jdX, tdX, dsX, enX, mftX, ldrX, wmX, maX, lwX, lrX, mrX, feX, ngX, Bool.or_eq_true, Bool.and_eq_true, decide_eq_true_eq, decide_eq_false_iff_not, beq_iff_eq, Bool.or_eq_false_iff, Bool.and_eq_false_iff, beq_eq_false_iff_ne]; omega) h.1, mk_kp G (fun r j q => by revert q; simp only [dysX, mrK, mvX, dsX, enX, hvX, mftX, Bool.or_eq_true, Bool.and_eq_true, decide_eq_true_eq, decide_eq_false_iff_not, beq_iff_eq, Bool.or_eq_false_iff, Bool.and_eq_false_iff, beq_eq_false_iff_ne]; omega) k.kp⟩, mk_mt G rfl k.mt⟩, G⟩)
theorem m9 {n w : Int} (k : mK t) : hy_Ct sc hm_M_tried 6 [.inr (some 59), .inl n, .inl w] t (mQ tdX t) := (c_M_tried k.ml k.tr).mono (fun r t' q => ⟨⟨_, q.1⟩, mK_F q.2 (fun r j q => by revert q; simp only [mkAll, mkA, mlawX, mrP, mrT, mrK, mrM, mvX, meX, mlX, mfaX, stX, hvX, pwX, btX, sgX, mlsX, jdX, tdX, dsX, enX, mftX, ldrX, wmX, maX, lwX, lrX, mrX, feX, ngX, Bool.or_eq_true, Bool.and_eq_true, decide_eq_true_eq, decide_eq_false_iff_not, beq_iff_eq, Bool.or_eq_false_iff, Bool.and_eq_false_iff, beq_eq_false_iff_ne]; omega) k, q.2⟩)
theorem m10 {n w : Int} (k : mK t) : hy_Ct sc hm_M_treatyIs 1 [.inr (some 59), .inl n, .inl w] t (mQ (fun _ _ => false) t) := (c_M_treatyIs k.tr.1).mono (fun r t' q => by
  obtain ⟨rfl, rfl⟩ := q
  exact ⟨⟨_, rfl⟩, k, hy_F.rf⟩)
theorem m11 {a b c : Int} (k : mK t) : hy_Ct sc hm_M_sees 6 [.inr (some 59), .inl a, .inl b, .inl c] t (mQ mvX t) := (c_M_sees k.ml).mono (fun r t' q => ⟨⟨_, q.1⟩, mK_F q.2 (fun r j q => by revert q; simp only [mkAll, mkA, mlawX, mrP, mrT, mrK, mrM, mvX, meX, mlX, mfaX, stX, hvX, pwX, btX, sgX, mlsX, jdX, tdX, dsX, enX, mftX, ldrX, wmX, maX, lwX, lrX, mrX, feX, ngX, Bool.or_eq_true, Bool.and_eq_true, decide_eq_true_eq, decide_eq_false_iff_not, beq_iff_eq, Bool.or_eq_false_iff, Bool.and_eq_false_iff, beq_eq_false_iff_ne]; omega) k, q.2⟩)
theorem m12 {a b c : Int} (k : mK t) : hy_Ct sc hm_M_appears 7 [.inr (some 59), .inl a, .inl b, .inl c] t (mQ meX t) := (c_M_appears k.ml k.pal).mono (fun r t' q => ⟨⟨_, q.1⟩, mK_F q.2 (fun r j q => by revert q; simp only [mkAll, mkA, mlawX, mrP, mrT, mrK, mrM, mvX, meX, mlX, mfaX, stX, hvX, pwX, btX, sgX, mlsX, jdX, tdX, dsX, enX, mftX, ldrX, wmX, maX, lwX, lrX, mrX, feX, ngX, Bool.or_eq_true, Bool.and_eq_true, decide_eq_true_eq, decide_eq_false_iff_not, beq_iff_eq, Bool.or_eq_false_iff, Bool.and_eq_false_iff, beq_eq_false_iff_ne]; omega) k, q.2⟩)
theorem m13 {a b c d : Int} (k : mK t) : hy_Ct sc hm_M_child 6 [.inr (some 59), .inl a, .inl b, .inl c, .inl d] t (mQ mvX t) := (c_M_child k.ml).mono (fun r t' q => ⟨⟨_, q.1⟩, mK_F q.2 (fun r j q => by revert q; simp only [mkAll, mkA, mlawX, mrP, mrT, mrK, mrM, mvX, meX, mlX, mfaX, stX, hvX, pwX, btX, sgX, mlsX, jdX, tdX, dsX, enX, mftX, ldrX, wmX, maX, lwX, lrX, mrX, feX, ngX, Bool.or_eq_true, Bool.and_eq_true, decide_eq_true_eq, decide_eq_false_iff_not, beq_iff_eq, Bool.or_eq_false_iff, Bool.and_eq_false_iff, beq_eq_false_iff_ne]; omega) k, q.2⟩)
theorem m14 {a b c d e : Int} (k : mK t) : hy_Ct sc hm_M_unseen 7 [.inr (some 59), .inl a, .inl b, .inl c, .inl d, .inl e] t (mQ meX t) := (c_M_unseen k.ml k.pal k.mg).mono (fun r t' q => ⟨⟨_, q.1⟩, mK_F q.2 (fun r j q => by revert q; simp only [mkAll, mkA, mlawX, mrP, mrT, mrK, mrM, mvX, meX, mlX, mfaX, stX, hvX, pwX, btX, sgX, mlsX, jdX, tdX, dsX, enX, mftX, ldrX, wmX, maX, lwX, lrX, mrX, feX, ngX, Bool.or_eq_true, Bool.and_eq_true, decide_eq_true_eq, decide_eq_false_iff_not, beq_iff_eq, Bool.or_eq_false_iff, Bool.and_eq_false_iff, beq_eq_false_iff_ne]; omega) k, q.2⟩)
theorem m15 {a b c d e f : Int} (k : mK t) : hy_Ct sc hm_M_way 7 [.inr (some 59), .inl a, .inl b, .inl c, .inl d, .inl e, .inl f] t (mQ wmX t) := (c_M_way (I := fun _ => True) k.ml k.pal k.mg (fun _ _ => trivial) (fun _ _ _ _ _ _ _ => trivial)).mono (fun r t' q => ⟨⟨_, q.1⟩, mK_F q.2.1 (fun r j q => by revert q; simp only [mkAll, mkA, mlawX, mrP, mrT, mrK, mrM, mvX, meX, mlX, mfaX, stX, hvX, pwX, btX, sgX, mlsX, jdX, tdX, dsX, enX, mftX, ldrX, wmX, maX, lwX, lrX, mrX, feX, ngX, Bool.or_eq_true, Bool.and_eq_true, decide_eq_true_eq, decide_eq_false_iff_not, beq_iff_eq, Bool.or_eq_false_iff, Bool.and_eq_false_iff, beq_eq_false_iff_ne]; omega) k, q.2.1⟩)
theorem m16 {a b : Int} (k : mK t) : hy_Ct sc hm_M_worth 7 [.inr (some 59), .inl a, .inl b] t (mQ mvX t) := (c_M_worth k.ml).mono (fun r t' q => ⟨⟨_, q.1⟩, mK_F q.2 (fun r j q => by revert q; simp only [mkAll, mkA, mlawX, mrP, mrT, mrK, mrM, mvX, meX, mlX, mfaX, stX, hvX, pwX, btX, sgX, mlsX, jdX, tdX, dsX, enX, mftX, ldrX, wmX, maX, lwX, lrX, mrX, feX, ngX, Bool.or_eq_true, Bool.and_eq_true, decide_eq_true_eq, decide_eq_false_iff_not, beq_iff_eq, Bool.or_eq_false_iff, Bool.and_eq_false_iff, beq_eq_false_iff_ne]; omega) k, q.2⟩)
abbrev gnX : Nat → Nat → Bool := fun r j => hvX r j || mvX r j
theorem m17 {a b c : Int} (k : mK t) : hy_Ct sc hm_M_gain 7 [.inr (some 59), .inl a, .inl b, .inl c] t (mQ gnX t) := (c_M_gain k.ml).mono (fun r t' q => by
  obtain ⟨e, F⟩ := q
  have F0 : hy_F gnX t (if ((0 ≤ a ∧ a < 6) ∧ mf_plain t b = true ∧ 0 ≤ c ∧ c < 4) ∧ hz_b (t 62 (4 * b + c).toNat) a = false then mf_chN (mf_chN t b (hz_ishl 1 c) a 1 4) b (hz_ishl 1 c) a 0 4 else t) := by
    split
    · next h =>
      have hp := h.1.2.1
      simp only [mf_plain, Bool.and_eq_true] at hp
      have hb := sp_told_in hp.1
      exact ((mf_chN_F hb t 4 (by decide)).tr' (mf_chN_F hb _ 4 (by decide))).w (fun r j q => (Bool.or_eq_false_iff.mp q).1)
    · exact hy_F.rf
  have G := F0.tr' (F.w (fun r j q => (Bool.or_eq_false_iff.mp q).2))
  exact ⟨⟨_, e⟩, mK_F G (fun r j q => by revert q; simp only [gnX, hvX, mvX, mkAll, mkA, mlawX, mrP, mrT, mrK, mrM, Bool.or_eq_true, Bool.and_eq_true, decide_eq_true_eq, decide_eq_false_iff_not, beq_iff_eq, Bool.or_eq_false_iff, Bool.and_eq_false_iff, beq_eq_false_iff_ne]; omega) k, G⟩)
theorem m18 {a b c d e : Int} (k : mK t) : hy_Ct sc hm_M_power 8 [.inr (some 59), .inl a, .inl b, .inl c, .inl d, .inl e] t (mQ pwX t) := (c_M_power k.ml).mono (fun r t' q => ⟨⟨_, q.1⟩, mK_F q.2 (fun r j q => by revert q; simp only [mkAll, mkA, mlawX, mrP, mrT, mrK, mrM, mvX, meX, mlX, mfaX, stX, hvX, pwX, btX, sgX, mlsX, jdX, tdX, dsX, enX, mftX, ldrX, wmX, maX, lwX, lrX, mrX, feX, ngX, Bool.or_eq_true, Bool.and_eq_true, decide_eq_true_eq, decide_eq_false_iff_not, beq_iff_eq, Bool.or_eq_false_iff, Bool.and_eq_false_iff, beq_eq_false_iff_ne]; omega) k, q.2⟩)
theorem m19 {a b c d e : Int} (k : mK t) : hy_Ct sc hm_M_signals 8 [.inr (some 59), .inl a, .inl b, .inl c, .inl d, .inl e] t (mQ sgX t) := (c_M_signals k.ml k.pal).mono (fun r t' q => ⟨⟨_, q.1⟩, mK_F q.2.1 (fun r j q => by revert q; simp only [mkAll, mkA, mlawX, mrP, mrT, mrK, mrM, mvX, meX, mlX, mfaX, stX, hvX, pwX, btX, sgX, mlsX, jdX, tdX, dsX, enX, mftX, ldrX, wmX, maX, lwX, lrX, mrX, feX, ngX, Bool.or_eq_true, Bool.and_eq_true, decide_eq_true_eq, decide_eq_false_iff_not, beq_iff_eq, Bool.or_eq_false_iff, Bool.and_eq_false_iff, beq_eq_false_iff_ne]; omega) k, q.2.1⟩)
abbrev t9X : Nat → Nat → Bool := fun r j => r == 59 && j == 9
theorem mt_0u {t : hy_T} : mt_ok (hy_up t 59 9 0) := mt_0 rfl
theorem m20 {m w : Int} (k : mK t) : hy_Ct sc hm_M_parted 2 [.inr (some 59), .inl m, .inl w] t (fun r t' => mQ t9X t r t' ∧ t' = if mf_ptc t m w then hy_up t 59 9 0 else t) := (c_M_parted k.mt).mono (fun r t' q => by
  obtain ⟨x, rfl⟩ := q
  refine ⟨⟨x, ?_⟩, rfl⟩
  have F : hy_F t9X t (hy_up t 59 9 0) := hy_F.rf.up rfl
  split
  · exact ⟨mK_A F (fun r j q => by revert q; simp only [t9X, mkA, mlawX, mrP, mrT, mrK, Bool.or_eq_true, Bool.and_eq_true, decide_eq_true_eq, beq_iff_eq, Bool.and_eq_false_iff, beq_eq_false_iff_ne]; omega) mt_0u k, F⟩
  · exact ⟨k, hy_F.rf⟩)
theorem m21 {a b c d : Int} (k : mK t) : hy_Ct sc hm_M_battle 8 [.inr (some 59), .inl a, .inl b, .inl c, .inl d] t (mQ btX t) := (c_M_battle k.ml).mono (fun r t' q => ⟨⟨_, q.1⟩, mK_F q.2.1 (fun r j q => by revert q; simp only [mkAll, mkA, mlawX, mrP, mrT, mrK, mrM, mvX, meX, mlX, mfaX, stX, hvX, pwX, btX, sgX, mlsX, jdX, tdX, dsX, enX, mftX, ldrX, wmX, maX, lwX, lrX, mrX, feX, ngX, Bool.or_eq_true, Bool.and_eq_true, decide_eq_true_eq, decide_eq_false_iff_not, beq_iff_eq, Bool.or_eq_false_iff, Bool.and_eq_false_iff, beq_eq_false_iff_ne]; omega) k, q.2.1⟩)
abbrev spmX : Nat → Nat → Bool := fun r j => t9X r j || meX r j
theorem m22 {n w : Int} (k : mK t) : hy_Ct sc hm_M_spies 9 [.inr (some 59), .inl n, .inl w] t (fun r t' => mQ spmX t r t' ∧ t' 59 9 = if ms_spc t n w then 0 else t 59 9) := (c_M_spies k.ml k.pal k.mt).mono (fun r t' q => by
  obtain ⟨e, F⟩ := q
  have h : hy_F t9X t (if ms_spc t n w then hy_up t 59 9 0 else t) ∧ (if ms_spc t n w then hy_up t 59 9 0 else t) 59 9 = if ms_spc t n w then 0 else t 59 9 := by
    split
    · exact ⟨hy_F.rf.up rfl, rfl⟩
    · exact ⟨hy_F.rf, rfl⟩
  have G : hy_F spmX t t' := (h.1.w (fun r j q => (Bool.or_eq_false_iff.mp q).1)).tr' (F.w (fun r j q => (Bool.or_eq_false_iff.mp q).2))
  have z := (F 59 9 rfl).trans h.2
  have h9 : mt_ok t' := by
    have := k.mt
    unfold mt_ok
    split at z <;> omega
  exact ⟨⟨⟨_, e⟩, mK_A G (fun r j q => by revert q; simp only [spmX, t9X, meX, mkA, mlawX, mrP, mrT, mrK, Bool.or_eq_true, Bool.and_eq_true, decide_eq_true_eq, beq_iff_eq, Bool.or_eq_false_iff, Bool.and_eq_false_iff, beq_eq_false_iff_ne]; omega) h9 k, G⟩, z⟩)
theorem m23 {a b : Int} (k : mK t) : hy_Ct sc hm_M_painting 6 [.inr (some 59), .inl a, .inl b] t (mQ mvX t) := (c_M_painting k.ml).mono (fun r t' q => ⟨⟨_, q.1⟩, mK_F q.2 (fun r j q => by revert q; simp only [mkAll, mkA, mlawX, mrP, mrT, mrK, mrM, mvX, meX, mlX, mfaX, stX, hvX, pwX, btX, sgX, mlsX, jdX, tdX, dsX, enX, mftX, ldrX, wmX, maX, lwX, lrX, mrX, feX, ngX, Bool.or_eq_true, Bool.and_eq_true, decide_eq_true_eq, decide_eq_false_iff_not, beq_iff_eq, Bool.or_eq_false_iff, Bool.and_eq_false_iff, beq_eq_false_iff_ne]; omega) k, q.2⟩)
theorem m24 {a b c : Int} (k : mK t) : hy_Ct sc hm_M_ash 7 [.inr (some 59), .inl a, .inl b, .inl c] t (mQ maX t) := (c_M_ash k.ml k.pal k.mg).mono (fun r t' q => ⟨⟨_, q.1⟩, mK_F q.2.1 (fun r j q => by revert q; simp only [mkAll, mkA, mlawX, mrP, mrT, mrK, mrM, mvX, meX, mlX, mfaX, stX, hvX, pwX, btX, sgX, mlsX, jdX, tdX, dsX, enX, mftX, ldrX, wmX, maX, lwX, lrX, mrX, feX, ngX, Bool.or_eq_true, Bool.and_eq_true, decide_eq_true_eq, decide_eq_false_iff_not, beq_iff_eq, Bool.or_eq_false_iff, Bool.and_eq_false_iff, beq_eq_false_iff_ne]; omega) k, q.2.1⟩)
theorem m25 {a : Int} (k : mK t) : hy_Ct sc hm_M_seed 1 [.inr (some 59), .inl a] t (mQ (fun r j => r == 59 && j == 1) t) := c_M_seed.mono (fun r t' q => by
  obtain ⟨rfl, rfl⟩ := q
  refine ⟨⟨_, rfl⟩, ?_⟩
  have F : hy_F (fun r j => r == 59 && j == 1) t (hy_up t 59 1 a) := hy_F.rf.up rfl
  split
  · next h =>
    have tr : tr_ok (hy_up t 59 1 a) := ⟨k.tr.1, k.tr.2.1, of_decide_eq_true h, fun i hi => k.tr.2.2.2 i hi⟩
    exact ⟨⟨⟨ml_ok_F F (fun r j q => by revert q; simp only [mkAll, mkA, mlawX, mrP, mrT, mrK, mrM, mvX, meX, mlX, mfaX, stX, hvX, pwX, btX, sgX, mlsX, jdX, tdX, dsX, enX, mftX, ldrX, wmX, maX, lwX, lrX, mrX, feX, ngX, Bool.or_eq_true, Bool.and_eq_true, decide_eq_true_eq, decide_eq_false_iff_not, beq_iff_eq, Bool.or_eq_false_iff, Bool.and_eq_false_iff, beq_eq_false_iff_ne]; omega) k.ml, mk_p2 F (fun r j q => by revert q; simp only [mkAll, mkA, mlawX, mrP, mrT, mrK, mrM, mvX, meX, mlX, mfaX, stX, hvX, pwX, btX, sgX, mlsX, jdX, tdX, dsX, enX, mftX, ldrX, wmX, maX, lwX, lrX, mrX, feX, ngX, Bool.or_eq_true, Bool.and_eq_true, decide_eq_true_eq, decide_eq_false_iff_not, beq_iff_eq, Bool.or_eq_false_iff, Bool.and_eq_false_iff, beq_eq_false_iff_ne]; omega) k.p2⟩, ⟨mk_mg F (fun _ => rfl) k.mg, mk_nl F (fun _ => rfl) k.nl⟩, ⟨tr, mk_kp F (fun r j q => by revert q; simp only [mkAll, mkA, mlawX, mrP, mrT, mrK, mrM, mvX, meX, mlX, mfaX, stX, hvX, pwX, btX, sgX, mlsX, jdX, tdX, dsX, enX, mftX, ldrX, wmX, maX, lwX, lrX, mrX, feX, ngX, Bool.or_eq_true, Bool.and_eq_true, decide_eq_true_eq, decide_eq_false_iff_not, beq_iff_eq, Bool.or_eq_false_iff, Bool.and_eq_false_iff, beq_eq_false_iff_ne]; omega) k.kp⟩, k.mt⟩, F⟩
  · exact ⟨k, hy_F.rf⟩)
theorem m26 (k : mK t) : hy_Ct sc hm_M_keep 1 [.inr (some 59)] t (fun r t' => mQ kpmX t r t' ∧ r = some (t 59 34) ∧ t' = mf_keep t) := c_M_keep.mono (fun r t' q => by
  obtain ⟨rfl, rfl⟩ := q
  obtain ⟨F, v, e1, e2, e3, e4⟩ := mf_keep_v t
  exact ⟨⟨⟨_, rfl⟩, mK_keep k⟩, congrArg some (F 59 34 rfl), rfl⟩)
theorem m27 (k : mK t) : hy_Ct sc hm_M_undo 1 [.inr (some 59)] t (fun r t' => mQ udX t r t' ∧ r = some (if t 59 57 = 0 then 0 else 1) ∧ t' = if t 59 57 = 0 then t else mf_undo t) := c_M_undo.mono (fun r t' q => by
  obtain ⟨rfl, rfl⟩ := q
  refine ⟨⟨⟨_, rfl⟩, ?_⟩, rfl, rfl⟩
  split
  · exact ⟨k, hy_F.rf⟩
  · exact mK_undo k)
theorem m28 {n : Int} (k : mK t) : hy_Ct sc hm_M_check 1 [.inr (some 59), .inl n] t (fun r t' => mQ t9X t r t' ∧ r = some (if (0 ≤ n ∧ n ≤ 8) ∧ 4 * n ≤ t 59 9 then mf_checkN t n.toNat 0 else -2) ∧ t' = if (0 ≤ n ∧ n ≤ 8) ∧ 4 * n ≤ t 59 9 then hy_up t 59 9 0 else t) := (c_M_check k.mt).mono (fun r t' q => by
  obtain ⟨rfl, rfl⟩ := q
  refine ⟨⟨⟨_, rfl⟩, ?_⟩, rfl, rfl⟩
  have F : hy_F t9X t (hy_up t 59 9 0) := hy_F.rf.up rfl
  split
  · exact ⟨mK_A F (fun r j q => by revert q; simp only [t9X, mkA, mlawX, mrP, mrT, mrK, Bool.or_eq_true, Bool.and_eq_true, decide_eq_true_eq, beq_iff_eq, Bool.and_eq_false_iff, beq_eq_false_iff_ne]; omega) mt_0u k, F⟩
  · exact ⟨k, hy_F.rf⟩)
theorem m29 {w : Int} (k : mK t) : hy_Ct sc hm_M_count 4 [.inr (some 59), .inl w] t (fun r t' => mQ (fun _ _ => false) t r t' ∧ r = some (mf_count t w) ∧ t' = t) := (c_M_count (fun j hj => (k.p2 j hj).1)).mono (fun r t' q => by
  obtain ⟨rfl, rfl⟩ := q
  exact ⟨⟨⟨_, rfl⟩, k, hy_F.rf⟩, rfl, rfl⟩)
end MO
