/-! contracts with the answers -/
section EXT
variable {sc : List Int32} {t : hy_T}
theorem k1y {a b c : Int} (k : cK t) : hy_Ct sc hm_W_have 3 [.inr (some 2), .inl a, .inl b, .inl c] t (fun r t' => (cQ (fun r _ => r == 34) t) r t' ∧ (r = some (hy_b (wf_have t a b c)) ∧ t' = if wf_have t a b c = true then sp_setH 33 t a b c else t)) := c_W_have.mono (fun r t' q => ⟨show (cQ (fun r _ => r == 34) t) r t' from by
  obtain ⟨rfl, rfl⟩ := q
  have F : hy_F (fun r _ => r == 34) t (if wf_have t a b c = true then sp_setH 33 t a b c else t) := by
    split
    · unfold sp_setH
      split
      · exact hy_F.rf.up rfl
      · exact hy_F.rf
    · exact hy_F.rf
  exact ⟨⟨_, rfl⟩, cK_F F (fun r j q => by revert q; simp only [ckX, ckT, lawX, ckN, ckS, ckP, eX, lX, pX, fX, snX, brX, wyX, paX, trX, asX, gdX, lnX, lkX, lpX, lwcX, tyX, jyX, mkX, dzX, cpX, taX, glX, Bool.or_eq_true, Bool.and_eq_true, beq_iff_eq, Bool.or_eq_false_iff, Bool.and_eq_false_iff, beq_eq_false_iff_ne]; omega) k, F⟩, q⟩)
theorem k8y {n : Int} (k : cK t) : hy_Ct sc hm_W_days 6 [.inr (some 2), .inl n] t (fun r t' => (cQ dgX t) r t' ∧ (if 1 ≤ n ∧ n ≤ 99 then r = some (t 33 3 - sp_days 33 t n 33 3) ∧ hy_F eX (sp_days 33 t n) t' else r = some (-1) ∧ t' = t)) := (c_W_days k.s1 k.lc).mono (fun r t' q => ⟨show (cQ dgX t) r t' from by
  by_cases hq : 1 ≤ n ∧ n ≤ 99
  · rw [if_pos hq] at q
    obtain ⟨rfl, F⟩ := q
    obtain ⟨s1, F1, -⟩ := sp_days_s 33 k.s1 n
    have G : hy_F dgX t t' := (F1.w (fun r j q => (Bool.or_eq_false_iff.mp q).1)).tr' (F.w (fun r j q => (Bool.or_eq_false_iff.mp q).2))
    exact ⟨⟨_, rfl⟩, cK_st1 G (fun r j q => by revert q; simp only [dgX, ckT, lawX, ckN, ckS, ckP, eX, dzX, Bool.or_eq_true, Bool.and_eq_true, beq_iff_eq, Bool.or_eq_false_iff, Bool.and_eq_false_iff, beq_eq_false_iff_ne]; omega) (st_ok_E (by decide) F s1) k, G⟩
  · rw [if_neg hq] at q
    obtain ⟨rfl, rfl⟩ := q
    exact ⟨⟨_, rfl⟩, k, hy_F.rf⟩, q⟩)
theorem k9y {n w : Int} (k : cK t) : hy_Ct sc hm_W_tried 6 [.inr (some 2), .inl n, .inl w] t (fun r t' => (cQ trX t) r t' ∧ (r = some (wf_tried t n w))) := (c_W_tried k.s1 k.lc).mono (fun r t' q => ⟨show (cQ trX t) r t' from ⟨⟨_, q.1⟩, cK_F q.2 (fun r j q => by revert q; simp only [ckX, ckT, lawX, ckN, ckS, ckP, eX, lX, pX, fX, snX, brX, wyX, paX, trX, asX, gdX, lnX, lkX, lpX, lwcX, tyX, jyX, mkX, dzX, cpX, taX, glX, Bool.or_eq_true, Bool.and_eq_true, beq_iff_eq, Bool.or_eq_false_iff, Bool.and_eq_false_iff, beq_eq_false_iff_ne]; omega) k, q.2⟩, q.1⟩)
theorem k10y {n w : Int} (k : cK t) : hy_Ct sc hm_W_treatyIs 2 [.inr (some 2), .inl n, .inl w] t (fun r t' => (cQ (fun _ _ => false) t) r t' ∧ (r = some (if (0 ≤ n ∧ n < t 33 3) ∧ 0 ≤ w ∧ w < 6 then t 36 (6 * n + w).toNat else -1))) := (c_W_treatyIs k.s1.c).mono (fun r t' q => ⟨show (cQ (fun _ _ => false) t) r t' from by
  obtain ⟨rfl, rfl⟩ := q
  exact ⟨⟨_, rfl⟩, k, hy_F.rf⟩, q.1⟩)
theorem k11y {a b c : Int} (k : cK t) : hy_Ct sc hm_W_sees 5 [.inr (some 2), .inl a, .inl b, .inl c] t (fun r t' => (cQ eX t) r t' ∧ (r = some (wf_sees t a b c))) := (c_W_sees k.lc).mono (fun r t' q => ⟨show (cQ eX t) r t' from ⟨⟨_, q.1⟩, cK_F q.2 (fun r j q => by revert q; simp only [ckX, ckT, lawX, ckN, ckS, ckP, eX, lX, pX, fX, snX, brX, wyX, paX, trX, asX, gdX, lnX, lkX, lpX, lwcX, tyX, jyX, mkX, dzX, cpX, taX, glX, Bool.or_eq_true, Bool.and_eq_true, beq_iff_eq, Bool.or_eq_false_iff, Bool.and_eq_false_iff, beq_eq_false_iff_ne]; omega) k, q.2⟩, q.1⟩)
theorem k12y {a b c : Int} (k : cK t) : hy_Ct sc hm_W_appears 5 [.inr (some 2), .inl a, .inl b, .inl c] t (fun r t' => (cQ lX t) r t' ∧ (r = some (wf_appears t a b c))) := (c_W_appears k.lc).mono (fun r t' q => ⟨show (cQ lX t) r t' from ⟨⟨_, q.1⟩, cK_F q.2 (fun r j q => by revert q; simp only [ckX, ckT, lawX, ckN, ckS, ckP, eX, lX, pX, fX, snX, brX, wyX, paX, trX, asX, gdX, lnX, lkX, lpX, lwcX, tyX, jyX, mkX, dzX, cpX, taX, glX, Bool.or_eq_true, Bool.and_eq_true, beq_iff_eq, Bool.or_eq_false_iff, Bool.and_eq_false_iff, beq_eq_false_iff_ne]; omega) k, q.2⟩, q.1⟩)
theorem k13y {a b c d : Int} (k : cK t) : hy_Ct sc hm_W_child 6 [.inr (some 2), .inl a, .inl b, .inl c, .inl d] t (fun r t' => (cQ eX t) r t' ∧ (r = some (wf_child t a b c d))) := (c_W_child k.lc).mono (fun r t' q => ⟨show (cQ eX t) r t' from ⟨⟨_, q.1⟩, cK_F q.2 (fun r j q => by revert q; simp only [ckX, ckT, lawX, ckN, ckS, ckP, eX, lX, pX, fX, snX, brX, wyX, paX, trX, asX, gdX, lnX, lkX, lpX, lwcX, tyX, jyX, mkX, dzX, cpX, taX, glX, Bool.or_eq_true, Bool.and_eq_true, beq_iff_eq, Bool.or_eq_false_iff, Bool.and_eq_false_iff, beq_eq_false_iff_ne]; omega) k, q.2⟩, q.1⟩)
theorem k14y {a b c d e : Int} (k : cK t) : hy_Ct sc hm_W_unseen 5 [.inr (some 2), .inl a, .inl b, .inl c, .inl d, .inl e] t (fun r t' => (cQ lX t) r t' ∧ (r = some (wf_unseen t a b c d e))) := (c_W_unseen k.lc).mono (fun r t' q => ⟨show (cQ lX t) r t' from ⟨⟨_, q.1⟩, cK_F q.2 (fun r j q => by revert q; simp only [ckX, ckT, lawX, ckN, ckS, ckP, eX, lX, pX, fX, snX, brX, wyX, paX, trX, asX, gdX, lnX, lkX, lpX, lwcX, tyX, jyX, mkX, dzX, cpX, taX, glX, Bool.or_eq_true, Bool.and_eq_true, beq_iff_eq, Bool.or_eq_false_iff, Bool.and_eq_false_iff, beq_eq_false_iff_ne]; omega) k, q.2⟩, q.1⟩)
theorem k16y {a b : Int} (k : cK t) : hy_Ct sc hm_W_worth 6 [.inr (some 2), .inl a, .inl b] t (fun r t' => (cQ pX t) r t' ∧ (r = some (wf_worth t a b))) := (c_W_worth k.lc).mono (fun r t' q => ⟨show (cQ pX t) r t' from ⟨⟨_, q.1⟩, cK_F q.2 (fun r j q => by revert q; simp only [ckX, ckT, lawX, ckN, ckS, ckP, eX, lX, pX, fX, snX, brX, wyX, paX, trX, asX, gdX, lnX, lkX, lpX, lwcX, tyX, jyX, mkX, dzX, cpX, taX, glX, Bool.or_eq_true, Bool.and_eq_true, beq_iff_eq, Bool.or_eq_false_iff, Bool.and_eq_false_iff, beq_eq_false_iff_ne]; omega) k, q.2⟩, q.1⟩)
theorem k19y {a b c d e : Int} (k : cK t) : hy_Ct sc hm_W_signals 6 [.inr (some 2), .inl a, .inl b, .inl c, .inl d, .inl e] t (fun r t' => (cQ snX t) r t' ∧ (r = some (wf_signals t a b c d e))) := (c_W_signals k.lc).mono (fun r t' q => ⟨show (cQ snX t) r t' from ⟨⟨_, q.1⟩, cK_F q.2 (fun r j q => by revert q; simp only [ckX, ckT, lawX, ckN, ckS, ckP, eX, lX, pX, fX, snX, brX, wyX, paX, trX, asX, gdX, lnX, lkX, lpX, lwcX, tyX, jyX, mkX, dzX, cpX, taX, glX, Bool.or_eq_true, Bool.and_eq_true, beq_iff_eq, Bool.or_eq_false_iff, Bool.and_eq_false_iff, beq_eq_false_iff_ne]; omega) k, q.2⟩, q.1⟩)
theorem k23y {a b : Int} (k : cK t) : hy_Ct sc hm_W_painting 5 [.inr (some 2), .inl a, .inl b] t (fun r t' => (cQ eX t) r t' ∧ (r = some (wf_painting t a b))) := (c_W_painting k.lc).mono (fun r t' q => ⟨show (cQ eX t) r t' from ⟨⟨_, q.1⟩, cK_F q.2 (fun r j q => by revert q; simp only [ckX, ckT, lawX, ckN, ckS, ckP, eX, lX, pX, fX, snX, brX, wyX, paX, trX, asX, gdX, lnX, lkX, lpX, lwcX, tyX, jyX, mkX, dzX, cpX, taX, glX, t1X, spX, Bool.or_eq_true, Bool.and_eq_true, beq_iff_eq, Bool.or_eq_false_iff, Bool.and_eq_false_iff, beq_eq_false_iff_ne]; omega) k, q.2⟩, q.1⟩)
theorem k25y {a : Int} (k : cK t) : hy_Ct sc hm_W_seed 1 [.inr (some 2), .inl a] t (fun r t' => (cQ (fun r j => r == 33 && j == 5) t) r t' ∧ (r = some (hy_b (wf_seed a)) ∧ t' = if wf_seed a = true then hy_up t 33 5 a else t)) := c_W_seed.mono (fun r t' q => ⟨show (cQ (fun r j => r == 33 && j == 5) t) r t' from by
  obtain ⟨rfl, rfl⟩ := q
  have F : hy_F (fun r j => r == 33 && j == 5) t (if wf_seed a = true then hy_up t 33 5 a else t) := by
    split
    · exact hy_F.rf.up rfl
    · exact hy_F.rf
  have s1 : st_ok 33 (if wf_seed a = true then hy_up t 33 5 a else t) := by
    split
    · next h => exact ⟨k.s1.c, k.s1.d, of_decide_eq_true h, k.s1.t⟩
    · exact k.s1
  exact ⟨⟨_, rfl⟩, cK_st1 F (fun r j q => by revert q; simp only [ckX, ckT, lawX, ckN, ckS, ckP, eX, lX, pX, fX, snX, brX, wyX, paX, trX, asX, gdX, lnX, lkX, lpX, lwcX, tyX, jyX, mkX, dzX, cpX, taX, glX, t1X, spX, Bool.or_eq_true, Bool.and_eq_true, beq_iff_eq, Bool.or_eq_false_iff, Bool.and_eq_false_iff, beq_eq_false_iff_ne]; omega) s1 k, F⟩, q⟩)
theorem m1y {a b c : Int} (k : mK t) : hy_Ct sc hm_M_have 3 [.inr (some 59), .inl a, .inl b, .inl c] t (fun r t' => (mQ (fun r _ => r == 62) t) r t' ∧ (r = some (hy_b (mf_have t a b c)) ∧ t' = if mf_have t a b c = true then hy_up t 62 (4 * a + b).toNat c else t)) := c_M_have.mono (fun r t' q => ⟨show (mQ (fun r _ => r == 62) t) r t' from by
  obtain ⟨rfl, rfl⟩ := q
  have F : hy_F (fun r _ => r == 62) t (if mf_have t a b c = true then hy_up t 62 (4 * a + b).toNat c else t) := by
    split
    · exact hy_F.rf.up rfl
    · exact hy_F.rf
  exact ⟨⟨_, rfl⟩, mK_F F (fun r j q => by revert q; simp only [mkAll, mkA, mlawX, mrP, mrT, mrK, mrM, mvX, meX, mlX, mfaX, stX, hvX, pwX, btX, sgX, mlsX, jdX, tdX, dsX, enX, mftX, ldrX, wmX, maX, lwX, lrX, mrX, feX, ngX, Bool.or_eq_true, Bool.and_eq_true, decide_eq_true_eq, decide_eq_false_iff_not, beq_iff_eq, Bool.or_eq_false_iff, Bool.and_eq_false_iff, beq_eq_false_iff_ne]; omega) k, F⟩, q⟩)
theorem m4y {n : Int} (k : mK t) : hy_Ct sc hm_M_law 8 [.inr (some 59), .inl n] t (fun r t' => mQ lwX t r t' ∧ (t' 59 9 = if al_nc t n then 0 else t 59 9) ∧ (if al_nc t n then al_Q t (al_law (al_B t n) n t) r t' else r = some (-1) ∧ t' = t)) := (c_M_law k.ml).mono (fun r t' q => (fun z => ⟨z.1, z.2, q.2.2⟩) (show (fun r t' => mQ lwX t r t' ∧ t' 59 9 = if al_nc t n then 0 else t 59 9) r t' from by
  obtain ⟨F, k1, q⟩ := q
  have hr : (∃ x : Int, r = some x) ∧ t' 59 9 = (if al_nc t n then 0 else t 59 9) := by
    by_cases hn : al_nc t n
    · rw [if_pos hn] at q ⊢
      revert q
      generalize al_law (al_B t n) n t = G
      intro q
      obtain ⟨q1, q2⟩ := q
      match G, q2 with
      | .inl e, q2 => exact ⟨⟨e, q2.1⟩, q1⟩
      | .inr s, q2 => exact ⟨⟨_, q2.1⟩, q1⟩
    · rw [if_neg hn] at q ⊢
      obtain ⟨rfl, rfl⟩ := q
      exact ⟨⟨_, rfl⟩, rfl⟩
  have h9 : mt_ok t' := by
    have := k.mt
    have e := hr.2
    unfold mt_ok
    split at e <;> omega
  exact ⟨⟨hr.1, ⟨⟨k1, mk_p2 F (fun r j q => by revert q; simp only [mkAll, mkA, mlawX, mrP, mrT, mrK, mrM, mvX, meX, mlX, mfaX, stX, hvX, pwX, btX, sgX, mlsX, jdX, tdX, dsX, enX, mftX, ldrX, wmX, maX, lwX, lrX, mrX, feX, ngX, Bool.or_eq_true, Bool.and_eq_true, decide_eq_true_eq, decide_eq_false_iff_not, beq_iff_eq, Bool.or_eq_false_iff, Bool.and_eq_false_iff, beq_eq_false_iff_ne]; omega) k.p2⟩, ⟨mk_mg F (fun _ => rfl) k.mg, mk_nl F (fun _ => rfl) k.nl⟩, ⟨mk_tr F (fun r j q => by revert q; simp only [mkAll, mkA, mlawX, mrP, mrT, mrK, mrM, mvX, meX, mlX, mfaX, stX, hvX, pwX, btX, sgX, mlsX, jdX, tdX, dsX, enX, mftX, ldrX, wmX, maX, lwX, lrX, mrX, feX, ngX, Bool.or_eq_true, Bool.and_eq_true, decide_eq_true_eq, decide_eq_false_iff_not, beq_iff_eq, Bool.or_eq_false_iff, Bool.and_eq_false_iff, beq_eq_false_iff_ne]; omega) k.tr, mk_kp F (fun r j q => by revert q; simp only [mkAll, mkA, mlawX, mrP, mrT, mrK, mrM, mvX, meX, mlX, mfaX, stX, hvX, pwX, btX, sgX, mlsX, jdX, tdX, dsX, enX, mftX, ldrX, wmX, maX, lwX, lrX, mrX, feX, ngX, Bool.or_eq_true, Bool.and_eq_true, decide_eq_true_eq, decide_eq_false_iff_not, beq_iff_eq, Bool.or_eq_false_iff, Bool.and_eq_false_iff, beq_eq_false_iff_ne]; omega) k.kp⟩, h9⟩, F⟩, hr.2⟩))
theorem m6y {n : Int} (k : mK t) : hy_Ct sc hm_M_treaties 5 [.inr (some 59), .inl n] t (fun r t' => mQ trsX t r t' ∧ (t' 59 9 = if ml_ntc t n then 0 else t 59 9) ∧ (r = some (if ml_ntc t n then (if (ml_lines t n).1 = true then (mk_madeN (ml_lines t n).2 ((ml_lines t n).2 59 33).toNat).1 else (ml_lines t n).2 59 12) else -1) ∧ t' = if ml_ntc t n then (if (ml_lines t n).1 = true then (mk_madeN (ml_lines t n).2 ((ml_lines t n).2 59 33).toNat).2 else (ml_lines t n).2) else t)) := (c_M_treaties k.tr).mono (fun r t' q => (fun z => ⟨z.1, z.2, q⟩) (show (fun r t' => mQ trsX t r t' ∧ t' 59 9 = if ml_ntc t n then 0 else t 59 9) r t' from by
  obtain ⟨rfl, rfl⟩ := q
  by_cases hn : ml_ntc t n
  · simp only [if_pos hn]
    obtain ⟨a1, a2⟩ := ml_lines_s t (n := n) (by omega)
    have z : (ml_lines t n).2 59 9 = 0 := rfl
    have F1 : hy_F trsX t (ml_lines t n).2 := a2.w (fun r j q => (Bool.or_eq_false_iff.mp q).1)
    have k1 : mK (ml_lines t n).2 := mK_A a2 (fun r j q => by revert q; simp only [mkAll, mkA, mlawX, mrP, mrT, mrK, mrM, mvX, meX, mlX, mfaX, stX, hvX, pwX, btX, sgX, mlsX, jdX, tdX, dsX, enX, mftX, ldrX, wmX, maX, lwX, lrX, mrX, feX, ngX, Bool.or_eq_true, Bool.and_eq_true, decide_eq_true_eq, decide_eq_false_iff_not, beq_iff_eq, Bool.or_eq_false_iff, Bool.and_eq_false_iff, beq_eq_false_iff_ne]; omega) (mt_0 z) k
    revert a1 a2 z F1 k1
    generalize (ml_lines t n).2 = u
    intro a1 a2 z F1 k1
    refine ⟨⟨⟨_, rfl⟩, ?_⟩, ?_⟩
    · split
      · obtain ⟨F2, t2, -, -⟩ := mk_madeN_s a1 k1.tr (u 59 33).toNat (by have := a1.1; omega)
        exact ⟨⟨⟨ml_ok_F F2 (fun r j q => by revert q; simp only [mkAll, mkA, mlawX, mrP, mrT, mrK, mrM, mvX, meX, mlX, mfaX, stX, hvX, pwX, btX, sgX, mlsX, jdX, tdX, dsX, enX, mftX, ldrX, wmX, maX, lwX, lrX, mrX, feX, ngX, Bool.or_eq_true, Bool.and_eq_true, decide_eq_true_eq, decide_eq_false_iff_not, beq_iff_eq, Bool.or_eq_false_iff, Bool.and_eq_false_iff, beq_eq_false_iff_ne]; omega) k1.ml, mk_p2 F2 (fun r j q => by revert q; simp only [mkAll, mkA, mlawX, mrP, mrT, mrK, mrM, mvX, meX, mlX, mfaX, stX, hvX, pwX, btX, sgX, mlsX, jdX, tdX, dsX, enX, mftX, ldrX, wmX, maX, lwX, lrX, mrX, feX, ngX, Bool.or_eq_true, Bool.and_eq_true, decide_eq_true_eq, decide_eq_false_iff_not, beq_iff_eq, Bool.or_eq_false_iff, Bool.and_eq_false_iff, beq_eq_false_iff_ne]; omega) k1.p2⟩, ⟨mk_mg F2 (fun _ => rfl) k1.mg, mk_nl F2 (fun _ => rfl) k1.nl⟩, ⟨t2, mk_kp F2 (fun r j q => by revert q; simp only [mkAll, mkA, mlawX, mrP, mrT, mrK, mrM, mvX, meX, mlX, mfaX, stX, hvX, pwX, btX, sgX, mlsX, jdX, tdX, dsX, enX, mftX, ldrX, wmX, maX, lwX, lrX, mrX, feX, ngX, Bool.or_eq_true, Bool.and_eq_true, decide_eq_true_eq, decide_eq_false_iff_not, beq_iff_eq, Bool.or_eq_false_iff, Bool.and_eq_false_iff, beq_eq_false_iff_ne]; omega) k1.kp⟩, mk_mt F2 rfl k1.mt⟩, F1.tr' (F2.w (fun r j q => (Bool.or_eq_false_iff.mp q).2))⟩
      · exact ⟨k1, F1⟩
    · split
      · obtain ⟨F2, -, -, -⟩ := mk_madeN_s a1 k1.tr (u 59 33).toNat (by have := a1.1; omega)
        exact (F2 59 9 rfl).trans z
      · exact z
  · simp only [if_neg hn]
    exact ⟨⟨⟨_, rfl⟩, k, hy_F.rf⟩, trivial⟩))
theorem m7y {n : Int} (k : mK t) : hy_Ct sc hm_M_judged 5 [.inr (some 59), .inl n] t (fun r t' => mQ jdX t r t' ∧ (t' 59 9 = if ml_ntc t n then 0 else t 59 9) ∧ (r = some (if ml_ntc t n then (if (ml_lines t n).1 = true then ((mk_jd (ml_lines t n).2).1 : Int) else (ml_lines t n).2 59 12) else -1))) := (c_M_judged k.tr).mono (fun r t' q => (fun z => ⟨z.1, z.2, q.1⟩) (show (fun r t' => mQ jdX t r t' ∧ t' 59 9 = if ml_ntc t n then 0 else t 59 9) r t' from by
  obtain ⟨e, F, z⟩ := q
  have h9 : mt_ok t' := by
    have := k.mt
    unfold mt_ok
    split at z <;> omega
  exact ⟨⟨⟨_, e⟩, mK_A F (fun r j q => by revert q; simp only [mkAll, mkA, mlawX, mrP, mrT, mrK, mrM, mvX, meX, mlX, mfaX, stX, hvX, pwX, btX, sgX, mlsX, jdX, tdX, dsX, enX, mftX, ldrX, wmX, maX, lwX, lrX, mrX, feX, ngX, Bool.or_eq_true, Bool.and_eq_true, decide_eq_true_eq, decide_eq_false_iff_not, beq_iff_eq, Bool.or_eq_false_iff, Bool.and_eq_false_iff, beq_eq_false_iff_ne]; omega) h9 k, F⟩, z⟩))
theorem m8y {n : Int} (k : mK t) : hy_Ct sc hm_M_days 6 [.inr (some 59), .inl n] t (fun r t' => (mQ dysX t) r t' ∧ (r = some (if 1 ≤ n ∧ n ≤ 99 then md_days t n 59 58 else -1) ∧ hy_F mvX (if 1 ≤ n ∧ n ≤ 99 then md_days t n else t) t')) := (c_M_days k.ml k.tr).mono (fun r t' q => ⟨show (mQ dysX t) r t' from by
  obtain ⟨e, F⟩ := q
  have h : tr_ok (if 1 ≤ n ∧ n ≤ 99 then md_days t n else t) ∧ hy_F dysX t (if 1 ≤ n ∧ n ≤ 99 then md_days t n else t) := by
    split
    · obtain ⟨d1, d2⟩ := md_days_s k.tr n
      exact ⟨d1.1, d2.w (fun r j q => (Bool.or_eq_false_iff.mp q).1)⟩
    · exact ⟨k.tr, hy_F.rf⟩
  have G := h.2.tr' (F.w (fun r j q => (Bool.or_eq_false_iff.mp q).2))
  exact ⟨⟨_, e⟩, ⟨⟨ml_ok_F G (fun r j q => by revert q; simp only [dysX, mlawX, mvX, dsX, enX, hvX, mftX, Bool.or_eq_true, Bool.and_eq_true, decide_eq_true_eq, decide_eq_false_iff_not, beq_iff_eq, Bool.or_eq_false_iff, Bool.and_eq_false_iff, beq_eq_false_iff_ne]; omega) k.ml, mk_p2 G (fun r j q => by revert q; simp only [dysX, mrP, mvX, dsX, enX, hvX, mftX, Bool.or_eq_true, Bool.and_eq_true, decide_eq_true_eq, decide_eq_false_iff_not, beq_iff_eq, Bool.or_eq_false_iff, Bool.and_eq_false_iff, beq_eq_false_iff_ne]; omega) k.p2⟩, ⟨mk_mg G (fun _ => rfl) k.mg, mk_nl G (fun _ => rfl) k.nl⟩, ⟨mk_tr F (fun r j q => by revert q; simp only [mkAll, mkA, mlawX, mrP, mrT, mrK, mrM, mvX, meX, mlX, mfaX, stX, hvX, pwX, btX, sgX, mlsX, jdX, tdX, dsX, enX, mftX, ldrX, wmX, maX, lwX, lrX, mrX, feX, ngX, Bool.or_eq_true, Bool.and_eq_true, decide_eq_true_eq, decide_eq_false_iff_not, beq_iff_eq, Bool.or_eq_false_iff, Bool.and_eq_false_iff, beq_eq_false_iff_ne]; omega) h.1, mk_kp G (fun r j q => by revert q; simp only [dysX, mrK, mvX, dsX, enX, hvX, mftX, Bool.or_eq_true, Bool.and_eq_true, decide_eq_true_eq, decide_eq_false_iff_not, beq_iff_eq, Bool.or_eq_false_iff, Bool.and_eq_false_iff, beq_eq_false_iff_ne]; omega) k.kp⟩, mk_mt G rfl k.mt⟩, G⟩, q⟩)
theorem m9y {n w : Int} (k : mK t) : hy_Ct sc hm_M_tried 6 [.inr (some 59), .inl n, .inl w] t (fun r t' => (mQ tdX t) r t' ∧ (r = some (if md_trc t n w then md_tried (md_days (mf_begins t) n) w else -1))) := (c_M_tried k.ml k.tr).mono (fun r t' q => ⟨show (mQ tdX t) r t' from ⟨⟨_, q.1⟩, mK_F q.2 (fun r j q => by revert q; simp only [mkAll, mkA, mlawX, mrP, mrT, mrK, mrM, mvX, meX, mlX, mfaX, stX, hvX, pwX, btX, sgX, mlsX, jdX, tdX, dsX, enX, mftX, ldrX, wmX, maX, lwX, lrX, mrX, feX, ngX, Bool.or_eq_true, Bool.and_eq_true, decide_eq_true_eq, decide_eq_false_iff_not, beq_iff_eq, Bool.or_eq_false_iff, Bool.and_eq_false_iff, beq_eq_false_iff_ne]; omega) k, q.2⟩, q.1⟩)
theorem m10y {n w : Int} (k : mK t) : hy_Ct sc hm_M_treatyIs 1 [.inr (some 59), .inl n, .inl w] t (fun r t' => (mQ (fun _ _ => false) t) r t' ∧ (r = some (if (0 ≤ n ∧ n < t 59 34) ∧ 0 ≤ w ∧ w < 6 then t (85 + w.toNat) n.toNat else -1))) := (c_M_treatyIs k.tr.1).mono (fun r t' q => ⟨show (mQ (fun _ _ => false) t) r t' from by
  obtain ⟨rfl, rfl⟩ := q
  exact ⟨⟨_, rfl⟩, k, hy_F.rf⟩, q.1⟩)
theorem m11y {a b c : Int} (k : mK t) : hy_Ct sc hm_M_sees 6 [.inr (some 59), .inl a, .inl b, .inl c] t (fun r t' => (mQ mvX t) r t' ∧ (r = some (if mq_ecq t a b c then hy_b (hz_b (mq_seenN t a c 12) b) else -1))) := (c_M_sees k.ml).mono (fun r t' q => ⟨show (mQ mvX t) r t' from ⟨⟨_, q.1⟩, mK_F q.2 (fun r j q => by revert q; simp only [mkAll, mkA, mlawX, mrP, mrT, mrK, mrM, mvX, meX, mlX, mfaX, stX, hvX, pwX, btX, sgX, mlsX, jdX, tdX, dsX, enX, mftX, ldrX, wmX, maX, lwX, lrX, mrX, feX, ngX, Bool.or_eq_true, Bool.and_eq_true, decide_eq_true_eq, decide_eq_false_iff_not, beq_iff_eq, Bool.or_eq_false_iff, Bool.and_eq_false_iff, beq_eq_false_iff_ne]; omega) k, q.2⟩, q.1⟩)
theorem m12y {a b c : Int} (k : mK t) : hy_Ct sc hm_M_appears 7 [.inr (some 59), .inl a, .inl b, .inl c] t (fun r t' => (mQ meX t) r t' ∧ (r = some (if (0 ≤ a ∧ a < 6) ∧ (b = 12 ∨ sp_told (t 59 0) b = true) ∧ 0 ≤ c ∧ c < 4 then mq_as t a c b.toNat else -1))) := (c_M_appears k.ml k.pal).mono (fun r t' q => ⟨show (mQ meX t) r t' from ⟨⟨_, q.1⟩, mK_F q.2 (fun r j q => by revert q; simp only [mkAll, mkA, mlawX, mrP, mrT, mrK, mrM, mvX, meX, mlX, mfaX, stX, hvX, pwX, btX, sgX, mlsX, jdX, tdX, dsX, enX, mftX, ldrX, wmX, maX, lwX, lrX, mrX, feX, ngX, Bool.or_eq_true, Bool.and_eq_true, decide_eq_true_eq, decide_eq_false_iff_not, beq_iff_eq, Bool.or_eq_false_iff, Bool.and_eq_false_iff, beq_eq_false_iff_ne]; omega) k, q.2⟩, q.1⟩)
theorem m13y {a b c d : Int} (k : mK t) : hy_Ct sc hm_M_child 6 [.inr (some 59), .inl a, .inl b, .inl c, .inl d] t (fun r t' => (mQ mvX t) r t' ∧ (r = some (if (0 ≤ a ∧ a < 6) ∧ mq_ecq t b c d then hy_b (mq_child t a b c d) else -1))) := (c_M_child k.ml).mono (fun r t' q => ⟨show (mQ mvX t) r t' from ⟨⟨_, q.1⟩, mK_F q.2 (fun r j q => by revert q; simp only [mkAll, mkA, mlawX, mrP, mrT, mrK, mrM, mvX, meX, mlX, mfaX, stX, hvX, pwX, btX, sgX, mlsX, jdX, tdX, dsX, enX, mftX, ldrX, wmX, maX, lwX, lrX, mrX, feX, ngX, Bool.or_eq_true, Bool.and_eq_true, decide_eq_true_eq, decide_eq_false_iff_not, beq_iff_eq, Bool.or_eq_false_iff, Bool.and_eq_false_iff, beq_eq_false_iff_ne]; omega) k, q.2⟩, q.1⟩)
theorem m14y {a b c d e : Int} (k : mK t) : hy_Ct sc hm_M_unseen 7 [.inr (some 59), .inl a, .inl b, .inl c, .inl d, .inl e] t (fun r t' => (mQ meX t) r t' ∧ (r = some (if ((0 ≤ a ∧ a < 8) ∧ 0 ≤ b ∧ b < 8) ∧ mq_ecq t d c e then hy_b (decide (mq_as t d e (t 63 (8 * b + a).toNat).toNat = mq_as t d e c.toNat)) else -1))) := (c_M_unseen k.ml k.pal k.mg).mono (fun r t' q => ⟨show (mQ meX t) r t' from ⟨⟨_, q.1⟩, mK_F q.2 (fun r j q => by revert q; simp only [mkAll, mkA, mlawX, mrP, mrT, mrK, mrM, mvX, meX, mlX, mfaX, stX, hvX, pwX, btX, sgX, mlsX, jdX, tdX, dsX, enX, mftX, ldrX, wmX, maX, lwX, lrX, mrX, feX, ngX, Bool.or_eq_true, Bool.and_eq_true, decide_eq_true_eq, decide_eq_false_iff_not, beq_iff_eq, Bool.or_eq_false_iff, Bool.and_eq_false_iff, beq_eq_false_iff_ne]; omega) k, q.2⟩, q.1⟩)
theorem m16y {a b : Int} (k : mK t) : hy_Ct sc hm_M_worth 7 [.inr (some 59), .inl a, .inl b] t (fun r t' => (mQ mvX t) r t' ∧ (r = some (if (0 ≤ a ∧ a < 6) ∧ 0 ≤ b ∧ b < 4 then mw_worth t a b else -1))) := (c_M_worth k.ml).mono (fun r t' q => ⟨show (mQ mvX t) r t' from ⟨⟨_, q.1⟩, mK_F q.2 (fun r j q => by revert q; simp only [mkAll, mkA, mlawX, mrP, mrT, mrK, mrM, mvX, meX, mlX, mfaX, stX, hvX, pwX, btX, sgX, mlsX, jdX, tdX, dsX, enX, mftX, ldrX, wmX, maX, lwX, lrX, mrX, feX, ngX, Bool.or_eq_true, Bool.and_eq_true, decide_eq_true_eq, decide_eq_false_iff_not, beq_iff_eq, Bool.or_eq_false_iff, Bool.and_eq_false_iff, beq_eq_false_iff_ne]; omega) k, q.2⟩, q.1⟩)
theorem m17y {a b c : Int} (k : mK t) : hy_Ct sc hm_M_gain 7 [.inr (some 59), .inl a, .inl b, .inl c] t (fun r t' => (mQ gnX t) r t' ∧ (r = some (if ((0 ≤ a ∧ a < 6) ∧ mf_plain t b = true ∧ 0 ≤ c ∧ c < 4) ∧ hz_b (t 62 (4 * b + c).toNat) a = false then mw_worth (mf_chN t b (hz_ishl 1 c) a 1 4) a c - mw_worth t a c else -1000000000) ∧ hy_F mvX (if ((0 ≤ a ∧ a < 6) ∧ mf_plain t b = true ∧ 0 ≤ c ∧ c < 4) ∧ hz_b (t 62 (4 * b + c).toNat) a = false then mf_chN (mf_chN t b (hz_ishl 1 c) a 1 4) b (hz_ishl 1 c) a 0 4 else t) t')) := (c_M_gain k.ml).mono (fun r t' q => ⟨show (mQ gnX t) r t' from by
  obtain ⟨e, F⟩ := q
  have F0 : hy_F gnX t (if ((0 ≤ a ∧ a < 6) ∧ mf_plain t b = true ∧ 0 ≤ c ∧ c < 4) ∧ hz_b (t 62 (4 * b + c).toNat) a = false then mf_chN (mf_chN t b (hz_ishl 1 c) a 1 4) b (hz_ishl 1 c) a 0 4 else t) := by
    split
    · next h =>
      have hp := h.1.2.1
      simp only [mf_plain, Bool.and_eq_true] at hp
      have hb := sp_told_in hp.1
      exact ((mf_chN_F hb t 4 (by decide)).tr' (mf_chN_F hb _ 4 (by decide))).w (fun r j q => (Bool.or_eq_false_iff.mp q).1)
    · exact hy_F.rf
  have G := F0.tr' (F.w (fun r j q => (Bool.or_eq_false_iff.mp q).2))
  exact ⟨⟨_, e⟩, mK_F G (fun r j q => by revert q; simp only [gnX, hvX, mvX, mkAll, mkA, mlawX, mrP, mrT, mrK, mrM, Bool.or_eq_true, Bool.and_eq_true, decide_eq_true_eq, decide_eq_false_iff_not, beq_iff_eq, Bool.or_eq_false_iff, Bool.and_eq_false_iff, beq_eq_false_iff_ne]; omega) k, G⟩, q⟩)
theorem m23y {a b : Int} (k : mK t) : hy_Ct sc hm_M_painting 6 [.inr (some 59), .inl a, .inl b] t (fun r t' => (mQ mvX t) r t' ∧ (r = some (if (0 ≤ a ∧ a ≤ 4095) ∧ hz_iand a (hz_ixor (t 59 0) (-1)) = 0 ∧ 0 ≤ b ∧ b ≤ 2 then mq_ptA (mq_ptN t a 24) b else -1))) := (c_M_painting k.ml).mono (fun r t' q => ⟨show (mQ mvX t) r t' from ⟨⟨_, q.1⟩, mK_F q.2 (fun r j q => by revert q; simp only [mkAll, mkA, mlawX, mrP, mrT, mrK, mrM, mvX, meX, mlX, mfaX, stX, hvX, pwX, btX, sgX, mlsX, jdX, tdX, dsX, enX, mftX, ldrX, wmX, maX, lwX, lrX, mrX, feX, ngX, Bool.or_eq_true, Bool.and_eq_true, decide_eq_true_eq, decide_eq_false_iff_not, beq_iff_eq, Bool.or_eq_false_iff, Bool.and_eq_false_iff, beq_eq_false_iff_ne]; omega) k, q.2⟩, q.1⟩)
theorem m25y {a : Int} (k : mK t) : hy_Ct sc hm_M_seed 1 [.inr (some 59), .inl a] t (fun r t' => (mQ (fun r j => r == 59 && j == 1) t) r t' ∧ (r = some (hy_b (wf_seed a)) ∧ t' = if wf_seed a = true then hy_up t 59 1 a else t)) := c_M_seed.mono (fun r t' q => ⟨show (mQ (fun r j => r == 59 && j == 1) t) r t' from by
  obtain ⟨rfl, rfl⟩ := q
  refine ⟨⟨_, rfl⟩, ?_⟩
  have F : hy_F (fun r j => r == 59 && j == 1) t (hy_up t 59 1 a) := hy_F.rf.up rfl
  split
  · next h =>
    have tr : tr_ok (hy_up t 59 1 a) := ⟨k.tr.1, k.tr.2.1, of_decide_eq_true h, fun i hi => k.tr.2.2.2 i hi⟩
    exact ⟨⟨⟨ml_ok_F F (fun r j q => by revert q; simp only [mkAll, mkA, mlawX, mrP, mrT, mrK, mrM, mvX, meX, mlX, mfaX, stX, hvX, pwX, btX, sgX, mlsX, jdX, tdX, dsX, enX, mftX, ldrX, wmX, maX, lwX, lrX, mrX, feX, ngX, Bool.or_eq_true, Bool.and_eq_true, decide_eq_true_eq, decide_eq_false_iff_not, beq_iff_eq, Bool.or_eq_false_iff, Bool.and_eq_false_iff, beq_eq_false_iff_ne]; omega) k.ml, mk_p2 F (fun r j q => by revert q; simp only [mkAll, mkA, mlawX, mrP, mrT, mrK, mrM, mvX, meX, mlX, mfaX, stX, hvX, pwX, btX, sgX, mlsX, jdX, tdX, dsX, enX, mftX, ldrX, wmX, maX, lwX, lrX, mrX, feX, ngX, Bool.or_eq_true, Bool.and_eq_true, decide_eq_true_eq, decide_eq_false_iff_not, beq_iff_eq, Bool.or_eq_false_iff, Bool.and_eq_false_iff, beq_eq_false_iff_ne]; omega) k.p2⟩, ⟨mk_mg F (fun _ => rfl) k.mg, mk_nl F (fun _ => rfl) k.nl⟩, ⟨tr, mk_kp F (fun r j q => by revert q; simp only [mkAll, mkA, mlawX, mrP, mrT, mrK, mrM, mvX, meX, mlX, mfaX, stX, hvX, pwX, btX, sgX, mlsX, jdX, tdX, dsX, enX, mftX, ldrX, wmX, maX, lwX, lrX, mrX, feX, ngX, Bool.or_eq_true, Bool.and_eq_true, decide_eq_true_eq, decide_eq_false_iff_not, beq_iff_eq, Bool.or_eq_false_iff, Bool.and_eq_false_iff, beq_eq_false_iff_ne]; omega) k.kp⟩, k.mt⟩, F⟩
  · exact ⟨k, hy_F.rf⟩, q⟩)
theorem k6y {n : Int} (k : cK t) : hy_Ct sc hm_W_treaties 5 [.inr (some 2), .inl n] t (fun r t' => cQ (tyX 33) t r t' ∧ (t' 3 1 = if 1 ≤ n ∧ n ≤ 120 ∧ n ≤ t 3 1 then 0 else t 3 1) ∧ (r = some (wf_tr t n).1 ∧ t' = (wf_tr t n).2)) := (c_W_treaties_x k.tp k.ln k.s1).mono (fun r t' q => (fun z => ⟨z.1, z.2, q.1⟩) (show (fun r t' => cQ (tyX 33) t r t' ∧ t' 3 1 = if 1 ≤ n ∧ n ≤ 120 ∧ n ≤ t 3 1 then 0 else t 3 1) r t' from by
  obtain ⟨⟨x0, -⟩, F, s1, ln, tp, z⟩ := q
  have x : ∃ x : Int, r = some x := ⟨_, x0⟩
  exact ⟨⟨x, ⟨⟨⟨tp, ck_lc F (fun r j q => by revert q; simp only [ckX, ckT, lawX, ckN, ckS, ckP, eX, lX, pX, fX, snX, brX, wyX, paX, trX, asX, gdX, lnX, lkX, lpX, lwcX, tyX, jyX, mkX, dzX, cpX, taX, glX, Bool.or_eq_true, Bool.and_eq_true, beq_iff_eq, Bool.or_eq_false_iff, Bool.and_eq_false_iff, beq_eq_false_iff_ne]; omega) k.lc⟩, da_F F (fun _ => rfl) k.da, ln⟩, ⟨s1, ck_st F (fun r j q => by revert q; simp only [ckX, ckT, lawX, ckN, ckS, ckP, eX, lX, pX, fX, snX, brX, wyX, paX, trX, asX, gdX, lnX, lkX, lpX, lwcX, tyX, jyX, mkX, dzX, cpX, taX, glX, Bool.or_eq_true, Bool.and_eq_true, beq_iff_eq, Bool.or_eq_false_iff, Bool.and_eq_false_iff, beq_eq_false_iff_ne]; omega) k.s2⟩, pa_stk_F F (fun _ => rfl) k.sk, ck_pr F (fun r j q => by revert q; simp only [ckX, ckT, lawX, ckN, ckS, ckP, eX, lX, pX, fX, snX, brX, wyX, paX, trX, asX, gdX, lnX, lkX, lpX, lwcX, tyX, jyX, mkX, dzX, cpX, taX, glX, Bool.or_eq_true, Bool.and_eq_true, beq_iff_eq, Bool.or_eq_false_iff, Bool.and_eq_false_iff, beq_eq_false_iff_ne]; omega) k.pr⟩, F⟩, z⟩))
theorem k7y {n : Int} (k : cK t) : hy_Ct sc hm_W_judged 5 [.inr (some 2), .inl n] t (fun r t' => cQ jyX t r t' ∧ (t' 3 1 = if 1 ≤ n ∧ n ≤ 120 ∧ n ≤ t 3 1 then 0 else t 3 1) ∧ (r = some (wf_jd t n))) := (c_W_judged_x k.tp k.ln k.s1).mono (fun r t' q => (fun z => ⟨z.1, z.2, q.1⟩) (show (fun r t' => cQ jyX t r t' ∧ t' 3 1 = if 1 ≤ n ∧ n ≤ 120 ∧ n ≤ t 3 1 then 0 else t 3 1) r t' from by
  obtain ⟨x0, F, ln, tp, z⟩ := q
  have x : ∃ x : Int, r = some x := ⟨_, x0⟩
  exact ⟨⟨x, ⟨⟨⟨tp, ck_lc F (fun r j q => by revert q; simp only [ckX, ckT, lawX, ckN, ckS, ckP, eX, lX, pX, fX, snX, brX, wyX, paX, trX, asX, gdX, lnX, lkX, lpX, lwcX, tyX, jyX, mkX, dzX, cpX, taX, glX, Bool.or_eq_true, Bool.and_eq_true, beq_iff_eq, Bool.or_eq_false_iff, Bool.and_eq_false_iff, beq_eq_false_iff_ne]; omega) k.lc⟩, da_F F (fun _ => rfl) k.da, ln⟩, ⟨ck_st F (fun r j q => by revert q; simp only [ckX, ckT, lawX, ckN, ckS, ckP, eX, lX, pX, fX, snX, brX, wyX, paX, trX, asX, gdX, lnX, lkX, lpX, lwcX, tyX, jyX, mkX, dzX, cpX, taX, glX, Bool.or_eq_true, Bool.and_eq_true, beq_iff_eq, Bool.or_eq_false_iff, Bool.and_eq_false_iff, beq_eq_false_iff_ne]; omega) k.s1, ck_st F (fun r j q => by revert q; simp only [ckX, ckT, lawX, ckN, ckS, ckP, eX, lX, pX, fX, snX, brX, wyX, paX, trX, asX, gdX, lnX, lkX, lpX, lwcX, tyX, jyX, mkX, dzX, cpX, taX, glX, Bool.or_eq_true, Bool.and_eq_true, beq_iff_eq, Bool.or_eq_false_iff, Bool.and_eq_false_iff, beq_eq_false_iff_ne]; omega) k.s2⟩, pa_stk_F F (fun _ => rfl) k.sk, ck_pr F (fun r j q => by revert q; simp only [ckX, ckT, lawX, ckN, ckS, ckP, eX, lX, pX, fX, snX, brX, wyX, paX, trX, asX, gdX, lnX, lkX, lpX, lwcX, tyX, jyX, mkX, dzX, cpX, taX, glX, Bool.or_eq_true, Bool.and_eq_true, beq_iff_eq, Bool.or_eq_false_iff, Bool.and_eq_false_iff, beq_eq_false_iff_ne]; omega) k.pr⟩, F⟩, z⟩))
end EXT
/-! the full relation at first, and a colour that is told -/
section FX
variable {sc : List Int32} {t : hy_T}
theorem fr_0 : fr t0 := ⟨⟨⟨rfl, fun j hj => (show (0 : Int) = hz_iand 0 255 by decide)⟩, p3_rel0, fun c hc hm => by
    have e : hz_b (t0 5 3) c = false := hz_b_0 c
    rw [e] at hm
    cases hm⟩, ⟨⟨fun j hj => (show (12 : Int) = 12 from rfl), fun j hj => (show (0 : Int) = 0 from rfl)⟩, ⟨rfl, (show (0 : Int) ≤ 0 by decide), (show (0 : Int) ≤ 16 by decide)⟩, fun i hi => absurd hi (show ¬ (i : Int) < 0 by omega)⟩,
  ⟨⟨⟨⟨rfl, (show (0 : Int) ≤ 0 by decide), (show (0 : Int) ≤ 16 by decide)⟩, rfl, rfl⟩, fun j hj => (show (0 : Int) = 0 from rfl), fun i w hi hw => absurd hi (show ¬ (i : Int) < 0 by omega)⟩, ⟨fun j hj => ⟨(show (0 : Int) ≤ 0 ∧ (0 : Int) ≤ 63 by decide), fun _ => (show (0 : Int) = 0 from rfl)⟩, fun i hi => absurd hi (show ¬ (i : Int) < 0 by omega)⟩, fun j hj => (show (6 : Int) = 6 from rfl)⟩, rfl, fun q => absurd (show t0 2 9 = 0 from rfl) q⟩
theorem fr_col {a b c : Int} (h : ci_I fr t) : (hy_Ct sc hm_W_colour 3 [.inr (some 2), .inl a, .inl b, .inl c] t (fun r t1 => ∃ v : Int, r = some v ∧ (t1 = if sp_tellable (t 5 2) a b c = true then sp_tellC t a b c else t))) ∧ ∀ (v : Int) (t1 : hy_T), (t1 = if sp_tellable (t 5 2) a b c = true then sp_tellC t a b c else t) → hy_Ct sc hm_M_colour 2 [.inr (some 59), .inl a, .inl b, .inl c] t1 (fun r t2 => ∃ v2 : Int, r = some v2 ∧ ci_I fr t2) := by
  obtain ⟨k, m, hr⟩ := h
  have e : t 5 2 = t 59 0 := hr.1.2.1.1.1
  refine ⟨c_W_colour.mono (fun r t' q => ⟨_, q.1, q.2⟩), fun v t1 e1 => c_M_colour.mono (fun r t2 q => ?_)⟩
  obtain ⟨rfl, e2⟩ := q
  refine ⟨_, rfl, ?_⟩
  by_cases hq : sp_tellable (t 5 2) a b c = true
  · rw [if_pos hq] at e1
    obtain ⟨k1, F⟩ := cK_tell k hq
    rw [← e1] at k1 F
    have e0 : t1 59 0 = t 5 2 := (F 59 0 rfl).trans e.symm
    have m1 := mK_W F sw0 m
    rw [e0, if_pos hq] at e2
    obtain ⟨m2, F2⟩ := mK_tell m1 (c := a) (f := b) (s := c) (by rw [e0]; exact hq)
    rw [← e2] at m2 F2
    exact ⟨cK_M F2 sm0 k1, m2, fr_tell hr hq F F2 e1 e2⟩
  · rw [if_neg hq] at e1
    subst e1
    rw [← e, if_neg hq] at e2
    subst e2
    exact ⟨k, m, hr⟩
end FX
/-! the class's gain, exactly -/
theorem sp_worth_G {X : Nat → Nat → Bool} {t t1 : hy_T} (h : hy_F X t t1) (hx : frees X (fun r j => lawX r j || r == 9 || r == 35 || r == 34 || r == 6 || r == 7 || (r == 5 && j == 3) || (r == 33 && j == 4))) (e q : Int) : sp_worth t1 e q = sp_worth t e q := by
  have hl : lc_same t t1 := lc_same_of h (fun r j k => hx r j (by simp only [k]; simp))
  have es : sp_seen t1 e q = sp_seen t e q := by
    unfold sp_seen
    rw [show t1 34 = t 34 from funext fun j => h 34 j (hx 34 j (by simp)), sp_seenN_G h hl (hx 33 4 (by simp)) (hx 5 3 (by simp)) (fun j => hx 6 j (by simp)) (fun j => hx 7 j (by simp))]
  unfold sp_worth
  rw [es]
  exact sp_worthN_eq (fun c _ => sp_price_G h hl (fun j => hx 9 j (by simp)) (fun j => hx 35 j (by simp)) (fun j => hx 34 j (by simp)) (hx 5 3 (by simp)) (hx 33 4 (by simp)) e q 0 c) _ 12 (Nat.le_refl _)
theorem sp_worth_in (t : hy_T) (e q : Int) : 0 ≤ sp_worth t e q ∧ sp_worth t e q ≤ 76800 := by
  have := sp_worthN_le (f := fun c => sp_price t e q 0 c) (fun c _ => sp_price_le t e q 0 c) (sp_seen t e q) 12 (Nat.le_refl _)
  unfold sp_worth
  omega
theorem setH_E {X : Nat → Nat → Bool} {t t1 : hy_T} (h : hy_F X t t1) (c q v : Int) : hy_F X (sp_setH 33 t c q v) (sp_setH 33 t1 c q v) := by
  unfold sp_setH
  split
  · exact hE_up h _ _ _
  · exact h
section GX
variable {sc : List Int32} {t : hy_T}
theorem c_W_gain_x {e c q : Int} (hk : lc_ok t) : hy_Ct sc hm_W_gain 6 [.inr (some 2), .inl e, .inl c, .inl q] t (fun r t' => r = some (wf_gain t e c q) ∧ hy_F pX t t') := by
  refine hy_mk_ct ok_W_gain ck_W_gain (Nat.le_of_ble_eq_true rfl) ?_
  by_cases hq : ((0 ≤ e ∧ e < 6) ∧ wf_plain t c = true ∧ 0 ≤ q ∧ q < 4) ∧ hz_b (sp_hav (t 34) c q) e = false
  · have ew : wf_gain t e c q = sp_worth (sp_setH 33 t c q (hz_ior (sp_hav (t 34) c q) (hz_ishl 1 e))) e q - sp_worth t e q := if_pos hq
    rw [ew]
    refine hy_iload (i := 0) rfl rfl ?_
    refine hy_cS1e (i := 1) rfl (by decide) mj_W_isEmpire (by decide) rfl (Nat.le_of_ble_eq_true rfl) (c_W_isEmpire) ?_
    refine hy_ib_eq (i := 2) (tt := 11) rfl (fun zc1 => ?_) (fun zc1 => ?_)
    · simp at zc1; omega
    · refine hy_aload (i := 3) rfl rfl ?_
      refine hy_getr (i := 4) rfl rfl ?_
      refine hy_iload (i := 5) rfl rfl ?_
      refine hy_cV1e (i := 6) rfl mj_P_isPlain (by decide) rfl (Nat.le_of_ble_eq_true rfl) rfl rfl rfl (c_P_isPlain) ?_
      refine hy_ib_eq (i := 7) (tt := 11) rfl (fun zc2 => ?_) (fun zc2 => ?_)
      · exact absurd (hq.1.2.1.symm.trans zc2) (by decide)
      · refine hy_iload (i := 8) rfl rfl ?_
        refine hy_cS1e (i := 9) rfl (by decide) mj_W_isQuarter (by decide) rfl (Nat.le_of_ble_eq_true rfl) (c_W_isQuarter) ?_
        refine hy_ib_ne (i := 10) (tt := 13) rfl (fun zc3 => ?_) (fun zc3 => ?_)
        · refine hy_aload (i := 13) rfl rfl ?_
          refine hy_getr (i := 14) rfl rfl ?_
          refine hy_iload (i := 15) rfl rfl ?_
          refine hy_iload (i := 16) rfl rfl ?_
          refine hy_cV2e (i := 17) rfl mj_S_havers (by decide) rfl (Nat.le_of_ble_eq_true rfl) rfl rfl rfl (c_S_havers_33) ?_
          refine hy_istore (i := 18) rfl ?_
          refine hy_iload (i := 19) rfl rfl ?_
          refine hy_iload (i := 20) rfl rfl ?_
          refine hy_cS2e (i := 21) rfl (by decide) mj_W_bit (by decide) rfl (Nat.le_of_ble_eq_true rfl) (c_W_bit) ?_
          refine hy_const (i := 22) rfl (by decide) ?_
          refine hy_icb_ne (i := 23) (tt := 26) rfl (fun zc4 => ?_) (fun zc4 => ?_)
          · refine hy_aload (i := 26) rfl rfl ?_
            refine hy_getr (i := 27) rfl rfl ?_
            refine hy_iload (i := 28) rfl rfl ?_
            refine hy_iload (i := 29) rfl rfl ?_
            refine hy_cV2 (i := 30) rfl mj_U_worthTo (by decide) rfl (Nat.le_of_ble_eq_true rfl) rfl rfl rfl (c_U_worthTo hk) (fun r6_ t6_ h6 => ?_)
            obtain ⟨rfl, hF6⟩ := h6
            dsimp only [hy_st, List.cons_append, List.nil_append]
            refine hy_istore (i := 31) rfl ?_
            refine hy_aload (i := 32) rfl rfl ?_
            refine hy_getr (i := 33) rfl rfl ?_
            refine hy_iload (i := 34) rfl rfl ?_
            refine hy_iload (i := 35) rfl rfl ?_
            refine hy_iload (i := 36) rfl rfl ?_
            refine hy_const (i := 37) rfl (by decide) ?_
            refine hy_iload (i := 38) rfl rfl ?_
            refine hy_ishl (i := 39) rfl ?_
            refine hy_ior (i := 40) rfl ?_
            refine hy_cV3v (i := 41) rfl mj_S_setHavers (by decide) rfl (Nat.le_of_ble_eq_true rfl) rfl rfl rfl (c_S_setHavers_33) ?_
            refine hy_aload (i := 42) rfl rfl ?_
            refine hy_getr (i := 43) rfl rfl ?_
            refine hy_iload (i := 44) rfl rfl ?_
            refine hy_iload (i := 45) rfl rfl ?_
            have hk2 : lc_ok (sp_setH 33 t6_ c q (hz_ior (sp_hav (t 34) c q) (hz_ishl 1 e))) := lc_ok_same (lc_same_of (X := fun r _ => r == 34) (by unfold sp_setH; split; exact hy_F.rf.up rfl; exact hy_F.rf) (fun r j h => by revert h; simp [lawX]; omega)) (lc_ok_same (pX_law hF6) hk)
            refine hy_cV2 (i := 46) rfl mj_U_worthTo (by decide) rfl (Nat.le_of_ble_eq_true rfl) rfl rfl rfl (c_U_worthTo hk2) (fun r8_ t8_ h8 => ?_)
            obtain ⟨rfl, hF8⟩ := h8
            dsimp only [hy_st, List.cons_append, List.nil_append]
            refine hy_istore (i := 47) rfl ?_
            refine hy_aload (i := 48) rfl rfl ?_
            refine hy_getr (i := 49) rfl rfl ?_
            refine hy_iload (i := 50) rfl rfl ?_
            refine hy_iload (i := 51) rfl rfl ?_
            refine hy_iload (i := 52) rfl rfl ?_
            refine hy_cV3v (i := 53) rfl mj_S_setHavers (by decide) rfl (Nat.le_of_ble_eq_true rfl) rfl rfl rfl (c_S_setHavers_33) ?_
            refine hy_iload (i := 54) rfl rfl ?_
            refine hy_iload (i := 55) rfl rfl ?_
            refine hy_isub (i := 56) rfl (by have q1 := sp_worth_in (sp_setH 33 t6_ c q (hz_ior (sp_hav (t 34) c q) (hz_ishl 1 e))) e q; have q2 := sp_worth_in t e q; unfold hy_R; omega) ?_
            refine hy_ireturn (i := 57) rfl rfl ?_
            refine ⟨congrArg some (by rw [sp_worth_G (setH_E hF6 c q _) (fun r j k => by revert k; simp only [lawX, pX, Bool.or_eq_true, Bool.and_eq_true, beq_iff_eq, Bool.or_eq_false_iff, Bool.and_eq_false_iff, beq_eq_false_iff_ne]; omega)]), ?_⟩; have hG := gain_F hF6 (by assumption); rw [show t6_ 34 = t 34 from funext fun j => hF6 34 j rfl] at hG; exact hG
          · exfalso; simp_all [hy_b]
        · simp at zc3; omega
  · have ew : wf_gain t e c q = -1000000000 := if_neg hq
    rw [ew]
    refine hy_iload (i := 0) rfl rfl ?_
    refine hy_cS1e (i := 1) rfl (by decide) mj_W_isEmpire (by decide) rfl (Nat.le_of_ble_eq_true rfl) (c_W_isEmpire) ?_
    refine hy_ib_eq (i := 2) (tt := 11) rfl (fun zc1 => ?_) (fun zc1 => ?_)
    · refine hy_const (i := 11) rfl (by decide) ?_
      refine hy_ireturn (i := 12) rfl rfl ?_
      exact ⟨rfl, hy_F.rf⟩
    · refine hy_aload (i := 3) rfl rfl ?_
      refine hy_getr (i := 4) rfl rfl ?_
      refine hy_iload (i := 5) rfl rfl ?_
      refine hy_cV1e (i := 6) rfl mj_P_isPlain (by decide) rfl (Nat.le_of_ble_eq_true rfl) rfl rfl rfl (c_P_isPlain) ?_
      refine hy_ib_eq (i := 7) (tt := 11) rfl (fun zc2 => ?_) (fun zc2 => ?_)
      · refine hy_const (i := 11) rfl (by decide) ?_
        refine hy_ireturn (i := 12) rfl rfl ?_
        exact ⟨rfl, hy_F.rf⟩
      · refine hy_iload (i := 8) rfl rfl ?_
        refine hy_cS1e (i := 9) rfl (by decide) mj_W_isQuarter (by decide) rfl (Nat.le_of_ble_eq_true rfl) (c_W_isQuarter) ?_
        refine hy_ib_ne (i := 10) (tt := 13) rfl (fun zc3 => ?_) (fun zc3 => ?_)
        · refine hy_aload (i := 13) rfl rfl ?_
          refine hy_getr (i := 14) rfl rfl ?_
          refine hy_iload (i := 15) rfl rfl ?_
          refine hy_iload (i := 16) rfl rfl ?_
          refine hy_cV2e (i := 17) rfl mj_S_havers (by decide) rfl (Nat.le_of_ble_eq_true rfl) rfl rfl rfl (c_S_havers_33) ?_
          refine hy_istore (i := 18) rfl ?_
          refine hy_iload (i := 19) rfl rfl ?_
          refine hy_iload (i := 20) rfl rfl ?_
          refine hy_cS2e (i := 21) rfl (by decide) mj_W_bit (by decide) rfl (Nat.le_of_ble_eq_true rfl) (c_W_bit) ?_
          refine hy_const (i := 22) rfl (by decide) ?_
          refine hy_icb_ne (i := 23) (tt := 26) rfl (fun zc4 => ?_) (fun zc4 => ?_)
          · exfalso; apply hq; refine ⟨⟨?_, ?_, ?_⟩, ?_⟩ <;> simp_all [hy_b]
          · refine hy_const (i := 24) rfl (by decide) ?_
            refine hy_ireturn (i := 25) rfl rfl ?_
            exact ⟨rfl, hy_F.rf⟩
        · refine hy_const (i := 11) rfl (by decide) ?_
          refine hy_ireturn (i := 12) rfl rfl ?_
          exact ⟨rfl, hy_F.rf⟩
theorem k17y {a b c : Int} (k : cK t) : hy_Ct sc hm_W_gain 6 [.inr (some 2), .inl a, .inl b, .inl c] t (fun r t' => cQ pX t r t' ∧ r = some (wf_gain t a b c)) := (c_W_gain_x k.lc).mono (fun r t' q => ⟨⟨⟨_, q.1⟩, cK_F q.2 (fun r j q => by revert q; simp only [ckX, ckT, lawX, ckN, ckS, ckP, pX, Bool.or_eq_true, Bool.and_eq_true, beq_iff_eq, Bool.or_eq_false_iff, Bool.and_eq_false_iff, beq_eq_false_iff_ne]; omega) k, q.2⟩, q.1⟩)
end GX
