/-! the two sides, call by call -/
def ci_I (Rel : hy_T → Prop) (t : hy_T) : Prop := cK t ∧ mK t ∧ Rel t
abbrev sW (X : Nat → Nat → Bool) : Prop := ∀ r j, 59 ≤ r → X r j = false
abbrev sM (X : Nat → Nat → Bool) : Prop := ∀ r j, r < 59 → X r j = false
theorem mK_W {X : Nat → Nat → Bool} {t t1 : hy_T} (h : hy_F X t t1) (hx : sW X) (k : mK t) : mK t1 := mK_F h (fun r j q => hx r j (by revert q; simp only [mkAll, mkA, mlawX, mrP, mrT, mrK, mrM, mvX, meX, mlX, mfaX, stX, hvX, pwX, btX, sgX, mlsX, jdX, tdX, dsX, enX, mftX, ldrX, wmX, maX, lwX, lrX, mrX, feX, ngX, trsX, dysX, gnX, t9X, spmX, kpmX, udX, Bool.or_eq_true, Bool.and_eq_true, decide_eq_true_eq, decide_eq_false_iff_not, beq_iff_eq, Bool.or_eq_false_iff, Bool.and_eq_false_iff, beq_eq_false_iff_ne]; omega)) k
theorem cK_M {X : Nat → Nat → Bool} {t t1 : hy_T} (h : hy_F X t t1) (hx : sM X) (k : cK t) : cK t1 := cK_F h (fun r j q => hx r j (by revert q; simp only [ckX, ckT, ckN, ckS, ckP, lawX, eX, lX, pX, fX, snX, brX, wyX, paX, trX, asX, gdX, lnX, lkX, lpX, lwcX, tyX, jyX, mkX, dzX, cpX, taX, glX, t1X, spX, dgX, kpX, Bool.or_eq_true, Bool.and_eq_true, decide_eq_true_eq, decide_eq_false_iff_not, beq_iff_eq, Bool.or_eq_false_iff, Bool.and_eq_false_iff, beq_eq_false_iff_ne]; omega)) k
theorem sw0 : sW (fun r _ => r == 5 || r == 6 || r == 7) := fun r j h => by simp only [ckX, ckT, ckN, ckS, ckP, lawX, eX, lX, pX, fX, snX, brX, wyX, paX, trX, asX, gdX, lnX, lkX, lpX, lwcX, tyX, jyX, mkX, dzX, cpX, taX, glX, t1X, spX, dgX, kpX, Bool.or_eq_true, Bool.and_eq_true, decide_eq_true_eq, decide_eq_false_iff_not, beq_iff_eq, Bool.or_eq_false_iff, Bool.and_eq_false_iff, beq_eq_false_iff_ne]; omega
theorem sm0 : sM (fun r j => r == 60 || r == 61 || (r == 59 && j == 0)) := fun r j h => by simp only [mkAll, mkA, mlawX, mrP, mrT, mrK, mrM, mvX, meX, mlX, mfaX, stX, hvX, pwX, btX, sgX, mlsX, jdX, tdX, dsX, enX, mftX, ldrX, wmX, maX, lwX, lrX, mrX, feX, ngX, trsX, dysX, gnX, t9X, spmX, kpmX, udX, Bool.or_eq_true, Bool.and_eq_true, decide_eq_true_eq, decide_eq_false_iff_not, beq_iff_eq, Bool.or_eq_false_iff, Bool.and_eq_false_iff, beq_eq_false_iff_ne]; omega
theorem sw1 : sW (fun r _ => r == 34) := fun r j h => by simp only [ckX, ckT, ckN, ckS, ckP, lawX, eX, lX, pX, fX, snX, brX, wyX, paX, trX, asX, gdX, lnX, lkX, lpX, lwcX, tyX, jyX, mkX, dzX, cpX, taX, glX, t1X, spX, dgX, kpX, Bool.or_eq_true, Bool.and_eq_true, decide_eq_true_eq, decide_eq_false_iff_not, beq_iff_eq, Bool.or_eq_false_iff, Bool.and_eq_false_iff, beq_eq_false_iff_ne]; omega
theorem sm1 : sM (fun r _ => r == 62) := fun r j h => by simp only [mkAll, mkA, mlawX, mrP, mrT, mrK, mrM, mvX, meX, mlX, mfaX, stX, hvX, pwX, btX, sgX, mlsX, jdX, tdX, dsX, enX, mftX, ldrX, wmX, maX, lwX, lrX, mrX, feX, ngX, trsX, dysX, gnX, t9X, spmX, kpmX, udX, Bool.or_eq_true, Bool.and_eq_true, decide_eq_true_eq, decide_eq_false_iff_not, beq_iff_eq, Bool.or_eq_false_iff, Bool.and_eq_false_iff, beq_eq_false_iff_ne]; omega
theorem sw2 : sW (fun r _ => r == 35) := fun r j h => by simp only [ckX, ckT, ckN, ckS, ckP, lawX, eX, lX, pX, fX, snX, brX, wyX, paX, trX, asX, gdX, lnX, lkX, lpX, lwcX, tyX, jyX, mkX, dzX, cpX, taX, glX, t1X, spX, dgX, kpX, Bool.or_eq_true, Bool.and_eq_true, decide_eq_true_eq, decide_eq_false_iff_not, beq_iff_eq, Bool.or_eq_false_iff, Bool.and_eq_false_iff, beq_eq_false_iff_ne]; omega
theorem sm2 : sM (fun r _ => r == 64) := fun r j h => by simp only [mkAll, mkA, mlawX, mrP, mrT, mrK, mrM, mvX, meX, mlX, mfaX, stX, hvX, pwX, btX, sgX, mlsX, jdX, tdX, dsX, enX, mftX, ldrX, wmX, maX, lwX, lrX, mrX, feX, ngX, trsX, dysX, gnX, t9X, spmX, kpmX, udX, Bool.or_eq_true, Bool.and_eq_true, decide_eq_true_eq, decide_eq_false_iff_not, beq_iff_eq, Bool.or_eq_false_iff, Bool.and_eq_false_iff, beq_eq_false_iff_ne]; omega
theorem sw3 : sW taX := fun r j h => by simp only [ckX, ckT, ckN, ckS, ckP, lawX, eX, lX, pX, fX, snX, brX, wyX, paX, trX, asX, gdX, lnX, lkX, lpX, lwcX, tyX, jyX, mkX, dzX, cpX, taX, glX, t1X, spX, dgX, kpX, Bool.or_eq_true, Bool.and_eq_true, decide_eq_true_eq, decide_eq_false_iff_not, beq_iff_eq, Bool.or_eq_false_iff, Bool.and_eq_false_iff, beq_eq_false_iff_ne]; omega
theorem sm3 : sM feX := fun r j h => by simp only [mkAll, mkA, mlawX, mrP, mrT, mrK, mrM, mvX, meX, mlX, mfaX, stX, hvX, pwX, btX, sgX, mlsX, jdX, tdX, dsX, enX, mftX, ldrX, wmX, maX, lwX, lrX, mrX, feX, ngX, trsX, dysX, gnX, t9X, spmX, kpmX, udX, Bool.or_eq_true, Bool.and_eq_true, decide_eq_true_eq, decide_eq_false_iff_not, beq_iff_eq, Bool.or_eq_false_iff, Bool.and_eq_false_iff, beq_eq_false_iff_ne]; omega
theorem sw4 : sW lwcX := fun r j h => by simp only [ckX, ckT, ckN, ckS, ckP, lawX, eX, lX, pX, fX, snX, brX, wyX, paX, trX, asX, gdX, lnX, lkX, lpX, lwcX, tyX, jyX, mkX, dzX, cpX, taX, glX, t1X, spX, dgX, kpX, Bool.or_eq_true, Bool.and_eq_true, decide_eq_true_eq, decide_eq_false_iff_not, beq_iff_eq, Bool.or_eq_false_iff, Bool.and_eq_false_iff, beq_eq_false_iff_ne]; omega
theorem sm4 : sM lwX := fun r j h => by simp only [mkAll, mkA, mlawX, mrP, mrT, mrK, mrM, mvX, meX, mlX, mfaX, stX, hvX, pwX, btX, sgX, mlsX, jdX, tdX, dsX, enX, mftX, ldrX, wmX, maX, lwX, lrX, mrX, feX, ngX, trsX, dysX, gnX, t9X, spmX, kpmX, udX, Bool.or_eq_true, Bool.and_eq_true, decide_eq_true_eq, decide_eq_false_iff_not, beq_iff_eq, Bool.or_eq_false_iff, Bool.and_eq_false_iff, beq_eq_false_iff_ne]; omega
theorem sw5 : sW glX := fun r j h => by simp only [ckX, ckT, ckN, ckS, ckP, lawX, eX, lX, pX, fX, snX, brX, wyX, paX, trX, asX, gdX, lnX, lkX, lpX, lwcX, tyX, jyX, mkX, dzX, cpX, taX, glX, t1X, spX, dgX, kpX, Bool.or_eq_true, Bool.and_eq_true, decide_eq_true_eq, decide_eq_false_iff_not, beq_iff_eq, Bool.or_eq_false_iff, Bool.and_eq_false_iff, beq_eq_false_iff_ne]; omega
theorem sm5 : sM ngX := fun r j h => by simp only [mkAll, mkA, mlawX, mrP, mrT, mrK, mrM, mvX, meX, mlX, mfaX, stX, hvX, pwX, btX, sgX, mlsX, jdX, tdX, dsX, enX, mftX, ldrX, wmX, maX, lwX, lrX, mrX, feX, ngX, trsX, dysX, gnX, t9X, spmX, kpmX, udX, Bool.or_eq_true, Bool.and_eq_true, decide_eq_true_eq, decide_eq_false_iff_not, beq_iff_eq, Bool.or_eq_false_iff, Bool.and_eq_false_iff, beq_eq_false_iff_ne]; omega
theorem sw6 : sW (tyX 33) := fun r j h => by simp only [ckX, ckT, ckN, ckS, ckP, lawX, eX, lX, pX, fX, snX, brX, wyX, paX, trX, asX, gdX, lnX, lkX, lpX, lwcX, tyX, jyX, mkX, dzX, cpX, taX, glX, t1X, spX, dgX, kpX, Bool.or_eq_true, Bool.and_eq_true, decide_eq_true_eq, decide_eq_false_iff_not, beq_iff_eq, Bool.or_eq_false_iff, Bool.and_eq_false_iff, beq_eq_false_iff_ne]; omega
theorem sm6 : sM trsX := fun r j h => by simp only [mkAll, mkA, mlawX, mrP, mrT, mrK, mrM, mvX, meX, mlX, mfaX, stX, hvX, pwX, btX, sgX, mlsX, jdX, tdX, dsX, enX, mftX, ldrX, wmX, maX, lwX, lrX, mrX, feX, ngX, trsX, dysX, gnX, t9X, spmX, kpmX, udX, Bool.or_eq_true, Bool.and_eq_true, decide_eq_true_eq, decide_eq_false_iff_not, beq_iff_eq, Bool.or_eq_false_iff, Bool.and_eq_false_iff, beq_eq_false_iff_ne]; omega
theorem sw7 : sW jyX := fun r j h => by simp only [ckX, ckT, ckN, ckS, ckP, lawX, eX, lX, pX, fX, snX, brX, wyX, paX, trX, asX, gdX, lnX, lkX, lpX, lwcX, tyX, jyX, mkX, dzX, cpX, taX, glX, t1X, spX, dgX, kpX, Bool.or_eq_true, Bool.and_eq_true, decide_eq_true_eq, decide_eq_false_iff_not, beq_iff_eq, Bool.or_eq_false_iff, Bool.and_eq_false_iff, beq_eq_false_iff_ne]; omega
theorem sm7 : sM jdX := fun r j h => by simp only [mkAll, mkA, mlawX, mrP, mrT, mrK, mrM, mvX, meX, mlX, mfaX, stX, hvX, pwX, btX, sgX, mlsX, jdX, tdX, dsX, enX, mftX, ldrX, wmX, maX, lwX, lrX, mrX, feX, ngX, trsX, dysX, gnX, t9X, spmX, kpmX, udX, Bool.or_eq_true, Bool.and_eq_true, decide_eq_true_eq, decide_eq_false_iff_not, beq_iff_eq, Bool.or_eq_false_iff, Bool.and_eq_false_iff, beq_eq_false_iff_ne]; omega
theorem sw8 : sW dgX := fun r j h => by simp only [ckX, ckT, ckN, ckS, ckP, lawX, eX, lX, pX, fX, snX, brX, wyX, paX, trX, asX, gdX, lnX, lkX, lpX, lwcX, tyX, jyX, mkX, dzX, cpX, taX, glX, t1X, spX, dgX, kpX, Bool.or_eq_true, Bool.and_eq_true, decide_eq_true_eq, decide_eq_false_iff_not, beq_iff_eq, Bool.or_eq_false_iff, Bool.and_eq_false_iff, beq_eq_false_iff_ne]; omega
theorem sm8 : sM dysX := fun r j h => by simp only [mkAll, mkA, mlawX, mrP, mrT, mrK, mrM, mvX, meX, mlX, mfaX, stX, hvX, pwX, btX, sgX, mlsX, jdX, tdX, dsX, enX, mftX, ldrX, wmX, maX, lwX, lrX, mrX, feX, ngX, trsX, dysX, gnX, t9X, spmX, kpmX, udX, Bool.or_eq_true, Bool.and_eq_true, decide_eq_true_eq, decide_eq_false_iff_not, beq_iff_eq, Bool.or_eq_false_iff, Bool.and_eq_false_iff, beq_eq_false_iff_ne]; omega
theorem sw9 : sW trX := fun r j h => by simp only [ckX, ckT, ckN, ckS, ckP, lawX, eX, lX, pX, fX, snX, brX, wyX, paX, trX, asX, gdX, lnX, lkX, lpX, lwcX, tyX, jyX, mkX, dzX, cpX, taX, glX, t1X, spX, dgX, kpX, Bool.or_eq_true, Bool.and_eq_true, decide_eq_true_eq, decide_eq_false_iff_not, beq_iff_eq, Bool.or_eq_false_iff, Bool.and_eq_false_iff, beq_eq_false_iff_ne]; omega
theorem sm9 : sM tdX := fun r j h => by simp only [mkAll, mkA, mlawX, mrP, mrT, mrK, mrM, mvX, meX, mlX, mfaX, stX, hvX, pwX, btX, sgX, mlsX, jdX, tdX, dsX, enX, mftX, ldrX, wmX, maX, lwX, lrX, mrX, feX, ngX, trsX, dysX, gnX, t9X, spmX, kpmX, udX, Bool.or_eq_true, Bool.and_eq_true, decide_eq_true_eq, decide_eq_false_iff_not, beq_iff_eq, Bool.or_eq_false_iff, Bool.and_eq_false_iff, beq_eq_false_iff_ne]; omega
theorem sw10 : sW (fun _ _ => false) := fun _ _ _ => rfl
theorem sm10 : sM (fun _ _ => false) := fun _ _ _ => rfl
theorem sw11 : sW eX := fun r j h => by simp only [ckX, ckT, ckN, ckS, ckP, lawX, eX, lX, pX, fX, snX, brX, wyX, paX, trX, asX, gdX, lnX, lkX, lpX, lwcX, tyX, jyX, mkX, dzX, cpX, taX, glX, t1X, spX, dgX, kpX, Bool.or_eq_true, Bool.and_eq_true, decide_eq_true_eq, decide_eq_false_iff_not, beq_iff_eq, Bool.or_eq_false_iff, Bool.and_eq_false_iff, beq_eq_false_iff_ne]; omega
theorem sm11 : sM mvX := fun r j h => by simp only [mkAll, mkA, mlawX, mrP, mrT, mrK, mrM, mvX, meX, mlX, mfaX, stX, hvX, pwX, btX, sgX, mlsX, jdX, tdX, dsX, enX, mftX, ldrX, wmX, maX, lwX, lrX, mrX, feX, ngX, trsX, dysX, gnX, t9X, spmX, kpmX, udX, Bool.or_eq_true, Bool.and_eq_true, decide_eq_true_eq, decide_eq_false_iff_not, beq_iff_eq, Bool.or_eq_false_iff, Bool.and_eq_false_iff, beq_eq_false_iff_ne]; omega
theorem sw12 : sW lX := fun r j h => by simp only [ckX, ckT, ckN, ckS, ckP, lawX, eX, lX, pX, fX, snX, brX, wyX, paX, trX, asX, gdX, lnX, lkX, lpX, lwcX, tyX, jyX, mkX, dzX, cpX, taX, glX, t1X, spX, dgX, kpX, Bool.or_eq_true, Bool.and_eq_true, decide_eq_true_eq, decide_eq_false_iff_not, beq_iff_eq, Bool.or_eq_false_iff, Bool.and_eq_false_iff, beq_eq_false_iff_ne]; omega
theorem sm12 : sM meX := fun r j h => by simp only [mkAll, mkA, mlawX, mrP, mrT, mrK, mrM, mvX, meX, mlX, mfaX, stX, hvX, pwX, btX, sgX, mlsX, jdX, tdX, dsX, enX, mftX, ldrX, wmX, maX, lwX, lrX, mrX, feX, ngX, trsX, dysX, gnX, t9X, spmX, kpmX, udX, Bool.or_eq_true, Bool.and_eq_true, decide_eq_true_eq, decide_eq_false_iff_not, beq_iff_eq, Bool.or_eq_false_iff, Bool.and_eq_false_iff, beq_eq_false_iff_ne]; omega
theorem sw13 : sW eX := fun r j h => by simp only [ckX, ckT, ckN, ckS, ckP, lawX, eX, lX, pX, fX, snX, brX, wyX, paX, trX, asX, gdX, lnX, lkX, lpX, lwcX, tyX, jyX, mkX, dzX, cpX, taX, glX, t1X, spX, dgX, kpX, Bool.or_eq_true, Bool.and_eq_true, decide_eq_true_eq, decide_eq_false_iff_not, beq_iff_eq, Bool.or_eq_false_iff, Bool.and_eq_false_iff, beq_eq_false_iff_ne]; omega
theorem sm13 : sM mvX := fun r j h => by simp only [mkAll, mkA, mlawX, mrP, mrT, mrK, mrM, mvX, meX, mlX, mfaX, stX, hvX, pwX, btX, sgX, mlsX, jdX, tdX, dsX, enX, mftX, ldrX, wmX, maX, lwX, lrX, mrX, feX, ngX, trsX, dysX, gnX, t9X, spmX, kpmX, udX, Bool.or_eq_true, Bool.and_eq_true, decide_eq_true_eq, decide_eq_false_iff_not, beq_iff_eq, Bool.or_eq_false_iff, Bool.and_eq_false_iff, beq_eq_false_iff_ne]; omega
theorem sw14 : sW lX := fun r j h => by simp only [ckX, ckT, ckN, ckS, ckP, lawX, eX, lX, pX, fX, snX, brX, wyX, paX, trX, asX, gdX, lnX, lkX, lpX, lwcX, tyX, jyX, mkX, dzX, cpX, taX, glX, t1X, spX, dgX, kpX, Bool.or_eq_true, Bool.and_eq_true, decide_eq_true_eq, decide_eq_false_iff_not, beq_iff_eq, Bool.or_eq_false_iff, Bool.and_eq_false_iff, beq_eq_false_iff_ne]; omega
theorem sm14 : sM meX := fun r j h => by simp only [mkAll, mkA, mlawX, mrP, mrT, mrK, mrM, mvX, meX, mlX, mfaX, stX, hvX, pwX, btX, sgX, mlsX, jdX, tdX, dsX, enX, mftX, ldrX, wmX, maX, lwX, lrX, mrX, feX, ngX, trsX, dysX, gnX, t9X, spmX, kpmX, udX, Bool.or_eq_true, Bool.and_eq_true, decide_eq_true_eq, decide_eq_false_iff_not, beq_iff_eq, Bool.or_eq_false_iff, Bool.and_eq_false_iff, beq_eq_false_iff_ne]; omega
theorem sw15 : sW wyX := fun r j h => by simp only [ckX, ckT, ckN, ckS, ckP, lawX, eX, lX, pX, fX, snX, brX, wyX, paX, trX, asX, gdX, lnX, lkX, lpX, lwcX, tyX, jyX, mkX, dzX, cpX, taX, glX, t1X, spX, dgX, kpX, Bool.or_eq_true, Bool.and_eq_true, decide_eq_true_eq, decide_eq_false_iff_not, beq_iff_eq, Bool.or_eq_false_iff, Bool.and_eq_false_iff, beq_eq_false_iff_ne]; omega
theorem sm15 : sM wmX := fun r j h => by simp only [mkAll, mkA, mlawX, mrP, mrT, mrK, mrM, mvX, meX, mlX, mfaX, stX, hvX, pwX, btX, sgX, mlsX, jdX, tdX, dsX, enX, mftX, ldrX, wmX, maX, lwX, lrX, mrX, feX, ngX, trsX, dysX, gnX, t9X, spmX, kpmX, udX, Bool.or_eq_true, Bool.and_eq_true, decide_eq_true_eq, decide_eq_false_iff_not, beq_iff_eq, Bool.or_eq_false_iff, Bool.and_eq_false_iff, beq_eq_false_iff_ne]; omega
theorem sw16 : sW pX := fun r j h => by simp only [ckX, ckT, ckN, ckS, ckP, lawX, eX, lX, pX, fX, snX, brX, wyX, paX, trX, asX, gdX, lnX, lkX, lpX, lwcX, tyX, jyX, mkX, dzX, cpX, taX, glX, t1X, spX, dgX, kpX, Bool.or_eq_true, Bool.and_eq_true, decide_eq_true_eq, decide_eq_false_iff_not, beq_iff_eq, Bool.or_eq_false_iff, Bool.and_eq_false_iff, beq_eq_false_iff_ne]; omega
theorem sm16 : sM mvX := fun r j h => by simp only [mkAll, mkA, mlawX, mrP, mrT, mrK, mrM, mvX, meX, mlX, mfaX, stX, hvX, pwX, btX, sgX, mlsX, jdX, tdX, dsX, enX, mftX, ldrX, wmX, maX, lwX, lrX, mrX, feX, ngX, trsX, dysX, gnX, t9X, spmX, kpmX, udX, Bool.or_eq_true, Bool.and_eq_true, decide_eq_true_eq, decide_eq_false_iff_not, beq_iff_eq, Bool.or_eq_false_iff, Bool.and_eq_false_iff, beq_eq_false_iff_ne]; omega
theorem sw17 : sW pX := fun r j h => by simp only [ckX, ckT, ckN, ckS, ckP, lawX, eX, lX, pX, fX, snX, brX, wyX, paX, trX, asX, gdX, lnX, lkX, lpX, lwcX, tyX, jyX, mkX, dzX, cpX, taX, glX, t1X, spX, dgX, kpX, Bool.or_eq_true, Bool.and_eq_true, decide_eq_true_eq, decide_eq_false_iff_not, beq_iff_eq, Bool.or_eq_false_iff, Bool.and_eq_false_iff, beq_eq_false_iff_ne]; omega
theorem sm17 : sM gnX := fun r j h => by simp only [mkAll, mkA, mlawX, mrP, mrT, mrK, mrM, mvX, meX, mlX, mfaX, stX, hvX, pwX, btX, sgX, mlsX, jdX, tdX, dsX, enX, mftX, ldrX, wmX, maX, lwX, lrX, mrX, feX, ngX, trsX, dysX, gnX, t9X, spmX, kpmX, udX, Bool.or_eq_true, Bool.and_eq_true, decide_eq_true_eq, decide_eq_false_iff_not, beq_iff_eq, Bool.or_eq_false_iff, Bool.and_eq_false_iff, beq_eq_false_iff_ne]; omega
theorem sw18 : sW pX := fun r j h => by simp only [ckX, ckT, ckN, ckS, ckP, lawX, eX, lX, pX, fX, snX, brX, wyX, paX, trX, asX, gdX, lnX, lkX, lpX, lwcX, tyX, jyX, mkX, dzX, cpX, taX, glX, t1X, spX, dgX, kpX, Bool.or_eq_true, Bool.and_eq_true, decide_eq_true_eq, decide_eq_false_iff_not, beq_iff_eq, Bool.or_eq_false_iff, Bool.and_eq_false_iff, beq_eq_false_iff_ne]; omega
theorem sm18 : sM pwX := fun r j h => by simp only [mkAll, mkA, mlawX, mrP, mrT, mrK, mrM, mvX, meX, mlX, mfaX, stX, hvX, pwX, btX, sgX, mlsX, jdX, tdX, dsX, enX, mftX, ldrX, wmX, maX, lwX, lrX, mrX, feX, ngX, trsX, dysX, gnX, t9X, spmX, kpmX, udX, Bool.or_eq_true, Bool.and_eq_true, decide_eq_true_eq, decide_eq_false_iff_not, beq_iff_eq, Bool.or_eq_false_iff, Bool.and_eq_false_iff, beq_eq_false_iff_ne]; omega
theorem sw19 : sW snX := fun r j h => by simp only [ckX, ckT, ckN, ckS, ckP, lawX, eX, lX, pX, fX, snX, brX, wyX, paX, trX, asX, gdX, lnX, lkX, lpX, lwcX, tyX, jyX, mkX, dzX, cpX, taX, glX, t1X, spX, dgX, kpX, Bool.or_eq_true, Bool.and_eq_true, decide_eq_true_eq, decide_eq_false_iff_not, beq_iff_eq, Bool.or_eq_false_iff, Bool.and_eq_false_iff, beq_eq_false_iff_ne]; omega
theorem sm19 : sM sgX := fun r j h => by simp only [mkAll, mkA, mlawX, mrP, mrT, mrK, mrM, mvX, meX, mlX, mfaX, stX, hvX, pwX, btX, sgX, mlsX, jdX, tdX, dsX, enX, mftX, ldrX, wmX, maX, lwX, lrX, mrX, feX, ngX, trsX, dysX, gnX, t9X, spmX, kpmX, udX, Bool.or_eq_true, Bool.and_eq_true, decide_eq_true_eq, decide_eq_false_iff_not, beq_iff_eq, Bool.or_eq_false_iff, Bool.and_eq_false_iff, beq_eq_false_iff_ne]; omega
theorem sw20 : sW t1X := fun r j h => by simp only [ckX, ckT, ckN, ckS, ckP, lawX, eX, lX, pX, fX, snX, brX, wyX, paX, trX, asX, gdX, lnX, lkX, lpX, lwcX, tyX, jyX, mkX, dzX, cpX, taX, glX, t1X, spX, dgX, kpX, Bool.or_eq_true, Bool.and_eq_true, decide_eq_true_eq, decide_eq_false_iff_not, beq_iff_eq, Bool.or_eq_false_iff, Bool.and_eq_false_iff, beq_eq_false_iff_ne]; omega
theorem sm20 : sM t9X := fun r j h => by simp only [mkAll, mkA, mlawX, mrP, mrT, mrK, mrM, mvX, meX, mlX, mfaX, stX, hvX, pwX, btX, sgX, mlsX, jdX, tdX, dsX, enX, mftX, ldrX, wmX, maX, lwX, lrX, mrX, feX, ngX, trsX, dysX, gnX, t9X, spmX, kpmX, udX, Bool.or_eq_true, Bool.and_eq_true, decide_eq_true_eq, decide_eq_false_iff_not, beq_iff_eq, Bool.or_eq_false_iff, Bool.and_eq_false_iff, beq_eq_false_iff_ne]; omega
theorem sw21 : sW fX := fun r j h => by simp only [ckX, ckT, ckN, ckS, ckP, lawX, eX, lX, pX, fX, snX, brX, wyX, paX, trX, asX, gdX, lnX, lkX, lpX, lwcX, tyX, jyX, mkX, dzX, cpX, taX, glX, t1X, spX, dgX, kpX, Bool.or_eq_true, Bool.and_eq_true, decide_eq_true_eq, decide_eq_false_iff_not, beq_iff_eq, Bool.or_eq_false_iff, Bool.and_eq_false_iff, beq_eq_false_iff_ne]; omega
theorem sm21 : sM btX := fun r j h => by simp only [mkAll, mkA, mlawX, mrP, mrT, mrK, mrM, mvX, meX, mlX, mfaX, stX, hvX, pwX, btX, sgX, mlsX, jdX, tdX, dsX, enX, mftX, ldrX, wmX, maX, lwX, lrX, mrX, feX, ngX, trsX, dysX, gnX, t9X, spmX, kpmX, udX, Bool.or_eq_true, Bool.and_eq_true, decide_eq_true_eq, decide_eq_false_iff_not, beq_iff_eq, Bool.or_eq_false_iff, Bool.and_eq_false_iff, beq_eq_false_iff_ne]; omega
theorem sw22 : sW spX := fun r j h => by simp only [ckX, ckT, ckN, ckS, ckP, lawX, eX, lX, pX, fX, snX, brX, wyX, paX, trX, asX, gdX, lnX, lkX, lpX, lwcX, tyX, jyX, mkX, dzX, cpX, taX, glX, t1X, spX, dgX, kpX, Bool.or_eq_true, Bool.and_eq_true, decide_eq_true_eq, decide_eq_false_iff_not, beq_iff_eq, Bool.or_eq_false_iff, Bool.and_eq_false_iff, beq_eq_false_iff_ne]; omega
theorem sm22 : sM spmX := fun r j h => by simp only [mkAll, mkA, mlawX, mrP, mrT, mrK, mrM, mvX, meX, mlX, mfaX, stX, hvX, pwX, btX, sgX, mlsX, jdX, tdX, dsX, enX, mftX, ldrX, wmX, maX, lwX, lrX, mrX, feX, ngX, trsX, dysX, gnX, t9X, spmX, kpmX, udX, Bool.or_eq_true, Bool.and_eq_true, decide_eq_true_eq, decide_eq_false_iff_not, beq_iff_eq, Bool.or_eq_false_iff, Bool.and_eq_false_iff, beq_eq_false_iff_ne]; omega
theorem sw23 : sW eX := fun r j h => by simp only [ckX, ckT, ckN, ckS, ckP, lawX, eX, lX, pX, fX, snX, brX, wyX, paX, trX, asX, gdX, lnX, lkX, lpX, lwcX, tyX, jyX, mkX, dzX, cpX, taX, glX, t1X, spX, dgX, kpX, Bool.or_eq_true, Bool.and_eq_true, decide_eq_true_eq, decide_eq_false_iff_not, beq_iff_eq, Bool.or_eq_false_iff, Bool.and_eq_false_iff, beq_eq_false_iff_ne]; omega
theorem sm23 : sM mvX := fun r j h => by simp only [mkAll, mkA, mlawX, mrP, mrT, mrK, mrM, mvX, meX, mlX, mfaX, stX, hvX, pwX, btX, sgX, mlsX, jdX, tdX, dsX, enX, mftX, ldrX, wmX, maX, lwX, lrX, mrX, feX, ngX, trsX, dysX, gnX, t9X, spmX, kpmX, udX, Bool.or_eq_true, Bool.and_eq_true, decide_eq_true_eq, decide_eq_false_iff_not, beq_iff_eq, Bool.or_eq_false_iff, Bool.and_eq_false_iff, beq_eq_false_iff_ne]; omega
theorem sw24 : sW asX := fun r j h => by simp only [ckX, ckT, ckN, ckS, ckP, lawX, eX, lX, pX, fX, snX, brX, wyX, paX, trX, asX, gdX, lnX, lkX, lpX, lwcX, tyX, jyX, mkX, dzX, cpX, taX, glX, t1X, spX, dgX, kpX, Bool.or_eq_true, Bool.and_eq_true, decide_eq_true_eq, decide_eq_false_iff_not, beq_iff_eq, Bool.or_eq_false_iff, Bool.and_eq_false_iff, beq_eq_false_iff_ne]; omega
theorem sm24 : sM maX := fun r j h => by simp only [mkAll, mkA, mlawX, mrP, mrT, mrK, mrM, mvX, meX, mlX, mfaX, stX, hvX, pwX, btX, sgX, mlsX, jdX, tdX, dsX, enX, mftX, ldrX, wmX, maX, lwX, lrX, mrX, feX, ngX, trsX, dysX, gnX, t9X, spmX, kpmX, udX, Bool.or_eq_true, Bool.and_eq_true, decide_eq_true_eq, decide_eq_false_iff_not, beq_iff_eq, Bool.or_eq_false_iff, Bool.and_eq_false_iff, beq_eq_false_iff_ne]; omega
theorem sw25 : sW (fun r j => r == 33 && j == 5) := fun r j h => by simp only [ckX, ckT, ckN, ckS, ckP, lawX, eX, lX, pX, fX, snX, brX, wyX, paX, trX, asX, gdX, lnX, lkX, lpX, lwcX, tyX, jyX, mkX, dzX, cpX, taX, glX, t1X, spX, dgX, kpX, Bool.or_eq_true, Bool.and_eq_true, decide_eq_true_eq, decide_eq_false_iff_not, beq_iff_eq, Bool.or_eq_false_iff, Bool.and_eq_false_iff, beq_eq_false_iff_ne]; omega
theorem sm25 : sM (fun r j => r == 59 && j == 1) := fun r j h => by simp only [mkAll, mkA, mlawX, mrP, mrT, mrK, mrM, mvX, meX, mlX, mfaX, stX, hvX, pwX, btX, sgX, mlsX, jdX, tdX, dsX, enX, mftX, ldrX, wmX, maX, lwX, lrX, mrX, feX, ngX, trsX, dysX, gnX, t9X, spmX, kpmX, udX, Bool.or_eq_true, Bool.and_eq_true, decide_eq_true_eq, decide_eq_false_iff_not, beq_iff_eq, Bool.or_eq_false_iff, Bool.and_eq_false_iff, beq_eq_false_iff_ne]; omega
theorem sw26 : sW kpX := fun r j h => by simp only [ckX, ckT, ckN, ckS, ckP, lawX, eX, lX, pX, fX, snX, brX, wyX, paX, trX, asX, gdX, lnX, lkX, lpX, lwcX, tyX, jyX, mkX, dzX, cpX, taX, glX, t1X, spX, dgX, kpX, Bool.or_eq_true, Bool.and_eq_true, decide_eq_true_eq, decide_eq_false_iff_not, beq_iff_eq, Bool.or_eq_false_iff, Bool.and_eq_false_iff, beq_eq_false_iff_ne]; omega
theorem sm26 : sM kpmX := fun r j h => by simp only [mkAll, mkA, mlawX, mrP, mrT, mrK, mrM, mvX, meX, mlX, mfaX, stX, hvX, pwX, btX, sgX, mlsX, jdX, tdX, dsX, enX, mftX, ldrX, wmX, maX, lwX, lrX, mrX, feX, ngX, trsX, dysX, gnX, t9X, spmX, kpmX, udX, Bool.or_eq_true, Bool.and_eq_true, decide_eq_true_eq, decide_eq_false_iff_not, beq_iff_eq, Bool.or_eq_false_iff, Bool.and_eq_false_iff, beq_eq_false_iff_ne]; omega
theorem sw27 : sW (cpX 33) := fun r j h => by simp only [ckX, ckT, ckN, ckS, ckP, lawX, eX, lX, pX, fX, snX, brX, wyX, paX, trX, asX, gdX, lnX, lkX, lpX, lwcX, tyX, jyX, mkX, dzX, cpX, taX, glX, t1X, spX, dgX, kpX, Bool.or_eq_true, Bool.and_eq_true, decide_eq_true_eq, decide_eq_false_iff_not, beq_iff_eq, Bool.or_eq_false_iff, Bool.and_eq_false_iff, beq_eq_false_iff_ne]; omega
theorem sm27 : sM udX := fun r j h => by simp only [mkAll, mkA, mlawX, mrP, mrT, mrK, mrM, mvX, meX, mlX, mfaX, stX, hvX, pwX, btX, sgX, mlsX, jdX, tdX, dsX, enX, mftX, ldrX, wmX, maX, lwX, lrX, mrX, feX, ngX, trsX, dysX, gnX, t9X, spmX, kpmX, udX, Bool.or_eq_true, Bool.and_eq_true, decide_eq_true_eq, decide_eq_false_iff_not, beq_iff_eq, Bool.or_eq_false_iff, Bool.and_eq_false_iff, beq_eq_false_iff_ne]; omega
theorem sw28 : sW t1X := fun r j h => by simp only [ckX, ckT, ckN, ckS, ckP, lawX, eX, lX, pX, fX, snX, brX, wyX, paX, trX, asX, gdX, lnX, lkX, lpX, lwcX, tyX, jyX, mkX, dzX, cpX, taX, glX, t1X, spX, dgX, kpX, Bool.or_eq_true, Bool.and_eq_true, decide_eq_true_eq, decide_eq_false_iff_not, beq_iff_eq, Bool.or_eq_false_iff, Bool.and_eq_false_iff, beq_eq_false_iff_ne]; omega
theorem sm28 : sM t9X := fun r j h => by simp only [mkAll, mkA, mlawX, mrP, mrT, mrK, mrM, mvX, meX, mlX, mfaX, stX, hvX, pwX, btX, sgX, mlsX, jdX, tdX, dsX, enX, mftX, ldrX, wmX, maX, lwX, lrX, mrX, feX, ngX, trsX, dysX, gnX, t9X, spmX, kpmX, udX, Bool.or_eq_true, Bool.and_eq_true, decide_eq_true_eq, decide_eq_false_iff_not, beq_iff_eq, Bool.or_eq_false_iff, Bool.and_eq_false_iff, beq_eq_false_iff_ne]; omega
theorem sw29 : sW (fun _ _ => false) := fun _ _ _ => rfl
theorem sm29 : sM (fun _ _ => false) := fun _ _ _ => rfl
section PAIR
variable {sc : List Int32} {t : hy_T}
theorem k0 {a b c : Int} (k : cK t) : hy_Ct sc hm_W_colour 3 [.inr (some 2), .inl a, .inl b, .inl c] t (cQ (fun r _ => r == 5 || r == 6 || r == 7) t) := c_W_colour.mono (fun r t' q => by
  obtain ⟨rfl, rfl⟩ := q
  refine ⟨⟨_, rfl⟩, ?_⟩
  split
  · next h => exact cK_tell k h
  · exact ⟨k, hy_F.rf⟩)
theorem m0 {a b c : Int} (k : mK t) : hy_Ct sc hm_M_colour 2 [.inr (some 59), .inl a, .inl b, .inl c] t (mQ (fun r j => r == 60 || r == 61 || (r == 59 && j == 0)) t) := c_M_colour.mono (fun r t' q => by
  obtain ⟨rfl, rfl⟩ := q
  refine ⟨⟨_, rfl⟩, ?_⟩
  split
  · next h => exact mK_tell k h
  · exact ⟨k, hy_F.rf⟩)
/-- a call whose answers nobody asks, and that leaves the relation alone -/
theorem pop {Rel : hy_T → Prop} {Y : Nat → Nat → Bool} (rel : ∀ t t1 : hy_T, Rel t → (∀ r j, Y r j = true → t1 r j = t r j) → Rel t1) {mW mM : hx_M} {dW dM : Nat} {asW asM : List hy_V} {XW XM : Nat → Nat → Bool} (h : ci_I Rel t) (hW : hy_Ct sc mW dW asW t (cQ XW t)) (hM : ∀ t1, mK t1 → hy_Ct sc mM dM asM t1 (mQ XM t1)) (a : sW XW) (b : sM XM) (yW : frees XW Y) (yM : frees XM Y) : (hy_Ct sc mW dW asW t (fun r t1 => ∃ v : Int, r = some v ∧ ci_I Rel t1)) ∧ ∀ (v : Int) (t1 : hy_T), ci_I Rel t1 → hy_Ct sc mM dM asM t1 (fun r t2 => ∃ v2 : Int, r = some v2 ∧ ci_I Rel t2) :=
  ⟨hW.mono (fun r t1 q => by
    obtain ⟨⟨x, rfl⟩, k, F⟩ := q
    exact ⟨x, rfl, k, mK_W F a h.2.1, rel t t1 h.2.2 (fun r j q => F r j (yW r j q))⟩), fun v t1 h1 => (hM t1 h1.2.1).mono (fun r t2 q => by
    obtain ⟨⟨x, rfl⟩, k, F⟩ := q
    exact ⟨x, rfl, cK_M F b h1.1, k, rel t1 t2 h1.2.2 (fun r j q => F r j (yM r j q))⟩)⟩
/-- a call that changes both sides' share of the relation, or whose answers are asked -/
theorem two {Rel : hy_T → Prop} {mW mM : hx_M} {dW dM : Nat} {asW asM : List hy_V} {XW XM : Nat → Nat → Bool} {QW : Option Int → hy_T → Prop} {QM : hy_T → Option Int → hy_T → Prop} (h : ci_I Rel t) (hW : hy_Ct sc mW dW asW t (fun r t1 => cQ XW t r t1 ∧ QW r t1)) (hM : ∀ t1, mK t1 → hy_Ct sc mM dM asM t1 (fun r t2 => mQ XM t1 r t2 ∧ QM t1 r t2)) (a : sW XW) (b : sM XM) (rel : ∀ (r1 : Option Int) (t1 : hy_T) (r2 : Option Int) (t2 : hy_T), hy_F XW t t1 → mK t1 → hy_F XM t1 t2 → QW r1 t1 → QM t1 r2 t2 → Rel t2) : (hy_Ct sc mW dW asW t (fun r t1 => ∃ v : Int, r = some v ∧ (cQ XW t (some v) t1 ∧ QW (some v) t1))) ∧ ∀ (v : Int) (t1 : hy_T), (cQ XW t (some v) t1 ∧ QW (some v) t1) → hy_Ct sc mM dM asM t1 (fun r t2 => ∃ v2 : Int, r = some v2 ∧ ci_I Rel t2) :=
  ⟨hW.mono (fun r t1 q => by
    obtain ⟨⟨⟨x, rfl⟩, k, F⟩, q2⟩ := q
    exact ⟨x, rfl, ⟨⟨x, rfl⟩, k, F⟩, q2⟩), fun v t1 q1 => by
    obtain ⟨⟨-, k, F⟩, q2⟩ := q1
    have k1 := mK_W F a h.2.1
    exact (hM t1 k1).mono (fun r t2 q => by
      obtain ⟨⟨⟨x, rfl⟩, k2, F2⟩, q3⟩ := q
      exact ⟨x, rfl, cK_M F2 b k, k2, rel _ t1 _ t2 F k1 F2 q2 q3⟩)⟩
theorem twoE {Rel : hy_T → Prop} {mW mM : hx_M} {dW dM : Nat} {asW asM : List hy_V} {XW XM : Nat → Nat → Bool} {QW : Option Int → hy_T → Prop} {QM : hy_T → Option Int → hy_T → Prop} (h : ci_I Rel t) (hW : hy_Ct sc mW dW asW t (fun r t1 => cQ XW t r t1 ∧ QW r t1)) (hM : ∀ t1, mK t1 → hy_Ct sc mM dM asM t1 (fun r t2 => mQ XM t1 r t2 ∧ QM t1 r t2)) (a : sW XW) (b : sM XM) (rel : ∀ (r1 : Option Int) (t1 : hy_T) (r2 : Option Int) (t2 : hy_T), hy_F XW t t1 → mK t1 → hy_F XM t1 t2 → QW r1 t1 → QM t1 r2 t2 → r2 = r1 ∧ Rel t2) : (hy_Ct sc mW dW asW t (fun r t1 => ∃ v : Int, r = some v ∧ (cQ XW t (some v) t1 ∧ QW (some v) t1))) ∧ ∀ (v : Int) (t1 : hy_T), (cQ XW t (some v) t1 ∧ QW (some v) t1) → hy_Ct sc mM dM asM t1 (fun r t2 => r = some v ∧ ci_I Rel t2) :=
  ⟨hW.mono (fun r t1 q => by
    obtain ⟨⟨⟨x, rfl⟩, k, F⟩, q2⟩ := q
    exact ⟨x, rfl, ⟨⟨x, rfl⟩, k, F⟩, q2⟩), fun v t1 q1 => by
    obtain ⟨⟨-, k, F⟩, q2⟩ := q1
    have k1 := mK_W F a h.2.1
    exact (hM t1 k1).mono (fun r t2 q => by
      obtain ⟨⟨-, k2, F2⟩, q3⟩ := q
      obtain ⟨e, hr⟩ := rel _ t1 r t2 F k1 F2 q2 q3
      exact ⟨e, cK_M F2 b k, k2, hr⟩)⟩
theorem cK_0 : cK t0 := ⟨⟨⟨⟨fun j hj => (show 0 ≤ (0 : Int) ∧ (0 : Int) ≤ 255 by decide), by decide, by decide, by decide⟩, ⟨by decide, by decide, fun j hj => (show 0 ≤ (0 : Int) by decide)⟩⟩, fun j hj => (show 0 ≤ (0 : Int) by decide), fun j hj => (show rg 0 ∧ rg 0 ∧ rg 0 ∧ rg 0 by decide)⟩,
  ⟨⟨by decide, by decide, by decide, fun j hj => (show -9999 ≤ (0 : Int) ∧ (0 : Int) ≤ 9999 by decide)⟩, ⟨by decide, by decide, by decide, fun j hj => (show -9999 ≤ (0 : Int) ∧ (0 : Int) ≤ 9999 by decide)⟩⟩, fun j hj => (show 0 ≤ (0 : Int) ∧ (0 : Int) < 64 by decide), fun j hj => (show (-1 ≤ (0 : Int) ∧ (0 : Int) < 12) ∧ -1 ≤ (0 : Int) ∧ (0 : Int) < 12 by decide)⟩
theorem mK_0 : mK t0 := ⟨⟨⟨by decide, fun q h1 h2 => absurd h2 (show ¬ (q : Int) < 0 by omega)⟩, fun j hj => ⟨(show (-1 ≤ (-1 : Int) ∧ (-1 : Int) < 12) ∧ -1 ≤ (0 : Int) ∧ (0 : Int) < 12 by decide), fun h => absurd (show t0 60 j = -1 from rfl) h⟩⟩, ⟨fun j hj => (show 0 ≤ (12 : Int) ∧ (12 : Int) ≤ 12 by decide), fun j hj => (show 0 ≤ (0 : Int) ∧ (0 : Int) ≤ 12 by decide)⟩,
  ⟨⟨by decide, by decide, by decide, fun i h => absurd h (show ¬ (i : Int) < 0 by omega)⟩, ⟨by decide, by decide, by decide, fun i h => absurd h (show ¬ (i : Int) < 0 by omega)⟩⟩, (show 0 ≤ (0 : Int) ∧ (0 : Int) ≤ 260 by decide)⟩
end PAIR
section LOOP
variable {sc : List Int32} {d : Nat} {t : hy_T} {Q : Option Int → hy_T → Prop}
theorem law_end {v3 : hy_V} (hQ : Q (some 1) t) : hy_W sc hm_law d 984 [.inr (some 0), .inr (some 2), .inr (some 59), v3] [] t Q := by
  refine hy_const (i := 984) (n := 1) (by decide +kernel) (by decide) ?_
  exact hy_zreturn (i := 985) (by decide +kernel) rfl (.inr rfl) hQ
theorem law_head (i : Nat) (hl : sc.length ≤ 90000 ∧ i ≤ 90000) (h1 : sc.length < i + 7 → hy_W sc hm_law d 984 [.inr (some 0), .inr (some 2), .inr (some 59), .inl (i : Int)] [] t Q) (h2 : i + 7 ≤ sc.length → hy_W sc hm_law d 16 [.inr (some 0), .inr (some 2), .inr (some 59), .inl (i : Int)] [] t Q) : hy_W sc hm_law d 10 [.inr (some 0), .inr (some 2), .inr (some 59), .inl (i : Int)] [] t Q := by
  refine hy_iload (i := 10) (k := 3) (by decide +kernel) rfl ?_
  refine hy_aload (i := 11) (k := 0) (by decide +kernel) rfl ?_
  refine hy_alen_s (p := 12) (by decide +kernel) (by omega) ?_
  refine hy_const (i := 13) (n := 7) (by decide +kernel) (by decide) ?_
  refine hy_isub (i := 14) (by decide +kernel) ⟨by omega, by omega⟩ ?_
  exact hy_ic_gt (i := 15) (tt := 984) (by decide +kernel) (fun q => h1 (by omega)) (fun q => h2 (by omega))
theorem law_next (i : Nat) (hl : i ≤ 90000) (h : hy_W sc hm_law d 10 [.inr (some 0), .inr (some 2), .inr (some 59), .inl ((i + 7 : Nat) : Int)] [] t Q) : hy_W sc hm_law d 982 [.inr (some 0), .inr (some 2), .inr (some 59), .inl (i : Int)] [] t Q := by
  refine hy_iinc (i := 982) (k := 3) (n := 7) (by decide +kernel) rfl ⟨by omega, by omega⟩ ?_
  exact hy_goto (i := 983) (tt := 10) (by decide +kernel) h
theorem law_sw (i : Nat) (hi : i + 7 ≤ sc.length ∧ sc.length ≤ 90000) (h : ∀ (x : Int) (tt : Nat), x = hz_iand (sv sc i) 31 → (if x < 0 ∨ 29 < x then tt = 982 else [22, 59, 96, 133, 190, 207, 224, 241, 258, 275, 302, 329, 366, 403, 450, 507, 574, 601, 638, 695, 752, 779, 826, 853, 880, 917, 934, 941, 948, 965][x.toNat]? = some tt) → hy_W sc hm_law d tt [.inr (some 0), .inr (some 2), .inr (some 59), .inl (i : Int)] [] t Q) : hy_W sc hm_law d 16 [.inr (some 0), .inr (some 2), .inr (some 59), .inl (i : Int)] [] t Q := by
  refine hy_aload (i := 16) (k := 0) (by decide +kernel) rfl ?_
  refine hy_iload (i := 17) (k := 3) (by decide +kernel) rfl ?_
  refine hy_iald_s (p := 18) (by decide +kernel) ⟨by omega, by omega⟩ ?_
  refine hy_const (i := 19) (n := 31) (by decide +kernel) (by decide) ?_
  refine hy_iand (i := 20) (by decide +kernel) ?_
  rw [show (i : Int).toNat = i from rfl]
  have hx : 0 ≤ hz_iand (sv sc i) 31 ∧ hz_iand (sv sc i) 31 ≤ 31 := hz_iand_le (by decide)
  have hop : (hx_ops hm_law)[21]? = some (.tableswitch 982 0 29 #[22, 59, 96, 133, 190, 207, 224, 241, 258, 275, 302, 329, 366, 403, 450, 507, 574, 601, 638, 695, 752, 779, 826, 853, 880, 917, 934, 941, 948, 965]) := by decide +kernel
  generalize hz_iand (sv sc i) 31 = x at hx h ⊢
  by_cases hb : 29 < x
  · refine hy_tsw (i := 21) (tt := 982) hop (by rw [if_pos (.inr hb)]; rfl) (h x 982 rfl (by rw [if_pos (.inr hb)]))
  · have hn : ¬ (x < 0 ∨ 29 < x) := by omega
    have key : ∀ n : Nat, n < 30 → ∃ tt : Nat, [22, 59, 96, 133, 190, 207, 224, 241, 258, 275, 302, 329, 366, 403, 450, 507, 574, 601, 638, 695, 752, 779, 826, 853, 880, 917, 934, 941, 948, 965][n]? = some tt ∧ (#[22, 59, 96, 133, 190, 207, 224, 241, 258, 275, 302, 329, 366, 403, 450, 507, 574, 601, 638, 695, 752, 779, 826, 853, 880, 917, 934, 941, 948, 965] : Array Int).toList[n]? = some (tt : Int) := by decide +kernel
    obtain ⟨tt, e1, e2⟩ := key x.toNat (by omega)
    exact hy_tsw (i := 21) (tt := tt) hop (by rw [if_neg hn, Int.sub_zero]; exact e2) (h x tt rfl (by rw [if_neg hn]; exact e1))
end LOOP
/-! the two law readers: what is dead stays so -/
def dd_good (F : hy_T → hy_T) : Prop := ∀ t : hy_T, t 3 4 ≠ 0 → F t 3 4 = t 3 4
theorem dd_next {t : hy_T} (h : t 3 4 ≠ 0) : tp_next t = -1 := if_neg (fun q => h q.1)
theorem dd_emit (op arg : Int) (t : hy_T) : lp_emit t op arg 3 4 = t 3 4 := by
  unfold lp_emit
  split
  · rfl
  · rfl
theorem dd_lead (l : Int) (t : hy_T) : lp_lead t l 3 4 = t 3 4 := by
  unfold lp_lead
  split
  · rfl
  · rfl
theorem dd_fail {t : hy_T} (h : t 3 4 ≠ 0) (n w : Int) : tp_fail t n w = t := if_neg h
theorem dd_take {t : hy_T} (h : t 3 4 ≠ 0) {s : Int} (hs : 0 ≤ s) : tp_take t s = t := by
  unfold tp_take
  rw [dd_next h, if_neg (by omega), dd_fail h]
theorem dd_loop {p : Int → Bool} (hp : p (-1) = false) (F : hy_T → hy_T) : ∀ (n : Nat) {t : hy_T}, t 3 4 ≠ 0 → rx_loop p F n t = t
  | 0, t, h => rfl
  | n + 1, t, h => by
    simp only [rx_loop]
    rw [dd_next h, hp, if_neg Bool.false_ne_true]
theorem dd_factor (S : Option (hy_T → hy_T)) : dd_good (rx_factor S) := fun t h => by
  unfold rx_factor
  rw [dd_next h, if_neg (by decide), if_neg (by decide), if_pos (by decide), dd_fail h]
theorem dd_product {F : hy_T → hy_T} (hF : dd_good F) : dd_good (rx_product F) := fun t h => by
  have e := hF t h
  unfold rx_product
  rw [dd_loop (by decide) F 240 (by rw [e]; exact h)]
  exact e
theorem dd_sum {F : hy_T → hy_T} (hF : dd_good F) : dd_good (rx_sum F) := fun t h => by
  have e := hF t h
  unfold rx_sum
  rw [dd_loop (by decide) F 240 (by rw [e]; exact h)]
  exact e
theorem dd_sumL : ∀ n, dd_good (rx_sumL n)
  | 0 => dd_sum (dd_product (dd_factor _))
  | n + 1 => dd_sum (dd_product (dd_factor _))
/-! the two states side by side -/
/-- a step of the class and a code of the model say the same -/
def tl_cm (op arg x : Int) : Prop := (op = 48 ∧ x = arg ∧ 0 ≤ arg ∧ arg < 1048576) ∨ (op = 97 ∧ x = 1048576 + arg ∧ 0 ≤ arg ∧ arg < 10) ∨ (az_sgn op ≠ -1 ∧ x = 1048576 * az_sgn op)
def tl_S (B : Int → Int) (D E m0 : Nat) (t : hy_T) (p : Int) (m : Nat) (f : Nat → Int) : Prop :=
  ((t 3 4 = 0 ∧ t 3 3 = p) ∧ (0 ≤ p ∧ p ≤ 240) ∧ ∀ q : Int, 0 ≤ q → (if q < t 3 2 then t 4 q.toNat else -1) = B q) ∧ (t 19 3 = m + D ∧ ((m : Int) + E ≤ p ∧ D ≤ E) ∧ m0 ≤ m) ∧ ∀ j : Nat, m0 ≤ j → j < m → tl_cm (t 20 (j + D)) (t 21 (j + D)) (f j)
section TLS
variable {B : Int → Int} {D E m0 : Nat} {t : hy_T} {p : Int} {m : Nat} {f : Nat → Int}
theorem tl_S.ok (h : tl_S B D E m0 t p m f) : t 3 4 = 0 := h.1.1.1
theorem tl_S.at_ (h : tl_S B D E m0 t p m f) : t 3 3 = p := h.1.1.2
theorem tl_S.p0 (h : tl_S B D E m0 t p m f) : 0 ≤ p := h.1.2.1.1
theorem tl_S.p1 (h : tl_S B D E m0 t p m f) : p ≤ 240 := h.1.2.1.2
theorem tl_S.by_ (h : tl_S B D E m0 t p m f) : ∀ q : Int, 0 ≤ q → (if q < t 3 2 then t 4 q.toNat else -1) = B q := h.1.2.2
theorem tl_S.cn (h : tl_S B D E m0 t p m f) : t 19 3 = m + D := h.2.1.1
theorem tl_S.le (h : tl_S B D E m0 t p m f) : (m : Int) + E ≤ p := h.2.1.2.1.1
theorem tl_S.de (h : tl_S B D E m0 t p m f) : D ≤ E := h.2.1.2.1.2
theorem tl_S.re (h : tl_S B D E m0 t p m f) (E' : Nat) (h1 : (m : Int) + E' ≤ p) (h2 : D ≤ E') : tl_S B D E' m0 t p m f := ⟨h.1, ⟨h.2.1.1, ⟨h1, h2⟩, h.2.1.2.2⟩, h.2.2⟩
theorem tl_S.m0l (h : tl_S B D E m0 t p m f) : m0 ≤ m := h.2.1.2.2
theorem tl_S.cs (h : tl_S B D E m0 t p m f) : ∀ j : Nat, m0 ≤ j → j < m → tl_cm (t 20 (j + D)) (t 21 (j + D)) (f j) := h.2.2
end TLS
theorem tl_S.next {B : Int → Int} {D E m0 : Nat} {t : hy_T} {p : Int} {m : Nat} {f : Nat → Int} (h : tl_S B D E m0 t p m f) : tp_next t = B p := by
  have e := h.by_ p h.p0
  unfold tp_next
  rw [h.at_]
  by_cases hq : p < t 3 2
  · rw [if_pos ⟨h.ok, h.p0, hq⟩, ← e, if_pos hq]
  · rw [if_neg (fun q => hq q.2.2), ← e, if_neg hq]
theorem tl_S.step {B : Int → Int} (hB : az_by B) {D E m0 : Nat} {t : hy_T} {p : Int} {m : Nat} {f : Nat → Int} (h : tl_S B D E m0 t p m f) (hn : 0 ≤ B p) : tl_S B D (E + 1) m0 (tp_step t) (p + 1) m f := by
  have hp : p < 240 := by
    refine Decidable.byContradiction (fun q => ?_)
    have := (hB p).2.2 (by omega)
    omega
  have := h.p0
  have := h.le
  exact ⟨⟨⟨h.ok, by show t 3 3 + 1 = p + 1; rw [h.at_]⟩, ⟨by omega, by omega⟩, h.by_⟩, ⟨h.cn, ⟨by omega, Nat.le_succ_of_le h.de⟩, h.m0l⟩, h.cs⟩
theorem tl_S.fail {B : Int → Int} {D E m0 : Nat} {t : hy_T} {p : Int} {m : Nat} {f : Nat → Int} (h : tl_S B D E m0 t p m f) {n : Int} (hn : 1 ≤ n) : tp_fail t n (t 3 3) 3 4 = -1000 * n - p ∧ tp_fail t n (t 3 3) 3 4 ≠ 0 := by
  have h0 := h.p0
  have e : tp_fail t n (t 3 3) = hy_up t 3 4 (-1000 * n - t 3 3) := if_pos h.ok
  have e1 : hy_up t 3 4 (-1000 * n - t 3 3) 3 4 = -1000 * n - t 3 3 := rfl
  rw [e, e1, h.at_]
  exact ⟨rfl, by omega⟩
/-- a code more on both sides -/
theorem tl_S.emit {B : Int → Int} {D E m0 : Nat} {t : hy_T} {p : Int} {m : Nat} {f : Nat → Int} (h : tl_S B D (E + 1) m0 t p m f) (hD : D ≤ E) {op arg x : Int} (hc : tl_cm op arg x) : tl_S B D E m0 (lp_emit t op arg) p (m + 1) (su f m x) := by
  have h1 := h.p1
  have hl := h.le
  have h2 := h.cn
  have e : lp_emit t op arg = hy_up (hy_up (hy_up t 20 (m + D) op) 21 (m + D) arg) 19 3 (t 19 3 + 1) := by
    unfold lp_emit
    rw [if_pos (by omega), show (t 19 3).toNat = m + D by omega]
  have e20 : ∀ i, lp_emit t op arg 20 i = if i = m + D then op else t 20 i := fun i => by
    rw [e, hy_up_ne (by decide), hy_up_ne (by decide)]
    simp only [hy_up, true_and]
  have e21 : ∀ i, lp_emit t op arg 21 i = if i = m + D then arg else t 21 i := fun i => by
    rw [e, hy_up_ne (by decide)]
    simp only [hy_up, true_and]
    split
    · rfl
    · rw [if_neg (by omega)]
  have e3 : ∀ j, lp_emit t op arg 3 j = t 3 j := fun j => by rw [e]; rfl
  have e4 : ∀ j, lp_emit t op arg 4 j = t 4 j := fun j => by rw [e]; rfl
  have e19 : lp_emit t op arg 19 3 = t 19 3 + 1 := by rw [e]; rfl
  refine ⟨⟨⟨by rw [e3]; exact h.ok, by rw [e3]; exact h.at_⟩, ⟨h.p0, h.p1⟩, fun q hq => by rw [e3, e4]; exact h.by_ q hq⟩, ⟨by rw [e19]; omega, ⟨by omega, hD⟩, Nat.le_succ_of_le h.m0l⟩, fun j h3 h4 => ?_⟩
  rw [e20, e21]
  by_cases hj : j = m
  · rw [if_pos (by omega), if_pos (by omega), show su f m x j = x by unfold su; rw [if_pos hj]]
    exact hc
  · rw [if_neg (by omega), if_neg (by omega), show su f m x j = f j by unfold su; rw [if_neg hj]]
    exact h.cs j h3 (by omega)
theorem tl_num {B : Int → Int} (hB : az_by B) {D E m0 : Nat} {m : Nat} {f : Nat → Int} : ∀ (n : Nat) {t : hy_T} {p : Int} (c : Int), tl_S B D E m0 t p m f →
    (∀ e, az_num B n p c = .inl e → rn_end (rn_N n t c) 3 4 = e ∧ rn_end (rn_N n t c) 3 4 ≠ 0) ∧
    (∀ q, az_num B n p c = .inr q → tl_S B D E m0 (rn_N n t c).1 q.1 m f ∧ rn_end (rn_N n t c) = lp_emit (rn_N n t c).1 48 q.2)
  | 0, t, p, c, h => by
    have e := h.next
    simp only [rn_N, az_num]
    by_cases hd : 48 ≤ B p ∧ B p ≤ 57
    · rw [if_pos hd]
      refine ⟨fun e1 he => ?_, fun q he => by cases he⟩
      cases he
      unfold rn_end
      rw [dd_emit, e, if_pos hd]
      have := h.fail (n := 2) (by decide)
      exact ⟨by rw [this.1]; omega, this.2⟩
    · rw [if_neg hd]
      refine ⟨fun e1 he => (by cases he), fun q he => ?_⟩
      cases he
      refine ⟨h, ?_⟩
      unfold rn_end
      rw [e, if_neg hd]
  | n + 1, t, p, c, h => by
    have e := h.next
    simp only [rn_N, az_num]
    rw [e]
    by_cases hd : 48 ≤ B p ∧ B p ≤ 57
    · rw [if_pos hd, if_pos hd]
      have hs := h.step hB (show 0 ≤ B p by omega)
      exact tl_num hB n (10 * c + B p - 48) (hs.re E (by have := hs.le; omega) h.de)
    · rw [if_neg hd, if_neg hd]
      refine ⟨fun e1 he => (by cases he), fun q he => ?_⟩
      cases he
      refine ⟨h, ?_⟩
      unfold rn_end
      rw [e, if_neg hd]
/-- what lay there stays -/
def tl_G (D : Nat) (t t' : hy_T) (m : Nat) (f : Nat → Int) (m' : Nat) (f' : Nat → Int) : Prop := m ≤ m' ∧ (∀ j : Nat, j < m → f' j = f j) ∧ ∀ j : Nat, j < m + D → t' 20 j = t 20 j ∧ t' 21 j = t 21 j
theorem tl_G.rf {D : Nat} {t : hy_T} {m : Nat} {f : Nat → Int} : tl_G D t t m f m f := ⟨Nat.le_refl _, fun _ _ => rfl, fun _ _ => ⟨rfl, rfl⟩⟩
theorem tl_G.tr {D : Nat} {a b c : hy_T} {m m' m'' : Nat} {f f' f'' : Nat → Int} (h : tl_G D a b m f m' f') (k : tl_G D b c m' f' m'' f'') : tl_G D a c m f m'' f'' := by
  obtain ⟨h1, h2, h3⟩ := h
  obtain ⟨k1, k2, k3⟩ := k
  refine ⟨by omega, fun j hj => (k2 j (by omega)).trans (h2 j hj), fun j hj => ?_⟩
  obtain ⟨x, y⟩ := k3 j (by omega)
  rw [x, y]
  exact h3 j hj
theorem tl_G.same {D : Nat} {t t' : hy_T} {m : Nat} {f : Nat → Int} (h0 : t' 20 = t 20) (h1 : t' 21 = t 21) : tl_G D t t' m f m f := ⟨Nat.le_refl _, fun _ _ => rfl, fun _ _ => ⟨by rw [h0], by rw [h1]⟩⟩
theorem tl_G.emit {D : Nat} {t : hy_T} {m : Nat} {f : Nat → Int} (hc : t 19 3 = m + D) (op arg x : Int) : tl_G D t (lp_emit t op arg) m f (m + 1) (su f m x) := by
  refine ⟨by omega, fun j hj => ?_, fun j hj => ?_⟩
  · unfold su
    rw [if_neg (by omega)]
  · unfold lp_emit
    split
    · constructor
      · rw [hy_up_ne (by decide), hy_up_ne (by decide)]
        simp only [hy_up, true_and]
        rw [if_neg (by omega)]
      · rw [hy_up_ne (by decide)]
        simp only [hy_up, true_and]
        rw [if_neg (by omega), if_neg (by omega)]
    · exact ⟨rfl, rfl⟩
theorem rn_N_row (n : Nat) : ∀ (t : hy_T) (c : Int), (rn_N n t c).1 20 = t 20 ∧ (rn_N n t c).1 21 = t 21 ∧ (rn_N n t c).1 19 = t 19 := by
  induction n with
  | zero => exact fun t c => ⟨rfl, rfl, rfl⟩
  | succ n ih =>
    intro t c
    simp only [rn_N]
    split
    · exact ih _ _
    · exact ⟨rfl, rfl, rfl⟩
/-- how many more lie on the stack behind codes, and how many at most between -/
def tl_H (e h : Int) (m : Nat) (f : Nat → Int) (m' : Nat) : Prop := az_dep f m m' = e ∧ ∀ j, m ≤ j → j ≤ m' → az_dep f m j ≤ h
theorem az_dep_add (f : Nat → Int) {a m : Nat} (ha : a ≤ m) : ∀ k, m ≤ k → az_dep f a k = az_dep f a m + az_dep f m k
  | 0, h => by
    obtain rfl : m = 0 := by omega
    rw [az_dep_a f 0 0 (Nat.le_refl _)]
    omega
  | k + 1, h => by
    by_cases hk : m = k + 1
    · rw [← hk, az_dep_a f m m (Nat.le_refl _)]
      omega
    · rw [az_dep_s f a k (by omega), az_dep_s f m k (by omega), az_dep_add f ha k (by omega)]
      omega
theorem tl_H.rf {h : Int} (hh : 0 ≤ h) {m : Nat} {f : Nat → Int} : tl_H 0 h m f m := by
  refine ⟨az_dep_a f m m (Nat.le_refl _), fun j h1 h2 => ?_⟩
  rw [az_dep_a f m j h2]
  exact hh
theorem tl_H.cong {e h : Int} {m m' : Nat} {f g : Nat → Int} (k : tl_H e h m f m') (hg : ∀ j, j < m' → g j / 1048576 = f j / 1048576) : tl_H e h m g m' := by
  refine ⟨(az_dep_eq m' hg).trans k.1, fun j h1 h2 => ?_⟩
  rw [az_dep_eq j (fun i hi => hg i (by omega))]
  exact k.2 j h1 h2
theorem tl_H.tr {e e1 e2 h h1 h2 : Int} {m m1 m2 : Nat} {f1 f2 : Nat → Int} (k1 : tl_H e1 h1 m f1 m1) (k2 : tl_H e2 h2 m1 f2 m2) (a1 : m ≤ m1) (a2 : m1 ≤ m2) (hf : ∀ j, j < m1 → f2 j = f1 j) (he : e1 + e2 = e) (b1 : h1 ≤ h) (b2 : e1 + h2 ≤ h) : tl_H e h m f2 m2 := by
  obtain ⟨c1, c2⟩ := k1.cong (g := f2) (fun j hj => by rw [hf j hj])
  obtain ⟨d1, d2⟩ := k2
  refine ⟨by rw [az_dep_add f2 a1 m2 a2]; omega, fun j q1 q2 => ?_⟩
  by_cases hj : j ≤ m1
  · have := c2 j q1 hj
    omega
  · rw [az_dep_add f2 a1 j (by omega)]
    have := d2 j (by omega) q2
    omega
theorem tl_H.note {e e' h h' v x : Int} {m m' : Nat} {f : Nat → Int} (k : tl_H e h m f m') (hm : m ≤ m') (hx : az_eff (x / 1048576) = v) (he : e + v = e') (b1 : h ≤ h') (b2 : e' ≤ h') : tl_H e' h' m (su f m' x) (m' + 1) := by
  have c := k.cong (g := su f m' x) (fun j hj => by unfold su; rw [if_neg (by omega)])
  have es : az_dep (su f m' x) m (m' + 1) = e' := by
    rw [az_dep_s _ m m' hm, c.1, show su f m' x m' = x by unfold su; rw [if_pos rfl], hx]
    exact he
  refine ⟨es, fun j q1 q2 => ?_⟩
  by_cases hj : j ≤ m'
  · have := c.2 j q1 hj
    omega
  · obtain rfl : j = m' + 1 := by omega
    rw [es]
    exact b2
theorem tl_H.w {e h h' : Int} {m m' : Nat} {f : Nat → Int} (k : tl_H e h m f m') (b : h ≤ h') : tl_H e h' m f m' := ⟨k.1, fun j h1 h2 => by have := k.2 j h1 h2; omega⟩
theorem az_eff_b {g : Int} (h : 2 ≤ g ∧ g ≤ 9) : az_eff (1048576 * g / 1048576) = -1 := by
  unfold az_eff
  rw [if_neg (by omega), if_neg (by omega)]
/-- the machine that begins with an operand -/
def az_go (B : Int → Int) (b n : Nat) (s : Zs) : Int ⊕ Zs := match az_fac B 8 s with | .inl e => .inl e | .inr s1 => az_sum B b n s1
/-- behind an operand -/
def tl_O (B : Int → Int) (D E m0 b : Nat) (hh : Int) (t t' : hy_T) (G : Int ⊕ Zs) (p : Int) (m : Nat) (f : Nat → Int) (w : List Int) (o : Int) : Prop :=
  (t' 3 4 ≠ 0 ∧ G = .inl (t' 3 4)) ∨ ∃ (n' : Nat) (p' : Int) (m' : Nat) (f' : Nat → Int), G = az_sum B b n' (p', m', f', w, o) ∧ tl_S B D E m0 t' p' m' f' ∧ p < p' ∧ 250 ≤ n' + p' ∧ tl_G D t t' m f m' f' ∧ tl_H 1 hh m f' m'
theorem az_fac_fuel {B : Int → Int} : ∀ (k : Nat) (n n' : Nat) (s : Zs), s.2.2.2.2 = 6 - (k : Int) → k < n → k < n' → az_fac B n s = az_fac B n' s
  | k, 0, _, s, _, h, _ => absurd h (by omega)
  | k, _ + 1, 0, s, _, _, h => absurd h (by omega)
  | 0, n + 1, n' + 1, s, ho, _, _ => by
    simp only [az_fac]
    have e : az_open 14 s = .inl (-5000 - s.1) := if_pos (by omega)
    rw [e]
  | k + 1, n + 1, n' + 1, s, ho, h1, h2 => by
    simp only [az_fac]
    have e : az_open 14 s = .inr (s.1 + 1, s.2.1, s.2.2.1, (1048576 * 14) :: s.2.2.2.1, s.2.2.2.2 + 1) := if_neg (by omega)
    rw [e]
    dsimp only
    rw [az_fac_fuel k n n' (s.1 + 1, s.2.1, s.2.2.1, (1048576 * 14) :: s.2.2.2.1, s.2.2.2.2 + 1) (by show s.2.2.2.2 + 1 = _; omega) (by omega) (by omega)]
def az_push : List Int → Nat → (Nat → Int) → Nat × (Nat → Int)
  | [], m, f => (m, f)
  | x :: q, m, f => az_push q (m + 1) (su f m (1048576 * (x / 1048576)))
abbrev az_pm (x : Int) : Prop := 2 ≤ x / 1048576 ∧ x / 1048576 ≤ 6
theorem az_close_push {w : List Int} (hw : az_hd w) : ∀ (q : List Int) (m : Nat) (f : Nat → Int), (∀ x, x ∈ q → az_pm x) → az_close true (q ++ w) m f = (w, az_push q m f)
  | [], m, f, _ => by
    show az_close true w m f = (w, m, f)
    cases w with
    | nil => rfl
    | cons x w =>
      simp only [az_close]
      have := hw x rfl
      rw [if_neg (by unfold az_popc; omega)]
  | x :: q, m, f, h => by
    have hx := h x (List.mem_cons_self ..)
    show az_close true (x :: (q ++ w)) m f = _
    simp only [az_close, az_push]
    have hc : az_popc true x := by
      by_cases h4 : 4 ≤ x / 1048576
      · exact .inl ⟨h4, hx.2⟩
      · exact .inr ⟨rfl, by have := hx.1; omega⟩
    rw [if_pos hc]
    exact az_close_push hw q _ _ (fun y hy => h y (List.mem_cons_of_mem _ hy))
/-- behind a sum -/
def tl_U (B : Int → Int) (D E m0 b : Nat) (hh : Int) (t t' : hy_T) (G : Int ⊕ Zs) (p : Int) (m : Nat) (f : Nat → Int) (w : List Int) (o : Int) : Prop :=
  (t' 3 4 ≠ 0 ∧ G = .inl (t' 3 4)) ∨ ∃ (n' : Nat) (p' : Int) (m' : Nat) (f' : Nat → Int) (q : List Int), G = az_sum B b n' (p', m', f', q ++ w, o) ∧ ((∀ x, x ∈ q → az_pm x) ∧ az_sgn (B p') = -1) ∧ tl_S B D E m0 t' p' (az_push q m' f').1 (az_push q m' f').2 ∧ p < p' ∧ 250 ≤ n' + p' ∧ tl_G D t t' m f (az_push q m' f').1 (az_push q m' f').2 ∧ tl_H 1 hh m (az_push q m' f').2 (az_push q m' f').1
theorem az_hd14 (w : List Int) : az_hd ((1048576 * 14) :: w) := fun x hx => by
  have : 1048576 * 14 = x := by simpa using hx
  omega
theorem az_has_top {n : Nat} (q w : List Int) (hn : q.length < n) : az_has n (q ++ (1048576 * 14) :: w) = true := by
  induction q generalizing n with
  | nil =>
    cases n with
    | zero => omega
    | succ n => simp [az_has]
  | cons x q ih =>
    cases n with
    | zero => omega
    | succ n =>
      show az_has (n + 1) (x :: (q ++ (1048576 * 14) :: w)) = true
      simp only [az_has]
      rw [ih (by simpa using hn), Bool.or_true]
theorem tl_letter {c : Int} : -1 ≤ lp_letter c ∧ lp_letter c < 10 := by
  unfold lp_letter
  repeat (split; omega)
  omega
theorem tl_sg93 : az_sgn 93 = -1 := by decide
/-- a factor, where a sum in brackets is known -/
theorem tl_fac {B : Int → Int} (hB : az_by B) {D E m0 : Nat} (k : Nat) (hk : k ≤ 6) (S : Option (hy_T → hy_T)) (hS0 : k = 0 → S = none)
    (hS1 : ∀ k', k = k' + 1 → ∃ F, S = some F ∧ dd_good F ∧ ∀ (t : hy_T) (p : Int) (m : Nat) (f : Nat → Int) (w : List Int) (o : Int) (b n E : Nat), tl_S B D E m0 t p m f → o = 6 - (k' : Int) → az_hd w → b ≤ w.length → 250 ≤ n + p → tl_U B D E m0 b (3 + 2 * (k' : Int)) t (F t) (az_go B b n (p, m, f, w, o)) p m f w o)
    {t : hy_T} {p : Int} {m : Nat} {f : Nat → Int} {w : List Int} {o : Int} {b n : Nat} (h : tl_S B D E m0 t p m f) (ho : o = 6 - (k : Int)) (hb : b ≤ w.length) (hn : 250 ≤ n + p) : tl_O B D E m0 b (1 + 2 * (k : Int)) t (rx_factor S t) (az_go B b n (p, m, f, w, o)) p m f w o := by
  have e := h.next
  have hp0 := h.p0
  have hle := h.le
  have egd : az_go B b n (p, m, f, w, o) = match az_fac B 8 (p, m, f, w, o) with | .inl e => .inl e | .inr s1 => az_sum B b n s1 := rfl
  unfold rx_factor
  rw [e]
  by_cases h91 : B p = 91
  · rw [if_neg (show ¬ (48 ≤ B p ∧ B p ≤ 57) by omega), if_pos h91]
    have ef : az_fac B 8 (p, m, f, w, o) = match az_open 14 (p, m, f, w, o) with | .inl e => .inl e | .inr s1 => az_fac B 7 s1 := by
      show (if B p = 91 then _ else _) = _
      rw [if_pos h91]
      rfl
    cases k with
    | zero =>
      rw [hS0 rfl]
      have eo : az_open 14 (p, m, f, w, o) = .inl (-5000 - p) := if_pos (show o = 6 by omega)
      rw [eo] at ef
      refine .inl ?_
      have := h.fail (n := 5) (by decide)
      refine ⟨this.2, ?_⟩
      rw [egd, ef]
      show Sum.inl (-5000 - p) = Sum.inl (tp_fail t 5 (t 3 3) 3 4)
      rw [this.1]
      congr 1
    | succ k' =>
      obtain ⟨F, e1, hdd, hF⟩ := hS1 k' rfl
      rw [e1]
      have eo : az_open 14 (p, m, f, w, o) = .inr (p + 1, m, f, (1048576 * 14) :: w, o + 1) := if_neg (show ¬ o = 6 by omega)
      rw [eo] at ef
      dsimp only at ef ⊢
      have hU := hF (tp_step t) (p + 1) m f ((1048576 * 14) :: w) (o + 1) b n (E + 1) (h.step hB (by omega)) (by omega) (az_hd14 w) (by simp; omega) (by omega)
      have eg : az_go B b n (p, m, f, w, o) = az_go B b n (p + 1, m, f, (1048576 * 14) :: w, o + 1) := by
        rw [egd, ef, az_fac_fuel k' 7 8 (p + 1, m, f, (1048576 * 14) :: w, o + 1) (show o + 1 = _ by omega) (by omega) (by omega)]
        rfl
      rw [eg]
      have hg0 : tl_G D t (tp_step t) m f m f := tl_G.same rfl rfl
      rcases hU with ⟨d1, d2⟩ | ⟨n', p', m', f', q, u1, ⟨u2, u3⟩, u4, u5, u6, u7, u8⟩
      · refine .inl ?_
        rw [dd_take d1 (by decide)]
        exact ⟨d1, d2⟩
      · have e2 := u4.next
        rw [u1]
        have hfu : n' ≠ 0 := by
          have := u4.p1
          omega
        obtain ⟨n'', rfl⟩ : ∃ x, n' = x + 1 := ⟨n' - 1, by omega⟩
        have hh : az_has ((q ++ (1048576 * 14) :: w).length - b) (q ++ (1048576 * 14) :: w) = true := az_has_top q w (by simp; omega)
        by_cases h93 : B p' = 93
        · have et : tp_take (F (tp_step t)) 93 = tp_step (F (tp_step t)) := by
            unfold tp_take
            rw [e2, if_pos h93]
            rfl
          rw [et]
          refine .inr ⟨n'', p' + 1, (az_push q m' f').1, (az_push q m' f').2, ?_, (u4.step hB (by omega)).re E (by have := (u4.step hB (show 0 ≤ B p' by omega)).le; omega) h.de, by omega, by omega, (hg0.tr u7).tr (tl_G.same rfl rfl), u8.w (by push_cast; omega)⟩
          have ec := az_close_push (az_hd14 w) q m' f' u2
          simp only [az_sum]
          rw [if_neg (show ¬ az_sgn (B p') ≠ -1 from fun q => q u3), if_pos ⟨h93, hh⟩]
          rw [ec]
          simp only [List.tail_cons]
          rw [show o + 1 - 1 = o by omega]
        · have et : tp_take (F (tp_step t)) 93 = tp_fail (F (tp_step t)) 1 (F (tp_step t) 3 3) := by
            unfold tp_take
            rw [e2, if_neg h93]
          rw [et]
          refine .inl ?_
          have := u4.fail (n := 1) (by decide)
          refine ⟨this.2, ?_⟩
          simp only [az_sum]
          rw [if_neg (show ¬ az_sgn (B p') ≠ -1 from fun q => q u3), if_neg (fun q => h93 q.1), if_pos hh, this.1]
          congr 1
  · by_cases hd : 48 ≤ B p ∧ B p ≤ 57
    · rw [if_pos hd]
      have hN := tl_num hB 5 (t := t) (p := p) 0 h
      have ef : az_fac B 8 (p, m, f, w, o) = match az_num B 5 p 0 with | .inl e => .inl e | .inr q => .inr (q.1, m + 1, su f m q.2, w, o) := by
        show (if B p = 91 then _ else if 48 ≤ B p ∧ B p ≤ 57 then _ else _) = _
        rw [if_neg h91, if_pos hd]
        rfl
      rw [egd, ef]
      show tl_O B D E m0 b _ t (rn_end (rn_N 5 t 0)) _ p m f w o
      cases en : az_num B 5 p 0 with
      | inl e1 =>
        obtain ⟨x1, x2⟩ := hN.1 e1 en
        exact .inl ⟨x2, by rw [x1]⟩
      | inr q =>
        obtain ⟨x1, x2⟩ := hN.2 q en
        obtain ⟨y1, y2, y3, y4, y5⟩ := az_num_s hB 5 p 0 q 100000 (by decide) (by decide) en
        have y6 := y3 hd (by decide)
        have y7 := x1.le
        rw [x2]
        have hr := rn_N_row 5 t 0
        refine .inr ⟨n, q.1, m + 1, su f m q.2, rfl, (x1.re (E + 1) (by omega) (Nat.le_succ_of_le h.de)).emit h.de (.inl ⟨rfl, rfl, y4, by omega⟩), y6, by omega, (tl_G.same hr.1 hr.2.1).tr (tl_G.emit x1.cn _ _ _), (tl_H.rf (h := 0) (by decide)).note (Nat.le_refl _) (v := 1) (by rw [show q.2 / 1048576 = 0 by omega]; rfl) (by omega) (by omega) (by omega)⟩
    · rw [if_neg hd, if_neg h91]
      have hl := tl_letter (c := B p)
      have ef : az_fac B 8 (p, m, f, w, o) = if lp_letter (B p) = -1 then .inl (-1000 - p) else .inr (p + 1, m + 1, su f m (1048576 + lp_letter (B p)), w, o) := by
        show (if B p = 91 then _ else if 48 ≤ B p ∧ B p ≤ 57 then _ else _) = _
        rw [if_neg h91, if_neg hd]
      rw [egd, ef]
      by_cases hx : lp_letter (B p) = -1
      · rw [if_pos hx, if_pos (show lp_letter (B p) < 0 by omega)]
        have := h.fail (n := 1) (by decide)
        refine .inl ⟨this.2, ?_⟩
        show Sum.inl (-1000 - p) = Sum.inl (tp_fail t 1 (t 3 3) 3 4)
        rw [this.1]
        congr 1
      · rw [if_neg hx, if_neg (show ¬ lp_letter (B p) < 0 by omega)]
        have hb0 : 0 ≤ B p := lp_letter_p (by omega)
        have h1 := h.step hB hb0
        refine .inr ⟨n, p + 1, m + 1, su f m (1048576 + lp_letter (B p)), rfl, h1.emit h.de (.inr (.inl ⟨rfl, rfl, by omega, hl.2⟩)), by omega, by omega, (tl_G.same rfl rfl).tr (tl_G.emit h1.cn _ _ _), (tl_H.rf (h := 0) (by decide)).note (Nat.le_refl _) (v := 1) (by rw [show (1048576 + lp_letter (B p)) / 1048576 = 1 by omega]; rfl) (by omega) (by omega) (by omega)⟩
abbrev az_tm (x : Int) : Prop := 4 ≤ x / 1048576 ∧ x / 1048576 ≤ 6
abbrev az_hdt (w : List Int) : Prop := ∀ x, w.head? = some x → ¬ az_tm x
theorem az_close_pusht {w : List Int} (hw : az_hdt w) : ∀ (q : List Int) (m : Nat) (f : Nat → Int), (∀ x, x ∈ q → az_tm x) → az_close false (q ++ w) m f = (w, az_push q m f)
  | [], m, f, _ => by
    show az_close false w m f = (w, m, f)
    cases w with
    | nil => rfl
    | cons x w =>
      simp only [az_close]
      have := hw x rfl
      have hc : ¬ az_popc false x := fun q => q.elim (fun q => this q) (fun q => by cases q.1)
      rw [if_neg hc]
  | x :: q, m, f, h => by
    have hx := h x (List.mem_cons_self ..)
    show az_close false (x :: (q ++ w)) m f = _
    simp only [az_close, az_push]
    have hc : az_popc false x := .inl hx
    rw [if_pos hc]
    exact az_close_pusht hw q _ _ (fun y hy => h y (List.mem_cons_of_mem _ hy))
theorem az_push_app : ∀ (q r : List Int) (m : Nat) (f : Nat → Int), az_push (q ++ r) m f = az_push r (az_push q m f).1 (az_push q m f).2
  | [], r, m, f => rfl
  | x :: q, r, m, f => az_push_app q r (m + 1) (su f m (1048576 * (x / 1048576)))
/-- a factor is known -/
def tl_F (B : Int → Int) (D m0 : Nat) (o hF : Int) (F : hy_T → hy_T) : Prop := dd_good F ∧ ∀ (t : hy_T) (p : Int) (m : Nat) (f : Nat → Int) (w : List Int) (b n E : Nat), tl_S B D E m0 t p m f → b ≤ w.length → 250 ≤ n + p → tl_O B D E m0 b hF t (F t) (az_go B b n (p, m, f, w, o)) p m f w o
/-- behind products: what waits is q on w0 -/
def tl_W (P : Int → Prop) (C : Int → Prop) (B : Int → Int) (D E m0 b : Nat) (e hh : Int) (t t' : hy_T) (G : Int ⊕ Zs) (p : Int) (m : Nat) (f : Nat → Int) (w : List Int) (o : Int) : Prop :=
  (t' 3 4 ≠ 0 ∧ G = .inl (t' 3 4)) ∨ ∃ (n' : Nat) (p' : Int) (m' : Nat) (f' : Nat → Int) (q : List Int), G = az_sum B b n' (p', m', f', q ++ w, o) ∧ ((∀ x, x ∈ q → P x) ∧ C (B p')) ∧ tl_S B D E m0 t' p' (az_push q m' f').1 (az_push q m' f').2 ∧ p ≤ p' ∧ 250 ≤ n' + p' ∧ tl_G D t t' m f (az_push q m' f').1 (az_push q m' f').2 ∧ tl_H e hh m (az_push q m' f').2 (az_push q m' f').1
theorem tl_sgt {c : Int} (h : lp_times c = true) : 4 ≤ az_sgn c ∧ az_sgn c ≤ 6 := by
  unfold lp_times at h
  have := of_decide_eq_true h
  rcases this with rfl | rfl | rfl <;> decide
theorem tl_sgp {c : Int} (h : rx_pm c = true) : 2 ≤ az_sgn c ∧ az_sgn c ≤ 3 := by
  unfold rx_pm at h
  have := of_decide_eq_true h
  rcases this with rfl | rfl <;> decide
theorem tl_sgn {c : Int} (h1 : lp_times c = false) (h2 : rx_pm c = false) : az_sgn c = -1 := by
  unfold lp_times at h1
  unfold rx_pm at h2
  have a := of_decide_eq_false h1
  have b := of_decide_eq_false h2
  unfold az_sgn
  rw [if_neg (by omega), if_neg (by omega), if_neg (by omega), if_neg (by omega), if_neg (by omega)]
theorem dd_loop' {p : Int → Bool} (hp : p (-1) = false) (F : hy_T → hy_T) (n : Nat) {t : hy_T} (h : t 3 4 ≠ 0) : rx_loop p F n t 3 4 = t 3 4 := by rw [dd_loop hp F n h]
theorem tl_ploop {B : Int → Int} (hB : az_by B) {D m0 : Nat} {o hh : Int} {F : hy_T → hy_T} (hF : tl_F B D m0 o hh F) (h1h : 1 ≤ hh) {w : List Int} (hw : az_hdt w) {b : Nat} (hb : b ≤ w.length) {E : Nat} : ∀ (N n : Nat) {t : hy_T} {p : Int} {m : Nat} {f : Nat → Int} {q : List Int}, (∀ x, x ∈ q → az_tm x) → tl_S B D E m0 t p (az_push q m f).1 (az_push q m f).2 → 240 ≤ N + p → 250 ≤ n + p →
    tl_W az_tm (fun c => lp_times c = false) B D E m0 b 0 hh t (rx_loop lp_times F N t) (az_sum B b n (p, m, f, q ++ w, o)) p (az_push q m f).1 (az_push q m f).2 w o
  | 0, n, t, p, m, f, q, hq, h, hN, hn => by
    refine .inr ⟨n, p, m, f, q, rfl, ⟨hq, ?_⟩, h, Int.le_refl _, hn, tl_G.rf, tl_H.rf (by omega)⟩
    have := h.p1
    have e : B p = -1 := (hB p).2.2 (by omega)
    show lp_times (B p) = false
    rw [e]
    decide
  | N + 1, n, t, p, m, f, q, hq, h, hN, hn => by
    have e := h.next
    simp only [rx_loop]
    rw [e]
    by_cases hc : lp_times (B p) = true
    · rw [if_pos hc]
      have hg := tl_sgt hc
      have hp0 : 0 ≤ B p := lp_times_p hc
      have h1 := h.step hB hp0
      obtain ⟨n'', rfl⟩ : ∃ x, n = x + 1 := ⟨n - 1, by have := h.p1; omega⟩
      have eG : az_sum B b (n'' + 1) (p, m, f, q ++ w, o) = az_go B b n'' (p + 1, (az_push q m f).1, (az_push q m f).2, (1048576 * az_sgn (B p)) :: w, o) := by
        simp only [az_sum]
        rw [if_pos (show az_sgn (B p) ≠ -1 by omega), decide_eq_false (show ¬ az_sgn (B p) < 4 by omega), az_close_pusht hw q m f hq]
        rfl
      rw [eG]
      have hO := hF.2 (tp_step t) (p + 1) _ _ ((1048576 * az_sgn (B p)) :: w) b n'' (E + 1) h1 (by simp; omega) (by omega)
      rcases hO with ⟨d1, d2⟩ | ⟨n', p', m', f', u1, u2, u3, u4, u5, u6⟩
      · have d3 : lp_emit (F (tp_step t)) (B p) 0 3 4 = F (tp_step t) 3 4 := dd_emit _ _ _
        refine .inl ?_
        rw [dd_loop' (by decide) F N (by rw [d3]; exact d1), d3]
        exact ⟨d1, d2⟩
      · rw [u1]
        have h2 := u2.emit h.de (op := B p) (arg := 0) (x := 1048576 * az_sgn (B p)) (.inr (.inr ⟨by omega, rfl⟩))
        have hx : az_tm (1048576 * az_sgn (B p)) := ⟨by omega, by omega⟩
        have ep : az_push [1048576 * az_sgn (B p)] m' f' = (m' + 1, su f' m' (1048576 * az_sgn (B p))) := by
          show (m' + 1, su f' m' (1048576 * (1048576 * az_sgn (B p) / 1048576))) = _
          rw [show 1048576 * az_sgn (B p) / 1048576 = az_sgn (B p) by omega]
        have hr := tl_ploop hB hF h1h hw hb (E := E) N n' (t := lp_emit (F (tp_step t)) (B p) 0) (p := p') (m := m') (f := f') (q := [1048576 * az_sgn (B p)]) (fun x hx' => by rw [List.mem_singleton.mp hx']; exact hx) (by rw [ep]; exact h2) (by omega) u4
        have g : tl_G D t (lp_emit (F (tp_step t)) (B p) 0) (az_push q m f).1 (az_push q m f).2 (m' + 1) (su f' m' (1048576 * az_sgn (B p))) := ((tl_G.same rfl rfl).tr u5).tr (tl_G.emit u2.cn _ _ _)
        have uh : tl_H 0 hh (az_push q m f).1 (su f' m' (1048576 * az_sgn (B p))) (m' + 1) := u6.note u5.1 (az_eff_b (by omega)) (by omega) (Int.le_refl _) (by omega)
        rw [ep] at hr
        rcases hr with ⟨d1, d2⟩ | ⟨n2, p2, m2, f2, q2, v1, v2, v3, v4, v5, v6, v7⟩
        · exact .inl ⟨d1, d2⟩
        · exact .inr ⟨n2, p2, m2, f2, q2, v1, v2, v3, by omega, v5, g.tr v6, uh.tr v7 g.1 v6.1 v6.2.1 (by omega) (Int.le_refl _) (by omega)⟩
    · rw [if_neg hc]
      exact .inr ⟨n, p, m, f, q, rfl, ⟨hq, by simpa using hc⟩, h, Int.le_refl _, hn, tl_G.rf, tl_H.rf (by omega)⟩
/-- a product from its first factor on -/
theorem tl_prod {B : Int → Int} (hB : az_by B) {D m0 : Nat} {o hh : Int} {F : hy_T → hy_T} (hF : tl_F B D m0 o hh F) (h1h : 1 ≤ hh) {w : List Int} (hw : az_hdt w) {b : Nat} (hb : b ≤ w.length) {E n : Nat} {t : hy_T} {p : Int} {m : Nat} {f : Nat → Int} (h : tl_S B D E m0 t p m f) (hn : 250 ≤ n + p) :
    tl_W az_tm (fun c => lp_times c = false) B D E m0 b 1 (1 + hh) t (rx_product F t) (az_go B b n (p, m, f, w, o)) (p + 1) m f w o := by
  have hp0 := h.p0
  unfold rx_product
  rcases hF.2 t p m f w b n E h hb hn with ⟨d1, d2⟩ | ⟨n', p', m', f', u1, u2, u3, u4, u5, u6⟩
  · refine .inl ?_
    rw [dd_loop' (by decide) F 240 d1]
    exact ⟨d1, d2⟩
  · rw [u1]
    have hr := tl_ploop hB hF h1h hw hb (E := E) 240 n' (t := F t) (p := p') (m := m') (f := f') (q := []) (fun x hx => by cases hx) u2 (by omega) u4
    rcases hr with ⟨d1, d2⟩ | ⟨n2, p2, m2, f2, q2, v1, v2, v3, v4, v5, v6, v7⟩
    · exact .inl ⟨d1, d2⟩
    · exact .inr ⟨n2, p2, m2, f2, q2, v1, v2, v3, by omega, v5, u5.tr v6, u6.tr v7 u5.1 v6.1 v6.2.1 (by omega) (by omega) (Int.le_refl _)⟩
theorem az_hd_t {w : List Int} (h : az_hd w) : az_hdt w := fun x hx q => h x hx ⟨by omega, q.2⟩
theorem tl_sloop {B : Int → Int} (hB : az_by B) {D m0 : Nat} {o hh : Int} {F : hy_T → hy_T} (hF : tl_F B D m0 o hh F) (h1h : 1 ≤ hh) {w : List Int} (hw : az_hd w) {b : Nat} (hb : b ≤ w.length) {E : Nat} : ∀ (N n : Nat) {t : hy_T} {p : Int} {m : Nat} {f : Nat → Int} {q : List Int}, (∀ x, x ∈ q → az_pm x) → lp_times (B p) = false → tl_S B D E m0 t p (az_push q m f).1 (az_push q m f).2 → 240 ≤ N + p → 250 ≤ n + p →
    tl_W az_pm (fun c => az_sgn c = -1) B D E m0 b 0 (1 + hh) t (rx_loop rx_pm (rx_product F) N t) (az_sum B b n (p, m, f, q ++ w, o)) p (az_push q m f).1 (az_push q m f).2 w o
  | 0, n, t, p, m, f, q, hq, ht, h, hN, hn => by
    refine .inr ⟨n, p, m, f, q, rfl, ⟨hq, ?_⟩, h, Int.le_refl _, hn, tl_G.rf, tl_H.rf (by omega)⟩
    have := h.p1
    have e : B p = -1 := (hB p).2.2 (by omega)
    show az_sgn (B p) = -1
    rw [e]
    decide
  | N + 1, n, t, p, m, f, q, hq, ht, h, hN, hn => by
    have e := h.next
    simp only [rx_loop]
    rw [e]
    by_cases hc : rx_pm (B p) = true
    · rw [if_pos hc]
      have hg := tl_sgp hc
      have hp0 : 0 ≤ B p := rx_pm_p hc
      have h1 := h.step hB hp0
      obtain ⟨n'', rfl⟩ : ∃ x, n = x + 1 := ⟨n - 1, by have := h.p1; omega⟩
      have eG : az_sum B b (n'' + 1) (p, m, f, q ++ w, o) = az_go B b n'' (p + 1, (az_push q m f).1, (az_push q m f).2, (1048576 * az_sgn (B p)) :: w, o) := by
        simp only [az_sum]
        rw [if_pos (show az_sgn (B p) ≠ -1 by omega), decide_eq_true (show az_sgn (B p) < 4 by omega), az_close_push hw q m f hq]
        rfl
      rw [eG]
      have hwt : az_hdt ((1048576 * az_sgn (B p)) :: w) := fun x hx q => by
        have hx' : 1048576 * az_sgn (B p) = x := by simpa using hx
        unfold az_tm at q
        omega
      have hO := tl_prod hB hF h1h hwt (b := b) (by simp; omega) (E := E + 1) (n := n'') h1 (by omega)
      rcases hO with ⟨d1, d2⟩ | ⟨n', p', m', f', q1, u1, u2, u3, u4, u5, u6, u7⟩
      · have d3 : lp_emit (rx_product F (tp_step t)) (B p) 0 3 4 = rx_product F (tp_step t) 3 4 := dd_emit _ _ _
        refine .inl ?_
        rw [dd_loop' (by decide) (rx_product F) N (by rw [d3]; exact d1), d3]
        exact ⟨d1, d2⟩
      · rw [u1, show q1 ++ (1048576 * az_sgn (B p)) :: w = (q1 ++ [1048576 * az_sgn (B p)]) ++ w by simp]
        have h2 := u3.emit h.de (op := B p) (arg := 0) (x := 1048576 * az_sgn (B p)) (.inr (.inr ⟨by omega, rfl⟩))
        have ep : az_push (q1 ++ [1048576 * az_sgn (B p)]) m' f' = ((az_push q1 m' f').1 + 1, su (az_push q1 m' f').2 (az_push q1 m' f').1 (1048576 * az_sgn (B p))) := by
          rw [az_push_app]
          show (_ + 1, su _ _ (1048576 * (1048576 * az_sgn (B p) / 1048576))) = _
          rw [show 1048576 * az_sgn (B p) / 1048576 = az_sgn (B p) by omega]
        have hq2 : ∀ x, x ∈ q1 ++ [1048576 * az_sgn (B p)] → az_pm x := fun x hx => by
          rcases List.mem_append.mp hx with hx | hx
          · have := u2.1 x hx
            exact ⟨by have := this.1; omega, this.2⟩
          · rw [List.mem_singleton.mp hx]
            exact ⟨by omega, by omega⟩
        have hr := tl_sloop hB hF h1h hw hb (E := E) N n' (t := lp_emit (rx_product F (tp_step t)) (B p) 0) (p := p') (m := m') (f := f') (q := q1 ++ [1048576 * az_sgn (B p)]) hq2 u2.2 (by rw [ep]; exact h2) (by omega) u5
        have g : tl_G D t (lp_emit (rx_product F (tp_step t)) (B p) 0) (az_push q m f).1 (az_push q m f).2 ((az_push q1 m' f').1 + 1) (su (az_push q1 m' f').2 (az_push q1 m' f').1 (1048576 * az_sgn (B p))) := ((tl_G.same rfl rfl).tr u6).tr (tl_G.emit u3.cn _ _ _)
        have uh : tl_H 0 (1 + hh) (az_push q m f).1 (su (az_push q1 m' f').2 (az_push q1 m' f').1 (1048576 * az_sgn (B p))) ((az_push q1 m' f').1 + 1) := u7.note u6.1 (az_eff_b (by omega)) (by omega) (Int.le_refl _) (by omega)
        rw [ep] at hr
        rcases hr with ⟨d1, d2⟩ | ⟨n2, p2, m2, f2, q2, v1, v2, v3, v4, v5, v6, v7⟩
        · exact .inl ⟨d1, d2⟩
        · exact .inr ⟨n2, p2, m2, f2, q2, v1, v2, v3, by omega, v5, g.tr v6, uh.tr v7 g.1 v6.1 v6.2.1 (by omega) (Int.le_refl _) (by omega)⟩
    · rw [if_neg hc]
      exact .inr ⟨n, p, m, f, q, rfl, ⟨hq, tl_sgn ht (by simpa using hc)⟩, h, Int.le_refl _, hn, tl_G.rf, tl_H.rf (by omega)⟩
/-- a sum from its first factor on -/
theorem tl_sum {B : Int → Int} (hB : az_by B) {D m0 : Nat} {o hh : Int} {F : hy_T → hy_T} (hF : tl_F B D m0 o hh F) (h1h : 1 ≤ hh) {w : List Int} (hw : az_hd w) {b : Nat} (hb : b ≤ w.length) {E n : Nat} {t : hy_T} {p : Int} {m : Nat} {f : Nat → Int} (h : tl_S B D E m0 t p m f) (hn : 250 ≤ n + p) :
    tl_U B D E m0 b (2 + hh) t (rx_sum (rx_product F) t) (az_go B b n (p, m, f, w, o)) p m f w o := by
  have hp0 := h.p0
  unfold rx_sum
  rcases tl_prod hB hF h1h (az_hd_t hw) hb h hn with ⟨d1, d2⟩ | ⟨n', p', m', f', q1, u1, u2, u3, u4, u5, u6, u7⟩
  · refine .inl ?_
    rw [dd_loop' (by decide) (rx_product F) 240 d1]
    exact ⟨d1, d2⟩
  · rw [u1]
    have hr := tl_sloop hB hF h1h hw hb (E := E) 240 n' (t := rx_product F t) (p := p') (m := m') (f := f') (q := q1) (fun x hx => ⟨by have := (u2.1 x hx).1; omega, (u2.1 x hx).2⟩) u2.2 u3 (by omega) u5
    rcases hr with ⟨d1, d2⟩ | ⟨n2, p2, m2, f2, q2, v1, v2, v3, v4, v5, v6, v7⟩
    · exact .inl ⟨d1, d2⟩
    · exact .inr ⟨n2, p2, m2, f2, q2, v1, v2, v3, by omega, v5, u6.tr v6, u7.tr v7 u6.1 v6.1 v6.2.1 (by omega) (by omega) (by omega)⟩
theorem tl_Uw {B : Int → Int} {D E m0 b : Nat} {hh h2 : Int} {t t' : hy_T} {G : Int ⊕ Zs} {p : Int} {m : Nat} {f : Nat → Int} {w : List Int} {o : Int} (hq : hh ≤ h2) (h : tl_U B D E m0 b hh t t' G p m f w o) : tl_U B D E m0 b h2 t t' G p m f w o := by
  rcases h with d | ⟨n', p', m', f', q, u1, u2, u4, u5, u6, u7, u8⟩
  · exact .inl d
  · exact .inr ⟨n', p', m', f', q, u1, u2, u4, u5, u6, u7, u8.w hq⟩
theorem tl_sumL {B : Int → Int} (hB : az_by B) {D m0 : Nat} : ∀ (k : Nat), k ≤ 6 → ∀ (t : hy_T) (p : Int) (m : Nat) (f : Nat → Int) (w : List Int) (o : Int) (b n E : Nat), tl_S B D E m0 t p m f → o = 6 - (k : Int) → az_hd w → b ≤ w.length → 250 ≤ n + p → tl_U B D E m0 b (3 + 2 * (k : Int)) t (rx_sumL k t) (az_go B b n (p, m, f, w, o)) p m f w o
  | 0, hk, t, p, m, f, w, o, b, n, E, h, ho, hw, hb, hn =>
    tl_Uw (by omega) (tl_sum (hh := 1 + 2 * ((0 : Nat) : Int)) hB ⟨dd_factor _, fun t p m f w b n E h hb hn => tl_fac hB 0 hk none (fun _ => rfl) (fun k' e => by omega) h ho hb hn⟩ (by omega) hw hb h hn)
  | k + 1, hk, t, p, m, f, w, o, b, n, E, h, ho, hw, hb, hn =>
    tl_Uw (by push_cast; omega) (tl_sum (hh := 1 + 2 * ((k + 1 : Nat) : Int)) hB ⟨dd_factor _, fun t p m f w b n E h hb hn => tl_fac hB (k + 1) hk (some (rx_sumL k)) (fun e => by omega) (fun k' e => by
      obtain rfl : k' = k := by omega
      exact ⟨_, rfl, dd_sumL k', fun t p m f w o b n E h ho hw hb hn => tl_sumL hB k' (by omega) t p m f w o b n E h ho hw hb hn⟩) h ho hb hn⟩ (by omega) hw hb h hn)
/-- a whole sum, as conditions and amounts read it -/
def tl_R (B : Int → Int) (D E m0 : Nat) (t t' : hy_T) (R : Int ⊕ Zs) (p : Int) (m : Nat) (f : Nat → Int) (w : List Int) (o : Int) : Prop :=
  (t' 3 4 ≠ 0 ∧ R = .inl (t' 3 4)) ∨ ∃ (p' : Int) (m' : Nat) (f' : Nat → Int), R = .inr (p', m', f', w, o) ∧ tl_S B D E m0 t' p' m' f' ∧ p < p' ∧ tl_G D t t' m f m' f' ∧ tl_H 1 15 m f' m'
theorem tl_rs {B : Int → Int} (hB : az_by B) {D m0 : Nat} {k : Nat} (hk : k ≤ 6) {t : hy_T} {p : Int} {m : Nat} {f : Nat → Int} {w : List Int} {o : Int} {E : Nat} (h : tl_S B D E m0 t p m f) (ho : o = 6 - (k : Int)) (hw : az_hd w) : tl_R B D E m0 t (rx_sumL k t) (az_rs B (p, m, f, w, o)) p m f w o := by
  have hp0 := h.p0
  have eg : az_rs B (p, m, f, w, o) = az_go B w.length 250 (p, m, f, w, o) := rfl
  rw [eg]
  rcases tl_sumL hB k hk t p m f w o w.length 250 E h ho hw (Nat.le_refl _) (by omega) with ⟨d1, d2⟩ | ⟨n', p', m', f', q, u1, ⟨u2, u3⟩, u4, u5, u6, u7, u8⟩
  · exact .inl ⟨d1, d2⟩
  · obtain ⟨n'', rfl⟩ : ∃ x, n' = x + 1 := ⟨n' - 1, by have := u4.p1; omega⟩
    have hh : ¬ az_has ((q ++ w).length - w.length) (q ++ w) = true := fun c => by
      obtain ⟨x, hx, h14⟩ := (az_has_a q w).mp c
      have := u2 x hx
      unfold az_pm at this
      omega
    refine .inr ⟨p', (az_push q m' f').1, (az_push q m' f').2, ?_, u4, u5, u7, u8.w (by omega)⟩
    rw [u1]
    simp only [az_sum]
    rw [if_neg (show ¬ az_sgn (B p') ≠ -1 from fun c => c u3), if_neg (fun c => hh c.2), if_neg hh, az_close_push hw q m' f' u2]
/-- a step and a code of a comparison or of 'not' -/
def tl_c2 (op arg x : Int) : Prop := tl_cm op arg x ∨ (az_how op ≠ -1 ∧ x = 1048576 * az_how op) ∨ (op = 33 ∧ x = 10485760)
/-- a step and a code of a condition; leaps that wait lie in w -/
def tl_cc (D : Nat) (w : List Int) (j : Nat) (op arg x : Int) : Prop := tl_c2 op arg x ∨ ((op = 38 ∨ op = 124) ∧ ((x = 1048576 * az_jop op + (arg - D) ∧ 0 ≤ arg - D ∧ arg - D < 1048576) ∨ (x = 1048576 * az_jop op ∧ (1048576 * az_jop op + (j : Int)) ∈ w)))
def tl_T (B : Int → Int) (D E a : Nat) (t : hy_T) (p : Int) (m : Nat) (f : Nat → Int) (w : List Int) : Prop := tl_S B D E m t p m f ∧ a ≤ m ∧ ∀ j : Nat, a ≤ j → j < m → tl_cc D w j (t 20 (j + D)) (t 21 (j + D)) (f j)
theorem tl_S.emp {B : Int → Int} {D E m0 : Nat} {t : hy_T} {p : Int} {m : Nat} {f : Nat → Int} (h : tl_S B D E m0 t p m f) : tl_S B D E m t p m f := ⟨h.1, ⟨h.2.1.1, h.2.1.2.1, Nat.le_refl _⟩, fun j h1 h2 => by omega⟩
theorem tl_T.add {B : Int → Int} {D E E' a : Nat} {t t' : hy_T} {p p' : Int} {m m' : Nat} {f f' : Nat → Int} {w : List Int} (h : tl_T B D E a t p m f w) (h2 : tl_S B D E' m t' p' m' f') (g : tl_G D t t' m f m' f') : tl_T B D E' a t' p' m' f' w := by
  obtain ⟨h0, ha, hc⟩ := h
  obtain ⟨g1, g2, g3⟩ := g
  refine ⟨h2.emp, by omega, fun j hj hm => ?_⟩
  by_cases hl : j < m
  · obtain ⟨x, y⟩ := g3 (j + D) (by omega)
    rw [x, y, g2 j hl]
    exact hc j hj hl
  · exact .inl (.inl (h2.cs j (by omega) hm))
/-- one code more, of a comparison or of 'not' -/
theorem tl_T.emit {B : Int → Int} {D E a : Nat} {t : hy_T} {p : Int} {m : Nat} {f : Nat → Int} {w : List Int} (h : tl_T B D (E + 1) a t p m f w) (hD : D ≤ E) {op arg x : Int} (hx : ∀ w', tl_cc D w' m op arg x) : tl_T B D E a (lp_emit t op arg) p (m + 1) (su f m x) w := by
  obtain ⟨h0, ha, hc⟩ := h
  have h1 := h0.p1
  have hl := h0.le
  have h2 := h0.cn
  have e : lp_emit t op arg = hy_up (hy_up (hy_up t 20 (m + D) op) 21 (m + D) arg) 19 3 (t 19 3 + 1) := by
    unfold lp_emit
    rw [if_pos (by omega), show (t 19 3).toNat = m + D by omega]
  have e20 : ∀ i, lp_emit t op arg 20 i = if i = m + D then op else t 20 i := fun i => by
    rw [e, hy_up_ne (by decide), hy_up_ne (by decide)]
    simp only [hy_up, true_and]
  have e21 : ∀ i, lp_emit t op arg 21 i = if i = m + D then arg else t 21 i := fun i => by
    rw [e, hy_up_ne (by decide)]
    simp only [hy_up, true_and]
    split
    · rfl
    · rw [if_neg (by omega)]
  have e3 : ∀ j, lp_emit t op arg 3 j = t 3 j := fun j => by rw [e]; rfl
  have e4 : ∀ j, lp_emit t op arg 4 j = t 4 j := fun j => by rw [e]; rfl
  have e19 : lp_emit t op arg 19 3 = t 19 3 + 1 := by rw [e]; rfl
  refine ⟨⟨⟨⟨by rw [e3]; exact h0.ok, by rw [e3]; exact h0.at_⟩, ⟨h0.p0, h0.p1⟩, fun q hq => by rw [e3, e4]; exact h0.by_ q hq⟩, ⟨by rw [e19]; omega, ⟨by omega, hD⟩, Nat.le_refl _⟩, fun j h3 h4 => by omega⟩, by omega, fun j h3 h4 => ?_⟩
  rw [e20, e21]
  by_cases hj : j = m
  · rw [if_pos (by omega), if_pos (by omega), show su f m x j = x by unfold su; rw [if_pos hj], hj]
    exact hx w
  · rw [if_neg (by omega), if_neg (by omega), show su f m x j = f j by unfold su; rw [if_neg hj]]
    exact hc j h3 (by omega)
theorem dd_both {sg : Int} (hs : 0 ≤ sg) {F : hy_T → hy_T} (hF : dd_good F) : dd_good (rb_both sg F) := fun t h => by
  have e := hF t h
  unfold rb_both
  show (if tp_next (F t) = sg then _ else lp_lead (F t) (-1)) 3 4 = t 3 4
  rw [dd_next (by rw [e]; exact h), if_neg (by omega), dd_lead]
  exact e
theorem dd_piece {S : hy_T → hy_T} (hS : dd_good S) (N : Option ((hy_T → hy_T) × (hy_T → hy_T))) : dd_good (rp_piece S N) := fun t h => by
  have e := hS t h
  have h2 : S t 3 4 ≠ 0 := by rw [e]; exact h
  unfold rp_piece
  rw [dd_next h, if_neg (by decide), dd_next h2, if_neg (by decide), dd_fail h2]
  exact e
theorem dd_lev : ∀ n, dd_good (rp_lev n)
  | 0 => dd_piece (dd_sumL 0) _
  | n + 1 => dd_piece (dd_sumL (n + 1)) _
theorem dd_either (n : Nat) : dd_good (rp_either n) := dd_both (by decide) (dd_both (by decide) (dd_lev n))
/-! loops of conditions -/
abbrev az_lp (x : Int) : Prop := x / 1048576 = 11 ∨ x / 1048576 = 12
/-- where what waits lands -/
def az_lan : List Int → Nat → (Nat → Int) → (Nat → Int)
  | [], _, f => f
  | x :: q, m, f => az_lan q m (su f (x % 1048576).toNat (1048576 * (f (x % 1048576).toNat / 1048576) + m))
theorem az_land_lan {w : List Int} (hw : ∀ x, w.head? = some x → ¬ az_lp x) : ∀ (q : List Int) (m : Nat) (f : Nat → Int), (∀ x, x ∈ q → az_lp x) → az_land true (q ++ w) m f = (w, az_lan q m f)
  | [], m, f, _ => by
    show az_land true w m f = (w, f)
    cases w with
    | nil => rfl
    | cons x w =>
      simp only [az_land]
      have hx := hw x rfl
      rw [if_neg (fun c => hx (c.elim .inl (fun c => .inr c.2)))]
  | x :: q, m, f, h => by
    have hx := h x (List.mem_cons_self ..)
    show az_land true (x :: (q ++ w)) m f = _
    simp only [az_land, az_lan]
    rw [if_pos (hx.elim .inl (fun c => .inr ⟨trivial, c⟩))]
    exact az_land_lan hw q m _ (fun y hy => h y (List.mem_cons_of_mem _ hy))
theorem tl_T.out {B : Int → Int} {D E a : Nat} {t : hy_T} {p : Int} {m : Nat} {f : Nat → Int} {w : List Int} {y : Int} (hy : ¬ az_lp y) (hm : (m : Int) < 1048576) (h : tl_T B D E a t p m f (y :: w)) : tl_T B D E a t p m f w := by
  obtain ⟨x1, x2, x3⟩ := h
  refine ⟨x1, x2, fun j h1 h2 => ?_⟩
  rcases x3 j h1 h2 with q | ⟨q1, q2⟩
  · exact .inl q
  · refine .inr ⟨q1, ?_⟩
    rcases q2 with q2 | ⟨q2, q3⟩
    · exact .inl q2
    · refine .inr ⟨q2, ?_⟩
      rcases List.mem_cons.mp q3 with q4 | q4
      · exfalso
        have hj : az_jop (t 20 (j + D)) = 11 ∨ az_jop (t 20 (j + D)) = 12 := by
          unfold az_jop
          split
          · exact .inl rfl
          · exact .inr rfl
        refine hy ?_
        unfold az_lp
        rcases hj with e1 | e1 <;> (rw [e1] at q4; omega)
      · exact q4
abbrev az_ps (sg x : Int) : Prop := x / 1048576 = 11 ∨ (sg = 124 ∧ x / 1048576 = 12)
theorem az_land_ps {sg : Int} {w : List Int} (hw : ∀ x, w.head? = some x → ¬ az_ps sg x) : ∀ (q : List Int) (m : Nat) (f : Nat → Int), (∀ x, x ∈ q → az_ps sg x) → az_land (decide (sg = 124)) (q ++ w) m f = (w, az_lan q m f)
  | [], m, f, _ => by
    show az_land (decide (sg = 124)) w m f = (w, f)
    cases w with
    | nil => rfl
    | cons x w =>
      simp only [az_land]
      have hx := hw x rfl
      rw [if_neg (fun c => hx (c.elim .inl (fun c => .inr ⟨of_decide_eq_true c.1, c.2⟩)))]
  | x :: q, m, f, h => by
    have hx := h x (List.mem_cons_self ..)
    show az_land (decide (sg = 124)) (x :: (q ++ w)) m f = _
    simp only [az_land, az_lan]
    rw [if_pos (hx.elim .inl (fun c => .inr ⟨decide_eq_true c.1, c.2⟩))]
    exact az_land_ps hw q m _ (fun y hy => h y (List.mem_cons_of_mem _ hy))
theorem az_lan_app : ∀ (q r : List Int) (m : Nat) (f : Nat → Int), az_lan (q ++ r) m f = az_lan r m (az_lan q m f)
  | [], r, m, f => rfl
  | x :: q, r, m, f => az_lan_app q r m _
theorem az_lan1 {sg : Int} (hs : az_jop sg = 11 ∨ az_jop sg = 12) {j : Nat} (hj : j < 1048576) (m : Nat) (f : Nat → Int) : az_lan [1048576 * az_jop sg + (j : Int)] m f = su f j (1048576 * (f j / 1048576) + m) := by
  have e : ((1048576 * az_jop sg + (j : Int)) % 1048576).toNat = j := by
    rcases hs with h | h <;> (rw [h]; omega)
  simp only [az_lan]
  rw [e]
theorem tl_jop {sg : Int} (h : sg = 38 ∨ sg = 124) : (sg = 38 ∧ az_jop sg = 11) ∨ (sg = 124 ∧ az_jop sg = 12) := by
  rcases h with rfl | rfl
  · exact .inl ⟨rfl, rfl⟩
  · exact .inr ⟨rfl, rfl⟩
theorem tl_T.mono {B : Int → Int} {D E a : Nat} {t : hy_T} {p : Int} {m : Nat} {f : Nat → Int} {w w' : List Int} (h : tl_T B D E a t p m f w) (hw : ∀ x, x ∈ w → x ∈ w') : tl_T B D E a t p m f w' := by
  obtain ⟨x1, x2, x3⟩ := h
  refine ⟨x1, x2, fun j h1 h2 => ?_⟩
  rcases x3 j h1 h2 with q | ⟨q1, q2⟩
  · exact .inl q
  · exact .inr ⟨q1, q2.elim .inl (fun c => .inr ⟨c.1, hw _ c.2⟩)⟩
/-- a leap that is laid -/
theorem tl_T.leap {B : Int → Int} {D E a : Nat} {t : hy_T} {p : Int} {m : Nat} {f : Nat → Int} {w : List Int} {sg : Int} (hs : sg = 38 ∨ sg = 124) (h : tl_T B D (E + 1) a t p m f w) (hD : D ≤ E) : tl_T B D E a (lp_emit t sg 0) p (m + 1) (su f m (1048576 * az_jop sg)) ((1048576 * az_jop sg + (m : Int)) :: w) ∧ lp_emit t sg 0 20 (m + D) = sg := by
  have hm := h.mono (w' := (1048576 * az_jop sg + (m : Int)) :: w) (fun x hx => List.mem_cons_of_mem _ hx)
  obtain ⟨h0, ha, hc⟩ := hm
  have h1 := h0.p1
  have hl := h0.le
  have h2 := h0.cn
  have e : lp_emit t sg 0 = hy_up (hy_up (hy_up t 20 (m + D) sg) 21 (m + D) 0) 19 3 (t 19 3 + 1) := by
    unfold lp_emit
    rw [if_pos (by omega), show (t 19 3).toNat = m + D by omega]
  have e20 : ∀ i, lp_emit t sg 0 20 i = if i = m + D then sg else t 20 i := fun i => by
    rw [e, hy_up_ne (by decide), hy_up_ne (by decide)]
    simp only [hy_up, true_and]
  have e21 : ∀ i, lp_emit t sg 0 21 i = if i = m + D then 0 else t 21 i := fun i => by
    rw [e, hy_up_ne (by decide)]
    simp only [hy_up, true_and]
    split
    · rfl
    · rw [if_neg (by omega)]
  have e3 : ∀ j, lp_emit t sg 0 3 j = t 3 j := fun j => by rw [e]; rfl
  have e4 : ∀ j, lp_emit t sg 0 4 j = t 4 j := fun j => by rw [e]; rfl
  have e19 : lp_emit t sg 0 19 3 = t 19 3 + 1 := by rw [e]; rfl
  refine ⟨⟨⟨⟨⟨by rw [e3]; exact h0.ok, by rw [e3]; exact h0.at_⟩, ⟨h0.p0, h0.p1⟩, fun q hq => by rw [e3, e4]; exact h0.by_ q hq⟩, ⟨by rw [e19]; omega, ⟨by omega, hD⟩, Nat.le_refl _⟩, fun j h3 h4 => by omega⟩, by omega, fun j h3 h4 => ?_⟩, by rw [e20, if_pos rfl]⟩
  rw [e20, e21]
  by_cases hj : j = m
  · rw [if_pos (by omega), if_pos (by omega), show su f m (1048576 * az_jop sg) j = 1048576 * az_jop sg by unfold su; rw [if_pos hj], hj]
    exact .inr ⟨hs, .inr ⟨rfl, List.mem_cons_self ..⟩⟩
  · rw [if_neg (by omega), if_neg (by omega), show su f m (1048576 * az_jop sg) j = f j by unfold su; rw [if_neg hj]]
    exact hc j h3 (by omega)
/-- a leap lands -/
theorem tl_T.lead {B : Int → Int} {D E a : Nat} {t : hy_T} {p : Int} {m : Nat} {f : Nat → Int} {w : List Int} {sg : Int} (hs : sg = 38 ∨ sg = 124) {j : Nat} (h : tl_T B D E a t p m f ((1048576 * az_jop sg + (j : Int)) :: w)) (hj : a ≤ j ∧ j < m) (h20 : t 20 (j + D) = sg) (hf : f j = 1048576 * az_jop sg) : tl_T B D E a (lp_lead t ((j : Int) + D)) p m (su f j (1048576 * (f j / 1048576) + m)) w := by
  obtain ⟨h0, ha, hc⟩ := h
  have h1 := h0.p1
  have hl := h0.le
  have h2 := h0.cn
  have hde := h0.de
  have hj2 := tl_jop hs
  have e : lp_lead t ((j : Int) + D) = hy_up t 21 (j + D) (t 19 3) := by
    unfold lp_lead
    rw [if_pos (by omega), show ((j : Int) + D).toNat = j + D by omega]
  have e20 : ∀ i, lp_lead t ((j : Int) + D) 20 i = t 20 i := fun i => by rw [e, hy_up_ne (by decide)]
  have e21 : ∀ i, lp_lead t ((j : Int) + D) 21 i = if i = j + D then t 19 3 else t 21 i := fun i => by
    rw [e]
    simp only [hy_up, true_and]
  have e3 : ∀ i, lp_lead t ((j : Int) + D) 3 i = t 3 i := fun i => by rw [e]; rfl
  have e4 : ∀ i, lp_lead t ((j : Int) + D) 4 i = t 4 i := fun i => by rw [e]; rfl
  have e19 : lp_lead t ((j : Int) + D) 19 3 = t 19 3 := by rw [e]; rfl
  refine ⟨⟨⟨⟨by rw [e3]; exact h0.ok, by rw [e3]; exact h0.at_⟩, ⟨h0.p0, h0.p1⟩, fun q hq => by rw [e3, e4]; exact h0.by_ q hq⟩, ⟨by rw [e19]; exact h2, ⟨hl, h0.de⟩, Nat.le_refl _⟩, fun i h3 h4 => by omega⟩, ha, fun i h3 h4 => ?_⟩
  rw [e20, e21]
  by_cases hi : i = j
  · rw [hi, if_pos rfl, show su f j (1048576 * (f j / 1048576) + m) j = 1048576 * (f j / 1048576) + m by unfold su; rw [if_pos rfl], h20, hf, h2]
    refine .inr ⟨hs, .inl ⟨by omega, by omega, by omega⟩⟩
  · rw [if_neg (by omega), show su f j (1048576 * (f j / 1048576) + m) i = f i by unfold su; rw [if_neg hi]]
    rcases hc i h3 h4 with q | ⟨q1, q2⟩
    · exact .inl q
    · refine .inr ⟨q1, q2.elim .inl (fun c => .inr ⟨c.1, ?_⟩)⟩
      rcases List.mem_cons.mp c.2 with q4 | q4
      · exfalso
        have hk := tl_jop q1
        refine hi ?_
        omega
      · exact q4
/-- the leap that waits at a loop: of both sides -/
def tl_q (D : Nat) (sg : Int) (t : hy_T) (m0 m : Nat) (g : Nat → Int) (l : Int) (q : List Int) : Prop := (l = -1 ∧ q = []) ∨ ∃ j : Nat, (m0 ≤ j ∧ j < m) ∧ l = (j : Int) + D ∧ q = [1048576 * az_jop sg + (j : Int)] ∧ t 20 (j + D) = sg ∧ g j = 1048576 * az_jop sg
theorem tl_q.ps {D : Nat} {sg : Int} {t : hy_T} {m0 m : Nat} {g : Nat → Int} {l : Int} {q : List Int} (hs : sg = 38 ∨ sg = 124) (h : tl_q D sg t m0 m g l q) (hm : m < 1000) : ∀ x, x ∈ q → az_ps sg x := by
  intro x hx
  rcases h with ⟨-, rfl⟩ | ⟨j, j1, j2, rfl, j4⟩
  · cases hx
  · rw [List.mem_singleton.mp hx]
    have := tl_jop hs
    unfold az_ps
    omega
theorem tl_leadq {B : Int → Int} {D E a : Nat} {t t0 : hy_T} {p : Int} {m m0 : Nat} {g f0 : Nat → Int} {w : List Int} {sg : Int} (hs : sg = 38 ∨ sg = 124) {l : Int} {q : List Int} (h : tl_T B D E a t p m g (q ++ w)) (hq : tl_q D sg t m0 m g l q) (ha : a ≤ m0) (hg : tl_G D t0 t m0 f0 m g) : tl_T B D E a (lp_lead t l) p m (az_lan q m g) w ∧ tl_G D t0 (lp_lead t l) m0 f0 m (az_lan q m g) := by
  rcases hq with ⟨rfl, rfl⟩ | ⟨j, ⟨j0, j1⟩, rfl, rfl, j4, j5⟩
  · have e : lp_lead t (-1) = t := by
      unfold lp_lead
      rw [if_neg (by omega)]
    rw [e]
    exact ⟨h, hg⟩
  · have h1 := h.1.p1
    have hl := h.1.le
    have hj := tl_jop hs
    rw [az_lan1 (by omega) (by omega)]
    refine ⟨h.lead hs ⟨by omega, j1⟩ j4 j5, ?_⟩
    obtain ⟨g1, g2, g3⟩ := hg
    refine ⟨g1, fun i hi => ?_, fun i hi => ?_⟩
    · unfold su
      rw [if_neg (by omega)]
      exact g2 i hi
    · have e : lp_lead t ((j : Int) + D) = hy_up t 21 (j + D) (t 19 3) := by
        unfold lp_lead
        rw [if_pos (by have := h.1.de; omega), show ((j : Int) + D).toNat = j + D by omega]
      rw [e, hy_up_ne (by decide)]
      refine ⟨(g3 i hi).1, ?_⟩
      simp only [hy_up, true_and]
      rw [if_neg (by omega)]
      exact (g3 i hi).2
/-! where 'true or not' lies on the stack -/
def az_bo (f : Nat → Int) (a k : Nat) : Prop := a < k ∧ 7 ≤ f (k - 1) / 1048576 ∧ f (k - 1) / 1048576 ≤ 10
def az_bw (f : Nat → Int) (a m : Nat) (w : List Int) : Prop := ∀ j : Nat, a ≤ j → j < m → (f j / 1048576 ≤ 12 ∧ (10 ≤ f j / 1048576 → az_bo f a j)) ∧ (11 ≤ f j / 1048576 → ((1048576 * (f j / 1048576) + (j : Int)) ∈ w ∨ ((j < (f j % 1048576).toNat ∧ (f j % 1048576).toNat ≤ m) ∧ az_bo f a (f j % 1048576).toNat)))
theorem az_bo_eq {f g : Nat → Int} {a k : Nat} (h : az_bo f a k) (e : ∀ i, i + 1 = k → g i / 1048576 = f i / 1048576) : az_bo g a k := by
  obtain ⟨h1, h2, h3⟩ := h
  have := e (k - 1) (by omega)
  exact ⟨h1, by omega, by omega⟩
theorem az_lan_op {m : Nat} (hm : m < 1000) : ∀ (q : List Int) (f : Nat → Int) (i : Nat), az_lan q m f i / 1048576 = f i / 1048576
  | [], f, i => rfl
  | x :: q, f, i => by
    simp only [az_lan]
    rw [az_lan_op hm q _ i]
    unfold su
    split
    · next h => rw [h]; omega
    · rfl
theorem az_bo_lan {m : Nat} (hm : m < 1000) (q : List Int) {f : Nat → Int} {a k : Nat} (h : az_bo f a k) : az_bo (az_lan q m f) a k := az_bo_eq h (fun i _ => az_lan_op hm q f i)
theorem az_bw_mono {f : Nat → Int} {a m : Nat} {w w' : List Int} (h : az_bw f a m w) (hw : ∀ x, x ∈ w → x ∈ w') : az_bw f a m w' := fun j h1 h2 => by
  obtain ⟨x1, x2⟩ := h j h1 h2
  exact ⟨x1, fun q => (x2 q).elim (fun c => .inl (hw _ c)) .inr⟩
theorem az_bw_out {f : Nat → Int} {a m : Nat} {w : List Int} {y : Int} (hy : y = 10485760 ∨ y = 13631488) (hm : m < 1000) (h : az_bw f a m (y :: w)) : az_bw f a m w := fun j h1 h2 => by
  obtain ⟨x1, x2⟩ := h j h1 h2
  refine ⟨x1, fun q => (x2 q).elim (fun c => ?_) .inr⟩
  rcases List.mem_cons.mp c with c | c
  · exfalso
    have := x1.1
    omega
  · exact .inl c
theorem az_bw_note {f : Nat → Int} {a m : Nat} {w : List Int} (h : az_bw f a m w) {x : Int} (hx : x / 1048576 ≤ 9 ∨ (x / 1048576 = 10 ∧ az_bo f a m)) : az_bw (su f m x) a (m + 1) w := fun j h1 h2 => by
  have sp : ∀ k, k ≤ m → az_bo f a k → az_bo (su f m x) a k := fun k hk hb => az_bo_eq hb (fun i hi => by unfold su; rw [if_neg (by omega)])
  by_cases hj : j = m
  · have e : su f m x j = x := by unfold su; rw [if_pos hj]
    rw [e, hj]
    refine ⟨⟨by rcases hx with q | q <;> omega, fun q => ?_⟩, fun q => ?_⟩
    · rcases hx with q2 | q2
      · omega
      · exact sp m (Nat.le_refl _) q2.2
    · rcases hx with q2 | q2 <;> omega
  · have e : su f m x j = f j := by unfold su; rw [if_neg hj]
    rw [e]
    obtain ⟨⟨x1, x2⟩, x3⟩ := h j h1 (by omega)
    refine ⟨⟨x1, fun q => sp j (by omega) (x2 q)⟩, fun q => (x3 q).elim .inl (fun c => .inr ⟨⟨c.1.1, by omega⟩, sp _ c.1.2 c.2⟩)⟩
theorem az_bw_leap {f : Nat → Int} {a m : Nat} {w : List Int} (h : az_bw f a m w) (hb : az_bo f a m) {J : Int} (hJ : J = 11 ∨ J = 12) : az_bw (su f m (1048576 * J)) a (m + 1) ((1048576 * J + (m : Int)) :: w) := fun j h1 h2 => by
  have sp : ∀ k, k ≤ m → az_bo f a k → az_bo (su f m (1048576 * J)) a k := fun k hk hb => az_bo_eq hb (fun i hi => by unfold su; rw [if_neg (by omega)])
  by_cases hj : j = m
  · have e : su f m (1048576 * J) j = 1048576 * J := by unfold su; rw [if_pos hj]
    rw [e, hj]
    refine ⟨⟨by omega, fun q => sp m (Nat.le_refl _) hb⟩, fun q => .inl ?_⟩
    rw [show 1048576 * J / 1048576 = J by omega]
    exact List.mem_cons_self ..
  · have e : su f m (1048576 * J) j = f j := by unfold su; rw [if_neg hj]
    rw [e]
    obtain ⟨⟨x1, x2⟩, x3⟩ := h j h1 (by omega)
    refine ⟨⟨x1, fun q => sp j (by omega) (x2 q)⟩, fun q => (x3 q).elim (fun c => .inl (List.mem_cons_of_mem _ c)) (fun c => .inr ⟨⟨c.1.1, by omega⟩, sp _ c.1.2 c.2⟩)⟩
theorem az_bw_lead {f : Nat → Int} {a m : Nat} {w : List Int} {J : Int} {i : Nat} (h : az_bw f a m ((1048576 * J + (i : Int)) :: w)) (hm : m < 1000) (hb : az_bo f a m) (hJ : J = 11 ∨ J = 12) (hi : a ≤ i ∧ i < m) (hf : f i = 1048576 * J) : az_bw (su f i (1048576 * (f i / 1048576) + m)) a m w := fun j h1 h2 => by
  have op : ∀ k, su f i (1048576 * (f i / 1048576) + m) k / 1048576 = f k / 1048576 := fun k => by
    unfold su
    split
    · next q => rw [q]; omega
    · rfl
  have sp : ∀ k, az_bo f a k → az_bo (su f i (1048576 * (f i / 1048576) + m)) a k := fun k hb => az_bo_eq hb (fun _ _ => op _)
  obtain ⟨⟨x1, x2⟩, x3⟩ := h j h1 h2
  rw [op j]
  refine ⟨⟨x1, fun q => sp j (x2 q)⟩, fun q => ?_⟩
  by_cases hj : j = i
  · have e : su f i (1048576 * (f i / 1048576) + m) j = 1048576 * (f i / 1048576) + m := by unfold su; rw [if_pos hj]
    have e2 : ((1048576 * (f i / 1048576) + (m : Int)) % 1048576).toNat = m := by omega
    rw [e, e2]
    exact .inr ⟨⟨by omega, Nat.le_refl _⟩, sp m hb⟩
  · have e : su f i (1048576 * (f i / 1048576) + m) j = f j := by unfold su; rw [if_neg hj]
    rw [e]
    rcases x3 q with c | c
    · rcases List.mem_cons.mp c with c | c
      · exfalso
        have := x1
        omega
      · exact .inl c
    · exact .inr ⟨c.1, sp _ c.2⟩
theorem tl_cm_op {op arg x : Int} (h : tl_cm op arg x) : x / 1048576 ≤ 9 := by
  rcases h with ⟨-, h1, h2⟩ | ⟨-, h1, h2⟩ | ⟨h1, h2⟩
  · omega
  · omega
  · have := az_sgn_in h1
    omega
theorem az_bw_add {B : Int → Int} {D E' a : Nat} {t t' : hy_T} {p' : Int} {m m' : Nat} {f f' : Nat → Int} {w : List Int} (h : az_bw f a m w) (h2 : tl_S B D E' m t' p' m' f') (g : tl_G D t t' m f m' f') : az_bw f' a m' w := fun j h1 h3 => by
  obtain ⟨g1, g2, g3⟩ := g
  have sp : ∀ k, k ≤ m → az_bo f a k → az_bo f' a k := fun k hk hb => az_bo_eq hb (fun i hi => by rw [g2 i (by omega)])
  by_cases hl : j < m
  · rw [g2 j hl]
    obtain ⟨⟨x1, x2⟩, x3⟩ := h j h1 hl
    exact ⟨⟨x1, fun q => sp j (by omega) (x2 q)⟩, fun q => (x3 q).elim .inl (fun c => .inr ⟨⟨c.1.1, by omega⟩, sp _ c.1.2 c.2⟩)⟩
  · have := tl_cm_op (h2.cs j (by omega) h3)
    exact ⟨⟨by omega, fun q => by omega⟩, fun q => by omega⟩
/-- the state inside a condition, with where 'true or not' lies -/
def tl_V (B : Int → Int) (D E a : Nat) (t : hy_T) (p : Int) (m : Nat) (f : Nat → Int) (w : List Int) : Prop := tl_T B D E a t p m f w ∧ az_bw f a m w
theorem tl_V.m1 {B : Int → Int} {D E a : Nat} {t : hy_T} {p : Int} {m : Nat} {f : Nat → Int} {w : List Int} (h : tl_V B D E a t p m f w) : m < 1000 := by
  have h1 := h.1.1.p1
  have h2 := h.1.1.le
  omega
theorem tl_V.add {B : Int → Int} {D E E' a : Nat} {t t' : hy_T} {p p' : Int} {m m' : Nat} {f f' : Nat → Int} {w : List Int} (h : tl_V B D E a t p m f w) (h2 : tl_S B D E' m t' p' m' f') (g : tl_G D t t' m f m' f') : tl_V B D E' a t' p' m' f' w := ⟨h.1.add h2 g, az_bw_add h.2 h2 g⟩
theorem tl_V.mono {B : Int → Int} {D E a : Nat} {t : hy_T} {p : Int} {m : Nat} {f : Nat → Int} {w w' : List Int} (h : tl_V B D E a t p m f w) (hw : ∀ x, x ∈ w → x ∈ w') : tl_V B D E a t p m f w' := ⟨h.1.mono hw, az_bw_mono h.2 hw⟩
theorem tl_V.out {B : Int → Int} {D E a : Nat} {t : hy_T} {p : Int} {m : Nat} {f : Nat → Int} {w : List Int} {y : Int} (hy : y = 10485760 ∨ y = 13631488) (h : tl_V B D E a t p m f (y :: w)) : tl_V B D E a t p m f w :=
  ⟨h.1.out (by unfold az_lp; omega) (by have := h.m1; omega), az_bw_out hy h.m1 h.2⟩
theorem tl_leadV {B : Int → Int} {D E a : Nat} {t t0 : hy_T} {p : Int} {m m0 : Nat} {g f0 : Nat → Int} {w : List Int} {sg : Int} (hs : sg = 38 ∨ sg = 124) {l : Int} {q : List Int} (h : tl_V B D E a t p m g (q ++ w)) (hb : az_bo g a m) (hq : tl_q D sg t m0 m g l q) (ha : a ≤ m0) (hg : tl_G D t0 t m0 f0 m g) : tl_V B D E a (lp_lead t l) p m (az_lan q m g) w ∧ tl_G D t0 (lp_lead t l) m0 f0 m (az_lan q m g) := by
  obtain ⟨r1, r2⟩ := tl_leadq hs h.1 hq ha hg
  refine ⟨⟨r1, ?_⟩, r2⟩
  have hm := h.m1
  rcases hq with ⟨rfl, rfl⟩ | ⟨j, ⟨j0, j1⟩, rfl, rfl, j4, j5⟩
  · exact h.2
  · have hj := tl_jop hs
    rw [az_lan1 (by omega) (by omega)]
    exact az_bw_lead h.2 hm hb (by omega) ⟨by omega, j1⟩ j5
/-- behind a part of a condition: what waits is q on w; C of what comes, S of what waits -/
def tl_L (C S : Int → Prop) (B : Int → Int) (D E a : Nat) (t t' : hy_T) (G : Int ⊕ Zs) (p : Int) (m : Nat) (f : Nat → Int) (w : List Int) (o : Int) : Prop :=
  (t' 3 4 ≠ 0 ∧ G = .inl (t' 3 4)) ∨ ∃ (n' : Nat) (p' : Int) (m' : Nat) (f' : Nat → Int) (q : List Int), G = az_cond B n' false (p', m', f', q ++ w, o) ∧ ((∀ x, x ∈ q → S x) ∧ C (B p')) ∧ (tl_V B D E a t' p' m' (az_lan q m' f') w ∧ az_bo (az_lan q m' f') a m') ∧ (p < p' ∧ 600 ≤ n' + 2 * p') ∧ tl_G D t t' m f m' (az_lan q m' f') ∧ tl_H 1 16 m (az_lan q m' f') m'
abbrev az_h (lo : Int) (w : List Int) : Prop := ∃ x w', w = x :: w' ∧ lo ≤ x / 1048576 ∧ x / 1048576 ≤ 13
def tl_K (lo : Int) (C S : Int → Prop) (B : Int → Int) (D : Nat) (k : Nat) (F : hy_T → hy_T) : Prop := dd_good F ∧ ∀ (t : hy_T) (p : Int) (m : Nat) (f : Nat → Int) (w : List Int) (o : Int) (E a n : Nat), tl_V B D E a t p m f w → o = 6 - (k : Int) → az_h lo w → 600 ≤ n + 2 * p → tl_L C S B D E a t (F t) (az_cond B n true (p, m, f, w, o)) p m f w o
theorem dd_rb {sg : Int} (hs : 0 ≤ sg) (F : hy_T → hy_T) : ∀ (n : Nat) (l : Int) {t : hy_T}, t 3 4 ≠ 0 → rb_loop sg F n t l 3 4 = t 3 4
  | 0, l, t, h => dd_lead l t
  | n + 1, l, t, h => by
    simp only [rb_loop]
    rw [dd_next h, if_neg (by omega)]
    exact dd_lead l t
theorem az_hd_h {lo : Int} (hlo : 10 ≤ lo) {w : List Int} (h : az_h lo w) : az_hd w := fun x hx => by
  obtain ⟨y, w', rfl, h1, h2⟩ := h
  have : y = x := by simpa using hx
  omega
theorem tl_fin {B : Int → Int} {sg : Int} (hs : sg = 38 ∨ sg = 124) {C S : Int → Prop} (hS : ∀ x, S x → az_ps sg x) {D E a m0 : Nat} (ha : a ≤ m0) {w : List Int} {o p0 : Int} {t0 : hy_T} {f0 : Nat → Int} {n : Nat} {t : hy_T} {p : Int} {m : Nat} {f : Nat → Int} {q1 q : List Int} {l : Int}
    (hT : tl_V B D E a t p m (az_lan q1 m f) (q ++ w)) (hb : az_bo (az_lan q1 m f) a m) (hc : (∀ x, x ∈ q1 → S x) ∧ C (B p)) (hq : tl_q D sg t m0 m (az_lan q1 m f) l q) (hg : tl_G D t0 t m0 f0 m (az_lan q1 m f)) (hH : tl_H 1 16 m0 (az_lan q1 m f) m) (hp : p0 < p) (hn : 600 ≤ n + 2 * p) (hne : B p ≠ sg) : tl_L (fun c => C c ∧ c ≠ sg) (az_ps sg) B D E a t0 (lp_lead t l) (az_cond B n false (p, m, f, q1 ++ (q ++ w), o)) p0 m0 f0 w o := by
  obtain ⟨r1, r2⟩ := tl_leadV hs hT hb hq ha hg
  have h1 := hT.1.1.p1
  have hl := hT.1.1.le
  refine .inr ⟨n, p, m, f, q1 ++ q, by rw [List.append_assoc], ⟨fun x hx => ?_, hc.2, hne⟩, by rw [az_lan_app]; exact ⟨r1, az_bo_lan (by omega) q hb⟩, ⟨hp, hn⟩, by rw [az_lan_app]; exact r2, by rw [az_lan_app]; exact hH.cong (fun j _ => az_lan_op (by omega) q _ j)⟩
  rcases List.mem_append.mp hx with h | h
  · exact hS x (hc.1 x h)
  · exact hq.ps hs (by omega) x h
theorem tl_loop {B : Int → Int} (hB : az_by B) {sg : Int} (hs : sg = 38 ∨ sg = 124) {C S : Int → Prop} (hS : ∀ x, S x → az_ps sg x) {D k : Nat} {F : hy_T → hy_T} (hF : tl_K (az_jop sg) C S B D k F) {w : List Int} (hw : az_h (az_jop sg + 1) w) {o : Int} (ho : o = 6 - (k : Int)) {E a m0 : Nat} (ha : a ≤ m0) {p0 : Int} {t0 : hy_T} {f0 : Nat → Int} :
    ∀ (N n : Nat) {t : hy_T} {p : Int} {m : Nat} {f : Nat → Int} {q1 q : List Int} {l : Int}, (tl_V B D E a t p m (az_lan q1 m f) (q ++ w) ∧ az_bo (az_lan q1 m f) a m) → ((∀ x, x ∈ q1 → S x) ∧ C (B p)) → tl_q D sg t m0 m (az_lan q1 m f) l q → tl_G D t0 t m0 f0 m (az_lan q1 m f) → tl_H 1 16 m0 (az_lan q1 m f) m → p0 < p → 240 ≤ N + p → 600 ≤ n + 2 * p →
    tl_L (fun c => C c ∧ c ≠ sg) (az_ps sg) B D E a t0 (rb_loop sg F N t l) (az_cond B n false (p, m, f, q1 ++ (q ++ w), o)) p0 m0 f0 w o
  | 0, n, t, p, m, f, q1, q, l, ⟨hT, hbo⟩, hc, hq, hg, hH, hp, hN, hn => by
    have e : B p = -1 := (hB p).2.2 (by omega)
    exact tl_fin hs hS ha hT hbo hc hq hg hH hp hn (by omega)
  | N + 1, n, t, p, m, f, q1, q, l, ⟨hT, hbo⟩, hc, hq, hg, hH, hp, hN, hn => by
    have e := hT.1.1.next
    have hp1 := hT.1.1.p1
    have hle := hT.1.1.le
    have hj := tl_jop hs
    simp only [rb_loop]
    rw [e]
    by_cases hc2 : B p = sg
    · rw [if_pos hc2]
      have hsg0 : 0 ≤ B p := by omega
      obtain ⟨n1, rfl⟩ : ∃ x, n = x + 1 := ⟨n - 1, by omega⟩
      have T1 : tl_V B D (E + 1) a (tp_step t) (p + 1) m (az_lan q1 m f) (q ++ w) := hT.add (hT.1.1.step hB hsg0) (tl_G.same rfl rfl)
      have q' : tl_q D sg (tp_step t) m0 m (az_lan q1 m f) l q := hq
      have g1 : tl_G D t0 (tp_step t) m0 f0 m (az_lan q1 m f) := hg.tr (tl_G.same rfl rfl)
      obtain ⟨T2, g2⟩ := tl_leadV hs T1 hbo q' ha g1
      have c2 : lp_lead (tp_step t) l 19 3 = m + D := T2.1.1.cn
      obtain ⟨T3a, x20⟩ := T2.1.leap hs hT.1.1.de
      have T3 : tl_V B D E a (lp_emit (lp_lead (tp_step t) l) sg 0) (p + 1) (m + 1) (su (az_lan q m (az_lan q1 m f)) m (1048576 * az_jop sg)) ((1048576 * az_jop sg + (m : Int)) :: w) := ⟨T3a, az_bw_leap T2.2 (az_bo_lan (by omega) q hbo) (by omega)⟩
      have g3 := g2.tr (tl_G.emit T2.1.1.cn sg 0 (1048576 * az_jop sg))
      have hH3 : tl_H 0 16 m0 (su (az_lan q m (az_lan q1 m f)) m (1048576 * az_jop sg)) (m + 1) := (hH.cong (fun j _ => az_lan_op (by omega) q _ j)).note hg.1 (v := -1) (by unfold az_eff; rw [if_neg (by omega), if_neg (by omega)]) (by decide) (by decide) (by decide)
      obtain ⟨y, w', ew, y1, y2⟩ := hw
      have hwx : ∀ x, w.head? = some x → ¬ az_ps sg x := fun x hx => by
        rw [ew] at hx
        have : y = x := by simpa using hx
        unfold az_ps
        omega
      have eL : az_land (decide (sg = 124)) (q1 ++ (q ++ w)) m f = (w, az_lan q m (az_lan q1 m f)) := by
        rw [← List.append_assoc, az_land_ps hwx (q1 ++ q) m f (fun x hx => by
          rcases List.mem_append.mp hx with h | h
          · exact hS x (hc.1 x h)
          · exact hq.ps hs (by omega) x h), az_lan_app]
      have eG : az_cond B (n1 + 1) false (p, m, f, q1 ++ (q ++ w), o) = az_cond B n1 true (p + 1, m + 1, su (az_lan q m (az_lan q1 m f)) m (1048576 * az_jop sg), (1048576 * az_jop sg + (m : Int)) :: w, o) := by
        simp only [az_cond]
        rw [if_neg (show ¬ B p = 41 by omega), if_pos (show B p = 38 ∨ B p = 124 by omega)]
        unfold az_jump
        dsimp only
        rw [hc2, eL]
      rw [eG]
      have hb := hF.2 _ (p + 1) (m + 1) _ ((1048576 * az_jop sg + (m : Int)) :: w) o E a n1 T3 ho ⟨_, _, rfl, by omega, by omega⟩ (by omega)
      rcases hb with ⟨d1, d2⟩ | ⟨n2, p2, m2, f2, q2, u1, u2, u3, ⟨u4, u5⟩, u6, uh⟩
      · refine .inl ?_
        rw [dd_rb (by omega) F N _ d1]
        exact ⟨d1, d2⟩
      · rw [u1]
        have u7 := u6.1
        have hq2 : tl_q D sg (F (lp_emit (lp_lead (tp_step t) l) sg 0)) m0 m2 (az_lan q2 m2 f2) (lp_lead (tp_step t) l 19 3) [1048576 * az_jop sg + (m : Int)] :=
          .inr ⟨m, ⟨hg.1, by omega⟩, c2, rfl, ((u6.2.2 (m + D) (by omega)).1).trans x20, (u6.2.1 m (by omega)).trans (by unfold su; rw [if_pos rfl])⟩
        exact tl_loop hB hs hS hF ⟨y, w', ew, y1, y2⟩ ho ha N n2 (q := [1048576 * az_jop sg + (m : Int)]) u3 u2 hq2 (g3.tr u6) (hH3.tr uh g3.1 u7 u6.2.1 (by decide) (by decide) (by decide)) (by omega) (by omega) u5
    · rw [if_neg hc2]
      exact tl_fin hs hS ha hT hbo hc hq hg hH hp hn hc2
theorem tl_both {B : Int → Int} (hB : az_by B) {sg : Int} (hs : sg = 38 ∨ sg = 124) {C S : Int → Prop} (hS : ∀ x, S x → az_ps sg x) {D k : Nat} {F : hy_T → hy_T} (hF : tl_K (az_jop sg) C S B D k F) : tl_K (az_jop sg + 1) (fun c => C c ∧ c ≠ sg) (az_ps sg) B D k (rb_both sg F) :=
  ⟨dd_both (by omega) hF.1, fun t p m f w o E a n h ho hw hn => by
    have hp0 := h.1.1.p0
    have hw2 : az_h (az_jop sg) w := by
      obtain ⟨y, w', ew, y1, y2⟩ := hw
      exact ⟨y, w', ew, by omega, y2⟩
    unfold rb_both
    rcases hF.2 t p m f w o E a n h ho hw2 hn with ⟨d1, d2⟩ | ⟨n2, p2, m2, f2, q2, u1, u2, u3, ⟨u4, u5⟩, u6, uh⟩
    · refine .inl ?_
      rw [dd_rb (by omega) F 240 _ d1]
      exact ⟨d1, d2⟩
    · rw [u1]
      exact tl_loop hB hs hS hF hw ho h.1.2.1 240 n2 (q := []) (l := -1) u3 u2 (.inl ⟨rfl, rfl⟩) u6 uh u4 (by omega) u5⟩
/-- behind a piece of a condition: what az_ends makes of the place -/
def tl_P (B : Int → Int) (D E a : Nat) (t t' : hy_T) (G : Int ⊕ Zs) (p : Int) (m : Nat) (f : Nat → Int) (w : List Int) (o : Int) : Prop :=
  (t' 3 4 ≠ 0 ∧ G = .inl (t' 3 4)) ∨ ∃ (n' : Nat) (p' : Int) (m' : Nat) (f' : Nat → Int), G = az_cond B n' false (p', (az_ends w m' f' o).2.1, (az_ends w m' f' o).2.2.1, (az_ends w m' f' o).1, (az_ends w m' f' o).2.2.2) ∧ (tl_V B D E a t' p' m' f' w ∧ az_bo f' a m') ∧ (p < p' ∧ 600 ≤ n' + 2 * p') ∧ tl_G D t t' m f m' f' ∧ tl_H 1 16 m f' m'
def tl_PK (B : Int → Int) (D k : Nat) (F : hy_T → hy_T) : Prop := dd_good F ∧ ∀ (t : hy_T) (p : Int) (m : Nat) (f : Nat → Int) (w : List Int) (o : Int) (E a n : Nat), tl_V B D E a t p m f w → o = 6 - (k : Int) → az_h 10 w → 600 ≤ n + 2 * p → tl_P B D E a t (F t) (az_cond B n true (p, m, f, w, o)) p m f w o
theorem az_ends_h {w : List Int} (h : az_h 11 w) (m : Nat) (f : Nat → Int) (o : Int) : az_ends w m f o = (w, m, f, o) := by
  obtain ⟨y, w', rfl, h1, h2⟩ := h
  simp only [az_ends]
  rw [if_neg (by omega)]
theorem tl_PK.k {B : Int → Int} {D k : Nat} {F : hy_T → hy_T} (h : tl_PK B D k F) : tl_K 11 (fun _ => True) (fun _ => False) B D k F :=
  ⟨h.1, fun t p m f w o E a n h1 ho hw hn => by
    have hw2 : az_h 10 w := by
      obtain ⟨y, w', ew, y1, y2⟩ := hw
      exact ⟨y, w', ew, by omega, y2⟩
    rcases h.2 t p m f w o E a n h1 ho hw2 hn with d | ⟨n2, p2, m2, f2, u1, u2, u3, u4, uh⟩
    · exact .inl d
    · rw [az_ends_h hw] at u1
      exact .inr ⟨n2, p2, m2, f2, [], u1, ⟨fun x hx => (by cases hx), trivial⟩, u2, u3, u4, uh⟩⟩
abbrev tl_CE (c : Int) : Prop := (True ∧ c ≠ 38) ∧ c ≠ 124
theorem tl_eitherK {B : Int → Int} (hB : az_by B) {D k n : Nat} (h : tl_PK B D k (rp_lev n)) : tl_K 13 (fun c => tl_CE c) (az_ps 124) B D k (rp_either n) :=
  tl_both hB (.inr rfl) (fun x hx => hx.elim .inl (fun c => absurd c.1 (by decide))) (tl_both hB (.inl rfl) (fun x hx => hx.elim) h.k)
theorem tl_howc {c : Int} : rp_cmp c ↔ az_how c ≠ -1 := by
  unfold az_how
  constructor
  · intro h
    rcases h with rfl | rfl | rfl <;> decide
  · intro h
    by_cases h1 : c = 60
    · exact .inl h1
    · by_cases h2 : c = 62
      · exact .inr (.inl h2)
      · by_cases h3 : c = 61
        · exact .inr (.inr h3)
        · rw [if_neg h1, if_neg h2, if_neg h3] at h
          exact absurd rfl h
theorem tl_cmp {B : Int → Int} (hB : az_by B) {D E a : Nat} {k : Nat} (hk : k ≤ 6) {N : Option ((hy_T → hy_T) × (hy_T → hy_T))} {n : Nat} {t : hy_T} {p : Int} {m : Nat} {f : Nat → Int} {w : List Int} {o : Int} (h : tl_V B D E a t p m f w) (ho : o = 6 - (k : Int)) (hw : az_hd w) (hc : ¬ (B p = 33 ∨ B p = 40)) (hn : 600 ≤ (n + 1 : Nat) + 2 * p) : tl_P B D E a t (rp_piece (rx_sumL k) N t) (az_cond B (n + 1) true (p, m, f, w, o)) p m f w o := by
  have e := h.1.1.next
  have eG : az_cond B (n + 1) true (p, m, f, w, o) = match az_cmp B (p, m, f, w, o) with | .inl e => .inl e | .inr s1 => az_cond B n false s1 := by
    simp only [az_cond]
    rw [if_neg hc]
    rfl
  unfold rp_piece
  rw [e, if_neg hc, eG]
  unfold az_cmp
  rcases tl_rs hB hk h.1.1 ho hw with ⟨d1, d2⟩ | ⟨p1, m1, f1, u1, u2, u3, u4, uh⟩
  · rw [d2, dd_next d1, if_neg (by decide), dd_fail d1]
    exact .inl ⟨d1, rfl⟩
  · rw [u1]
    dsimp only
    have e1 := u2.next
    rw [e1]
    have h1 := h.add u2 u4
    by_cases hq : rp_cmp (B p1)
    · have hh := tl_howc.mp hq
      rw [if_pos hq, if_neg hh]
      have hb : 0 ≤ B p1 := by
        rcases hq with q | q | q <;> omega
      have s2 := (u2.step hB hb).emp
      rcases tl_rs hB hk s2 ho hw with ⟨d1, d2⟩ | ⟨p2, m2, f2, v1, v2, v3, v4, vh⟩
      · rw [d2]
        refine .inl ?_
        rw [dd_emit]
        exact ⟨d1, rfl⟩
      · rw [v1]
        dsimp only
        have T1 : tl_V B D (E + 1) a (tp_step (rx_sumL k t)) (p1 + 1) m1 f1 w := h1.add s2 (tl_G.same rfl rfl)
        have T2 := T1.add v2 v4
        have hw9 := az_how_in hh
        have T3 := T2.1.emit h.1.1.de (op := B p1) (arg := 0) (x := 1048576 * az_how (B p1)) (fun w' => .inl (.inr (.inl ⟨hh, rfl⟩)))
        have T4 : tl_V B D E a (lp_emit (rx_sumL k (tp_step (rx_sumL k t))) (B p1) 0) p2 (m2 + 1) (su f2 m2 (1048576 * az_how (B p1))) w := ⟨T3, az_bw_note T2.2 (.inl (by omega))⟩
        have bo : az_bo (su f2 m2 (1048576 * az_how (B p1))) a (m2 + 1) := by
          have e9 : su f2 m2 (1048576 * az_how (B p1)) (m2 + 1 - 1) = 1048576 * az_how (B p1) := by unfold su; rw [if_pos (by omega)]
          refine ⟨by have := T2.1.2.1; omega, ?_, ?_⟩
          · rw [e9]; omega
          · rw [e9]; omega
        exact .inr ⟨n, p2, m2 + 1, su f2 m2 (1048576 * az_how (B p1)), rfl, ⟨T4, bo⟩, ⟨by omega, by omega⟩, ((u4.tr (tl_G.same rfl rfl)).tr v4).tr (tl_G.emit v2.cn _ _ _), (uh.tr vh u4.1 v4.1 v4.2.1 (e := 2) (h := 16) (by decide) (by decide) (by decide)).note (Nat.le_trans u4.1 v4.1) (az_eff_b (by omega)) (by decide) (by decide) (by decide)⟩
    · rw [if_neg hq, if_pos (by refine Decidable.byContradiction (fun q => hq (tl_howc.mpr q)))]
      have := u2.fail (n := 1) (by decide)
      refine .inl ⟨this.2, ?_⟩
      rw [this.1]
      show Sum.inl (-1000 - p1) = Sum.inl (-1000 * 1 - p1)
      congr 1
theorem az_ends10 (w : List Int) (m : Nat) (f : Nat → Int) (o : Int) : az_ends (10485760 :: w) m f (o + 1) = az_ends w (m + 1) (su f m 10485760) o := by
  show (if (10485760 : Int) / 1048576 = 10 then _ else _) = _
  rw [if_pos (by decide), show o + 1 - 1 = o by omega]
/-- 'not' before a piece -/
theorem tl_not {B : Int → Int} (hB : az_by B) {D E a : Nat} {P E' : hy_T → hy_T} {S : hy_T → hy_T} {n : Nat} {t : hy_T} {p : Int} {m : Nat} {f : Nat → Int} {w : List Int} {o : Int} (h : tl_V B D E a t p m f w) (ho : o ≠ 6) (hc : B p = 33)
    (hP : tl_P B D (E + 1) a (tp_step t) (P (tp_step t)) (az_cond B n true (p + 1, m, f, 10485760 :: w, o + 1)) (p + 1) m f (10485760 :: w) (o + 1)) : tl_P B D E a t (rp_piece S (some (P, E')) t) (az_cond B (n + 1) true (p, m, f, w, o)) p m f w o := by
  have e := h.1.1.next
  have eo : az_open 10 (p, m, f, w, o) = .inr (p + 1, m, f, 10485760 :: w, o + 1) := if_neg (show ¬ o = 6 from ho)
  have eG : az_cond B (n + 1) true (p, m, f, w, o) = az_cond B n true (p + 1, m, f, 10485760 :: w, o + 1) := by
    simp only [az_cond]
    rw [if_pos (.inl hc), if_pos hc, eo]
  unfold rp_piece
  rw [e, if_pos (.inl hc), eG]
  dsimp only
  rw [if_pos hc]
  rcases hP with ⟨d1, d2⟩ | ⟨n', p', m', f', u1, ⟨u2, ub⟩, ⟨u3, u4⟩, u5, uh⟩
  · refine .inl ?_
    rw [dd_emit]
    exact ⟨d1, d2⟩
  · rw [u1, az_ends10]
    have hp1 := u2.1.1.p1
    have hle := u2.1.1.le
    have hlist : tl_V B D (E + 1) a (P (tp_step t)) p' m' f' w := u2.out (.inl rfl)
    have hl2 := hlist.1.emit h.1.1.de (op := 33) (arg := 0) (x := 10485760) (fun w' => .inl (.inr (.inr ⟨rfl, rfl⟩)))
    have bo : az_bo (su f' m' 10485760) a (m' + 1) := by
      have e9 : su f' m' 10485760 (m' + 1 - 1) = 10485760 := by unfold su; rw [if_pos (by omega)]
      refine ⟨by have := hlist.1.2.1; omega, ?_, ?_⟩
      · rw [e9]; decide
      · rw [e9]; decide
    have g0 : tl_G D t (tp_step t) m f m f := tl_G.same rfl rfl
    exact .inr ⟨n', p', m' + 1, su f' m' 10485760, rfl, ⟨⟨hl2, az_bw_note hlist.2 (.inr ⟨by decide, ub⟩)⟩, bo⟩, ⟨by omega, by omega⟩, (g0.tr u5).tr (tl_G.emit u2.1.1.cn _ _ _), uh.note u5.1 (v := 0) (by decide) (by decide) (by decide) (by decide)⟩
/-- a condition in brackets, as a piece -/
theorem tl_par {B : Int → Int} (hB : az_by B) {D E a : Nat} {P E' : hy_T → hy_T} {S : hy_T → hy_T} {n : Nat} {t : hy_T} {p : Int} {m : Nat} {f : Nat → Int} {w : List Int} {o : Int} (h : tl_V B D E a t p m f w) (ho : o ≠ 6) (hc : B p = 40) (hw : w ≠ [])
    (hE : tl_L (fun c => tl_CE c) (az_ps 124) B D (E + 1) a (tp_step t) (E' (tp_step t)) (az_cond B n true (p + 1, m, f, 13631488 :: w, o + 1)) (p + 1) m f (13631488 :: w) (o + 1)) : tl_P B D E a t (rp_piece S (some (P, E')) t) (az_cond B (n + 1) true (p, m, f, w, o)) p m f w o := by
  have e := h.1.1.next
  have eo : az_open 13 (p, m, f, w, o) = .inr (p + 1, m, f, 13631488 :: w, o + 1) := if_neg (show ¬ o = 6 from ho)
  have eG : az_cond B (n + 1) true (p, m, f, w, o) = az_cond B n true (p + 1, m, f, 13631488 :: w, o + 1) := by
    simp only [az_cond]
    rw [if_pos (.inr hc), if_neg (show ¬ B p = 33 by omega), eo]
  unfold rp_piece
  rw [e, if_pos (.inr hc), eG]
  dsimp only
  rw [if_neg (show ¬ B p = 33 by omega)]
  rcases hE with ⟨d1, d2⟩ | ⟨n', p', m', f', q, u1, ⟨u2, ⟨-, u3⟩, u4⟩, ⟨u5, ub⟩, ⟨u6, u7⟩, u8, uh⟩
  · rw [dd_take d1 (by decide)]
    exact .inl ⟨d1, d2⟩
  · have e2 := u5.1.1.next
    have hp1 := u5.1.1.p1
    have hle := u5.1.1.le
    rw [u1]
    obtain ⟨n'', rfl⟩ : ∃ x, n' = x + 1 := ⟨n' - 1, by omega⟩
    have el : az_land true (q ++ 13631488 :: w) m' f' = (13631488 :: w, az_lan q m' f') := az_land_lan (fun x hx => by
      have hx' : (13631488 : Int) = x := by simpa using hx
      unfold az_lp
      omega) q m' f' (fun x hx => (u2 x hx).elim .inl (fun c => .inr c.2))
    by_cases h41 : B p' = 41
    · have et : tp_take (E' (tp_step t)) 41 = tp_step (E' (tp_step t)) := by
        unfold tp_take
        rw [e2, if_pos h41]
        rfl
      have es : az_shut (p', m', f', q ++ 13631488 :: w, o + 1) = (p' + 1, m', az_lan q m' f', w, o) := by
        unfold az_shut
        dsimp only
        rw [el]
        dsimp only [List.tail_cons]
        rw [show o + 1 - 1 = o by omega]
      have T1 : tl_V B D (E + 1) a (tp_step (E' (tp_step t))) (p' + 1) m' (az_lan q m' f') w := (u5.out (.inr rfl)).add ((u5.1.1.step hB (by omega)).re (E + 1) (by omega) u5.1.1.de) (tl_G.same rfl rfl)
      rw [et]
      have g0 : tl_G D t (tp_step t) m f m f := tl_G.same rfl rfl
      refine .inr ⟨n'', p' + 1, m', az_lan q m' f', ?_, ⟨T1.add ((T1.1.1.re E (by have := T1.1.1.le; omega) h.1.1.de).emp) tl_G.rf, ub⟩, ⟨by omega, by omega⟩, (g0.tr u8).tr (tl_G.same rfl rfl), uh⟩
      simp only [az_cond]
      rw [if_pos h41, es, if_neg hw]
      rfl
    · have et : tp_take (E' (tp_step t)) 41 = tp_fail (E' (tp_step t)) 1 (E' (tp_step t) 3 3) := by
        unfold tp_take
        rw [e2, if_neg h41]
      rw [et]
      have := u5.1.1.fail (n := 1) (by decide)
      refine .inl ⟨this.2, ?_⟩
      simp only [az_cond]
      rw [if_neg h41, if_neg (fun c => c.elim u3 u4), this.1]
      show Sum.inl (-1000 - p') = Sum.inl (-1000 * 1 - p')
      congr 1
/-- a piece at every depth -/
theorem tl_lev {B : Int → Int} (hB : az_by B) {D : Nat} : ∀ k : Nat, k ≤ 6 → tl_PK B D k (rp_lev k)
  | 0, hk => ⟨dd_lev 0, fun t p m f w o E a n h ho hw hn => by
    have hp1 := h.1.1.p1
    obtain ⟨n1, rfl⟩ : ∃ x, n = x + 1 := ⟨n - 1, by omega⟩
    show tl_P B D E a t (rp_piece (rx_sumL 0) none t) _ p m f w o
    by_cases hc : B p = 33 ∨ B p = 40
    · have e := h.1.1.next
      unfold rp_piece
      rw [e, if_pos hc]
      have := h.1.1.fail (n := 5) (by decide)
      refine .inl ⟨this.2, ?_⟩
      have eo : ∀ what, az_open what (p, m, f, w, o) = .inl (-5000 - p) := fun what => if_pos (show o = 6 by omega)
      simp only [az_cond]
      rw [if_pos hc, eo, this.1]
      show Sum.inl (-5000 - p) = Sum.inl (-1000 * 5 - p)
      congr 1
    · exact tl_cmp hB hk h ho (az_hd_h (by decide) hw) hc hn⟩
  | k + 1, hk => ⟨dd_lev (k + 1), fun t p m f w o E a n h ho hw hn => by
    have hp1 := h.1.1.p1
    obtain ⟨n1, rfl⟩ : ∃ x, n = x + 1 := ⟨n - 1, by omega⟩
    have ih := tl_lev hB (D := D) k (by omega)
    show tl_P B D E a t (rp_piece (rx_sumL (k + 1)) (some (rp_lev k, rp_either k)) t) _ p m f w o
    by_cases hc : B p = 33
    · exact tl_not hB h (by omega) hc (ih.2 _ _ _ _ _ _ _ _ _ ((h.add (h.1.1.step hB (by omega)) (tl_G.same rfl rfl)).mono (fun x hx => List.mem_cons_of_mem _ hx)) (by omega) ⟨_, _, rfl, by decide, by decide⟩ (by omega))
    · by_cases hc2 : B p = 40
      · exact tl_par hB h (by omega) hc2 (by obtain ⟨y, w', rfl, -⟩ := hw; exact List.cons_ne_nil _ _) ((tl_eitherK hB ih).2 _ _ _ _ _ _ _ _ _ ((h.add (h.1.1.step hB (by omega)) (tl_G.same rfl rfl)).mono (fun x hx => List.mem_cons_of_mem _ hx)) (by omega) ⟨_, _, rfl, by decide, by decide⟩ (by omega))
      · exact tl_cmp hB hk h ho (az_hd_h (by decide) hw) (fun q => q.elim hc hc2) hn⟩
/-! clauses -/
theorem tl_S.of {B : Int → Int} {D E m0 : Nat} {t t' : hy_T} {p : Int} {m : Nat} {f : Nat → Int} (h : tl_S B D E m0 t p m f) (e3 : t' 3 = t 3) (e4 : t' 4 = t 4) (e19 : t' 19 3 = t 19 3) (e20 : t' 20 = t 20) (e21 : t' 21 = t 21) : tl_S B D E m0 t' p m f := by
  obtain ⟨⟨⟨h1, h2⟩, h3, h4⟩, ⟨h5, h6⟩, h7⟩ := h
  refine ⟨⟨⟨by rw [e3]; exact h1, by rw [e3]; exact h2⟩, h3, ?_⟩, ⟨by rw [e19]; exact h5, h6⟩, ?_⟩
  · rw [e3, e4]; exact h4
  · rw [e20, e21]; exact h7
/-- the class's own mark behind an E and a C -/
theorem tl_S.stop {B : Int → Int} {D E m0 : Nat} {t : hy_T} {p : Int} {m : Nat} {f : Nat → Int} (h : tl_S B D E m0 t p m f) (hD : D + 1 ≤ E) : tl_S B (D + 1) E m (lp_emit t 46 0) p m f ∧ lp_emit t 46 0 20 (m + D) = 46 ∧ (∀ j : Nat, j < m + D → lp_emit t 46 0 20 j = t 20 j ∧ lp_emit t 46 0 21 j = t 21 j) ∧ ((∀ r j, r ≠ 20 → r ≠ 21 → ¬ (r = 19 ∧ j = 3) → lp_emit t 46 0 r j = t r j) ∧ lp_emit t 46 0 19 3 = m + D + 1) := by
  have h1 := h.p1
  have hl := h.le
  have h2 := h.cn
  have e : lp_emit t 46 0 = hy_up (hy_up (hy_up t 20 (m + D) 46) 21 (m + D) 0) 19 3 (t 19 3 + 1) := by
    unfold lp_emit
    rw [if_pos (by omega), show (t 19 3).toNat = m + D by omega]
  have e20 : ∀ i, lp_emit t 46 0 20 i = if i = m + D then 46 else t 20 i := fun i => by
    rw [e, hy_up_ne (by decide), hy_up_ne (by decide)]
    simp only [hy_up, true_and]
  have e21 : ∀ i, lp_emit t 46 0 21 i = if i = m + D then 0 else t 21 i := fun i => by
    rw [e, hy_up_ne (by decide)]
    simp only [hy_up, true_and]
    split
    · rfl
    · rw [if_neg (by omega)]
  have er : ∀ r j, r ≠ 20 → r ≠ 21 → ¬ (r = 19 ∧ j = 3) → lp_emit t 46 0 r j = t r j := fun r j q1 q2 q3 => by
    rw [e]
    simp only [hy_up]
    rw [if_neg q3, if_neg (fun c => q2 c.1), if_neg (fun c => q1 c.1)]
  have e3 : ∀ j, lp_emit t 46 0 3 j = t 3 j := fun j => er 3 j (by decide) (by decide) (by omega)
  have e4 : ∀ j, lp_emit t 46 0 4 j = t 4 j := fun j => er 4 j (by decide) (by decide) (by omega)
  have e19 : lp_emit t 46 0 19 3 = m + D + 1 := by
    rw [e]
    show t 19 3 + 1 = _
    rw [h2]
  refine ⟨⟨⟨⟨by rw [e3]; exact h.ok, by rw [e3]; exact h.at_⟩, ⟨h.p0, h.p1⟩, fun q hq => by rw [e3, e4]; exact h.by_ q hq⟩, ⟨by rw [e19]; push_cast; omega, ⟨hl, hD⟩, Nat.le_refl _⟩, fun j h3 h4 => by omega⟩, by rw [e20, if_pos rfl], fun j hj => ?_, er, e19⟩
  rw [e20, e21, if_neg (by omega), if_neg (by omega)]
  exact ⟨rfl, rfl⟩
/-- what an amount and a condition are on both sides -/
def tl_am (ops args f : Nat → Int) (a b s : Int) : Prop := ∃ a' b' D : Nat, (a = a' ∧ b = b' ∧ a' ≤ b') ∧ (s = a' + D ∧ b' + D < 241) ∧ ((∀ j : Nat, a' ≤ j → j < b' → tl_cm (ops (j + D)) (args (j + D)) (f j)) ∧ ops (b' + D) = 46) ∧ tl_H 1 16 a' f b'
def tl_co (ops args f : Nat → Int) (a b s : Int) : Prop := ∃ a' b' D : Nat, (a = a' ∧ b = b' ∧ a' ≤ b') ∧ (s = a' + D ∧ b' + D < 241) ∧ ((∀ j : Nat, a' ≤ j → j < b' → tl_cc D [] j (ops (j + D)) (args (j + D)) (f j)) ∧ ops (b' + D) = 46) ∧ (az_bw f a' b' [] ∧ az_bo f a' b') ∧ tl_H 1 16 a' f b'
theorem tl_am_eq {ops args f ops' args' f' : Nat → Int} {a b s : Int} {n m : Nat} (h : tl_am ops args f a b s) (hn : s + (b - a) < n) (hm : b ≤ m) (e1 : ∀ j, j < n → ops' j = ops j ∧ args' j = args j) (e2 : ∀ j, j < m → f' j = f j) : tl_am ops' args' f' a b s := by
  obtain ⟨a', b', D, ⟨h1, h2, h3⟩, ⟨h4, h5⟩, ⟨h6, h7⟩, h8⟩ := h
  refine ⟨a', b', D, ⟨h1, h2, h3⟩, ⟨h4, h5⟩, ⟨fun j q1 q2 => ?_, ?_⟩, h8.cong (fun j hj => by rw [e2 j (by omega)])⟩
  · rw [(e1 (j + D) (by omega)).1, (e1 (j + D) (by omega)).2, e2 j (by omega)]
    exact h6 j q1 q2
  · rw [(e1 (b' + D) (by omega)).1]
    exact h7
theorem az_bo_cong {f g : Nat → Int} {a k m : Nat} (hk : k ≤ m) (e : ∀ j, j < m → g j = f j) (h : az_bo f a k) : az_bo g a k := az_bo_eq h (fun i hi => by rw [e i (by omega)])
theorem az_bw_cong {f g : Nat → Int} {a m : Nat} {w : List Int} (e : ∀ j, j < m → g j = f j) (h : az_bw f a m w) : az_bw g a m w := fun j h1 h2 => by
  rw [e j h2]
  obtain ⟨⟨x1, x2⟩, x3⟩ := h j h1 h2
  exact ⟨⟨x1, fun q => az_bo_cong (by omega) e (x2 q)⟩, fun q => (x3 q).elim .inl (fun c => .inr ⟨c.1, az_bo_cong c.1.2 e c.2⟩)⟩
theorem tl_co_eq {ops args f ops' args' f' : Nat → Int} {a b s : Int} {n m : Nat} (h : tl_co ops args f a b s) (hn : s + (b - a) < n) (hm : b ≤ m) (e1 : ∀ j, j < n → ops' j = ops j ∧ args' j = args j) (e2 : ∀ j, j < m → f' j = f j) : tl_co ops' args' f' a b s := by
  obtain ⟨a', b', D, ⟨h1, h2, h3⟩, ⟨h4, h5⟩, ⟨h6, h7⟩, ⟨h8, h9⟩, h10⟩ := h
  refine ⟨a', b', D, ⟨h1, h2, h3⟩, ⟨h4, h5⟩, ⟨fun j q1 q2 => ?_, ?_⟩, ⟨az_bw_cong (fun j hj => e2 j (by omega)) h8, az_bo_cong (m := m) (by omega) e2 h9⟩, h10.cong (fun j hj => by rw [e2 j (by omega)])⟩
  · rw [(e1 (j + D) (by omega)).1, (e1 (j + D) (by omega)).2, e2 j (by omega)]
    exact h6 j q1 q2
  · rw [(e1 (b' + D) (by omega)).1]
    exact h7
theorem dd_take' {t : hy_T} (h : t 3 4 ≠ 0) {s : Int} (hs : 0 ≤ s) : tp_take t s 3 4 = t 3 4 := by rw [dd_take h hs]
theorem dd_body {t : hy_T} (h : t 3 4 ≠ 0) : rk_body t 3 4 = t 3 4 := by
  have e0 : hy_up t 24 (t 19 7).toNat (t 19 3) 3 4 = t 3 4 := rfl
  have e1 : tp_take (hy_up t 24 (t 19 7).toNat (t 19 3)) 40 3 4 = t 3 4 := by rw [dd_take' (by rw [e0]; exact h) (by decide)]; exact e0
  have e2 := dd_either 5 _ (show tp_take (hy_up t 24 (t 19 7).toNat (t 19 3)) 40 3 4 ≠ 0 by rw [e1]; exact h)
  unfold rk_body
  rw [dd_emit, dd_take' (by rw [e2, e1]; exact h) (by decide), e2, e1]
theorem dd_cond {t : hy_T} (h : t 3 4 ≠ 0) : rk_cond t 3 4 = t 3 4 := by
  have e : rk_cond t 3 4 = rk_body t 3 4 := rfl
  rw [e, dd_body h]
theorem tl_bodyF {t : hy_T} (h : lp_ok t) : hy_F lpX (hy_up t 24 (t 19 7).toNat (t 19 3)) (rk_body t) := by
  obtain ⟨a1, a2⟩ := lp_take_s (rk_pre_s h) (s := 40) (by decide)
  obtain ⟨b1, b2⟩ := rp_either_s 5 _ a1
  obtain ⟨c1, c2⟩ := lp_take_s b1 (s := 41) (by decide)
  obtain ⟨d1, d2⟩ := lp_emit_s c1 46 0
  exact ((a2.tr' b2).tr' c2).tr' d2
/-- behind the C of a clause -/
theorem tl_cond {B : Int → Int} (hB : az_by B) {D E m0 : Nat} {t : hy_T} {p : Int} {m : Nat} {f : Nat → Int} {k : Nat} (h : tl_S B D E m0 t p m f) (hlp : lp_ok t) (hk : t 19 7 = k) :
    (rk_cond t 3 4 ≠ 0 ∧ az_rc B p m f = .inl (rk_cond t 3 4)) ∨ ∃ (p' : Int) (m' : Nat) (f' : Nat → Int) (w' : List Int) (o' : Int), az_rc B p m f = .inr (p', m', f', w', o') ∧ tl_S B (D + 1) (E + 1) m' (rk_cond t) p' m' f' ∧ ((p < p' ∧ m ≤ m') ∧ rk_cond t 19 7 = k + 1) ∧ ((∀ j, j < m → f' j = f j) ∧ ∀ j : Nat, j < m + D → rk_cond t 20 j = t 20 j ∧ rk_cond t 21 j = t 21 j) ∧ (rk_cond t 22 = t 22 ∧ rk_cond t 23 = t 23 ∧ rk_cond t 24 = su (t 24) k (m + D)) ∧ tl_co (rk_cond t 20) (rk_cond t 21) f' m m' (m + D) := by
  have hcn := h.cn
  have hp1 := h.p1
  have hde := h.de
  have F := tl_bodyF hlp
  have S0 : tl_S B D E m (hy_up t 24 (t 19 7).toNat (t 19 3)) p m f := (h.emp).of rfl rfl rfl rfl rfl
  have e0 := S0.next
  have x7 : rk_body t 19 7 = k := (F 19 7 rfl).trans hk
  have y7 : rk_cond t 19 7 = k + 1 := by
    show rk_body t 19 7 + 1 = _
    rw [x7]
  have y22 : rk_cond t 22 = t 22 := funext fun j => F 22 j rfl
  have y23 : rk_cond t 23 = t 23 := funext fun j => F 23 j rfl
  have y24 : rk_cond t 24 = su (t 24) k (m + D) := funext fun j => by
    have q : rk_cond t 24 j = hy_up t 24 (t 19 7).toNat (t 19 3) 24 j := F 24 j rfl
    rw [q, hk, hcn]
    simp only [hy_up, su, true_and, Int.toNat_natCast]
  by_cases h40 : B p = 40
  · have et : tp_take (hy_up t 24 (t 19 7).toNat (t 19 3)) 40 = tp_step (hy_up t 24 (t 19 7).toNat (t 19 3)) := by
      unfold tp_take
      rw [e0, if_pos h40]
      rfl
    have S1 := S0.step hB (by omega)
    have V1 : tl_V B D (E + 1) m (tp_step (hy_up t 24 (t 19 7).toNat (t 19 3))) (p + 1) m f [13631488] := ⟨⟨S1, Nat.le_refl _, fun j h1 h2 => by omega⟩, fun j h1 h2 => by omega⟩
    have eR : az_rc B p m f = az_cond B 600 true (p + 1, m, f, [13631488], 1) := if_pos h40
    have hp0 := S1.p0
    have hbody : rk_body t = lp_emit (tp_take (rp_either 5 (tp_step (hy_up t 24 (t 19 7).toNat (t 19 3)))) 41) 46 0 := by
      unfold rk_body
      rw [et]
    rcases (tl_eitherK hB (tl_lev hB (D := D) 5 (by decide))).2 _ _ _ _ _ 1 _ _ 600 V1 (by decide) ⟨_, _, rfl, by decide, by decide⟩ (by omega) with ⟨d1, d2⟩ | ⟨n', p2, m2, f2, q, u1, ⟨u2, ⟨-, u3⟩, u4⟩, ⟨u5, ub⟩, ⟨u6, u7⟩, u8, uh⟩
    · refine .inl ?_
      have e3 : rk_cond t 3 4 = rp_either 5 (tp_step (hy_up t 24 (t 19 7).toNat (t 19 3))) 3 4 := by
        show rk_body t 3 4 = _
        rw [hbody, dd_emit, dd_take' d1 (by decide)]
      rw [e3, eR]
      exact ⟨d1, d2⟩
    · have e2 := u5.1.1.next
      have hp2 := u5.1.1.p1
      have hle := u5.1.1.le
      have g1 := u8.1
      obtain ⟨n'', rfl⟩ : ∃ x, n' = x + 1 := ⟨n' - 1, by omega⟩
      have el : az_land true (q ++ [13631488]) m2 f2 = ([13631488], az_lan q m2 f2) := az_land_lan (fun x hx => by
        have hx' : (13631488 : Int) = x := by simpa using hx
        unfold az_lp
        omega) q m2 f2 (fun x hx => (u2 x hx).elim .inl (fun c => .inr c.2))
      by_cases h41 : B p2 = 41
      · have et2 : tp_take (rp_either 5 (tp_step (hy_up t 24 (t 19 7).toNat (t 19 3)))) 41 = tp_step (rp_either 5 (tp_step (hy_up t 24 (t 19 7).toNat (t 19 3)))) := by
          unfold tp_take
          rw [e2, if_pos h41]
          rfl
        rw [et2] at hbody
        have es : az_shut (p2, m2, f2, q ++ [13631488], 1) = (p2 + 1, m2, az_lan q m2 f2, [], 0) := by
          unfold az_shut
          dsimp only
          rw [el]
          rfl
        have S2 := u5.1.1.step hB (show 0 ≤ B p2 by omega)
        obtain ⟨s1, s2, s3, -, -⟩ := S2.stop (by omega)
        rw [← hbody] at s1 s2 s3
        obtain ⟨⟨v1, v2, v3⟩, v4⟩ := u5.out (.inr rfl)
        have hle2 := S2.le
        refine .inr ⟨p2 + 1, m2, az_lan q m2 f2, [], 0, ?_, (s1.re (E + 1) (by omega) (by omega)).of rfl rfl rfl rfl rfl, ⟨⟨by omega, g1⟩, y7⟩, ⟨fun j hj => u8.2.1 j hj, fun j hj => ?_⟩, ⟨y22, y23, y24⟩, ?_⟩
        · rw [eR, u1]
          simp only [az_cond]
          rw [if_pos h41, es, if_pos rfl]
        · have z1 := s3 j (by omega)
          have z2 := u8.2.2 j hj
          exact ⟨z1.1.trans z2.1, z1.2.trans z2.2⟩
        · refine ⟨m, m2, D, ⟨rfl, rfl, g1⟩, ⟨rfl, by omega⟩, ⟨fun j q1 q2 => ?_, s2⟩, ⟨v4, ub⟩, uh⟩
          have z1 := s3 (j + D) (by omega)
          have z3 := v3 j q1 q2
          show tl_cc D [] j (rk_body t 20 (j + D)) (rk_body t 21 (j + D)) (az_lan q m2 f2 j)
          rw [z1.1, z1.2]
          exact z3
      · have et2 : tp_take (rp_either 5 (tp_step (hy_up t 24 (t 19 7).toNat (t 19 3)))) 41 = tp_fail (rp_either 5 (tp_step (hy_up t 24 (t 19 7).toNat (t 19 3)))) 1 (rp_either 5 (tp_step (hy_up t 24 (t 19 7).toNat (t 19 3))) 3 3) := by
          unfold tp_take
          rw [e2, if_neg h41]
        have := u5.1.1.fail (n := 1) (by decide)
        have e3 : rk_cond t 3 4 = -1000 * 1 - p2 := by
          show rk_body t 3 4 = _
          rw [hbody, dd_emit, et2, this.1]
        refine .inl ⟨by rw [e3]; omega, ?_⟩
        rw [e3, eR, u1]
        simp only [az_cond]
        rw [if_neg h41, if_neg (fun c => c.elim u3 u4)]
        congr 1
  · have et : tp_take (hy_up t 24 (t 19 7).toNat (t 19 3)) 40 = tp_fail (hy_up t 24 (t 19 7).toNat (t 19 3)) 1 (hy_up t 24 (t 19 7).toNat (t 19 3) 3 3) := by
      unfold tp_take
      rw [e0, if_neg h40]
    have hf := S0.fail (n := 1) (by decide)
    have hp0 := S0.p0
    have e3 : rk_cond t 3 4 = -1000 * 1 - p := by
      show rk_body t 3 4 = _
      unfold rk_body
      rw [et, dd_emit]
      have z : rp_either 5 (tp_fail (hy_up t 24 (t 19 7).toNat (t 19 3)) 1 (hy_up t 24 (t 19 7).toNat (t 19 3) 3 3)) 3 4 = -1000 * 1 - p := (dd_either 5 _ hf.2).trans hf.1
      rw [dd_take' (by rw [z]; omega) (by decide), z]
    refine .inl ⟨by rw [e3]; omega, ?_⟩
    rw [e3]
    unfold az_rc
    rw [if_neg h40]
    congr 1
/-- a clause -/
def tl_C (B : Int → Int) (D : Nat) (t t' : hy_T) (p : Int) (m : Nat) (f : Nat → Int) (k : Nat) (q : Int × Nat × (Nat → Int) × Nat) : Prop :=
  (∃ D' E' : Nat, D ≤ D' ∧ tl_S B D' E' q.2.1 t' q.1 q.2.1 q.2.2.1) ∧ ((p < q.1 ∧ m ≤ q.2.2.2 ∧ q.2.2.2 ≤ q.2.1) ∧ t' 19 7 = k + 1) ∧ ((∀ j, j < m → q.2.2.1 j = f j) ∧ ∀ j : Nat, j < m + D → t' 20 j = t 20 j ∧ t' 21 j = t 21 j) ∧
  (t' 22 = su (t 22) k (B p) ∧ t' 23 = su (t 23) k (m + D) ∧ ∃ c : Int, t' 24 = su (t 24) k c ∧ tl_co (t' 20) (t' 21) q.2.2.1 q.2.2.2 q.2.1 c ∧ c + (q.2.1 - q.2.2.2) < t' 19 3) ∧ (az_amt (B p) → tl_am (t' 20) (t' 21) q.2.2.1 m q.2.2.2 (m + D) ∧ (m + D : Int) + (q.2.2.2 - m) < t' 19 3)
theorem tl_clause {B : Int → Int} (hB : az_by B) {D E m0 : Nat} {t : hy_T} {p : Int} {m : Nat} {f : Nat → Int} {k : Nat} (h : tl_S B D E m0 t p m f) (hlp : lp_ok t) (hk : t 19 7 = k) (hk16 : k ≤ 16) :
    (rk_clause t 3 4 ≠ 0 ∧ az_cl B k p m f = .inl (rk_clause t 3 4)) ∨ ∃ q, az_cl B k p m f = .inr q ∧ tl_C B D t (rk_clause t) p m f k q := by
  have e := h.next
  have hp1 := h.p1
  have hp0 := h.p0
  have hcn := h.cn
  have hde := h.de
  have hle := h.le
  unfold rk_clause az_cl
  rw [e, hk]
  by_cases hc : rk_kind (B p)
  · have hc2 : az_isc (B p) := by
      unfold az_isc
      unfold rk_kind at hc
      omega
    rw [if_pos hc, if_neg (show ¬ ¬ az_isc (B p) from fun c => c hc2)]
    by_cases h16 : (16 : Int) ≤ (k : Int)
    · rw [if_pos h16, if_pos (show (k : Int) = 16 by omega)]
      have := h.fail (n := 4) (by decide)
      refine .inl ⟨this.2, ?_⟩
      rw [this.1]
      congr 1
    · rw [if_neg h16, if_neg (show ¬ (k : Int) = 16 by omega)]
      have hb : 0 ≤ B p := by
        unfold rk_kind at hc
        omega
      have S1 : tl_S B D (E + 1) m (rk_head (B p) (tp_step t)) (p + 1) m f := ((h.step hB hb).emp).of rfl rfl rfl rfl rfl
      have L1 : lp_ok (rk_head (B p) (tp_step t)) := (rk_head_s (rx_step_ok hlp (by rw [e]; exact hb)) (B p)).1
      obtain ⟨L2, F2⟩ := rk_amt_s L1 (B p)
      have e22 : rk_head (B p) (tp_step t) 22 = su (t 22) k (B p) := funext fun j => by
        show hy_up (hy_up (tp_step t) 22 (tp_step t 19 7).toNat (B p)) 23 _ _ 22 j = _
        rw [hy_up_ne (by decide), show tp_step t 19 7 = k from hk]
        simp only [hy_up, su, true_and, Int.toNat_natCast]
        rfl
      have e23 : rk_head (B p) (tp_step t) 23 = su (t 23) k (m + D) := funext fun j => by
        show hy_up (hy_up (tp_step t) 22 (tp_step t 19 7).toNat (B p)) 23 (tp_step t 19 7).toNat (tp_step t 19 3) 23 j = _
        rw [show tp_step t 19 7 = k from hk, show tp_step t 19 3 = m + D from hcn]
        simp only [hy_up, su, true_and, Int.toNat_natCast]
        rfl
      have hk2 : rk_amt (B p) (rk_head (B p) (tp_step t)) 19 7 = k := (F2 19 7 rfl).trans hk
      -- the amount
      have A : (rk_amt (B p) (rk_head (B p) (tp_step t)) 3 4 ≠ 0 ∧ az_ce B p m f = .inl (rk_amt (B p) (rk_head (B p) (tp_step t)) 3 4)) ∨ ∃ (D2 : Nat) (p1 : Int) (m1 : Nat) (f1 : Nat → Int) (w1 : List Int) (o1 : Int), az_ce B p m f = .inr (p1, m1, f1, w1, o1) ∧ tl_S B D2 (E + 1) m1 (rk_amt (B p) (rk_head (B p) (tp_step t))) p1 m1 f1 ∧ (p < p1 ∧ m ≤ m1 ∧ D ≤ D2) ∧ ((∀ j, j < m → f1 j = f j) ∧ ∀ j : Nat, j < m + D → rk_amt (B p) (rk_head (B p) (tp_step t)) 20 j = t 20 j ∧ rk_amt (B p) (rk_head (B p) (tp_step t)) 21 j = t 21 j) ∧ (az_amt (B p) → tl_am (rk_amt (B p) (rk_head (B p) (tp_step t)) 20) (rk_amt (B p) (rk_head (B p) (tp_step t)) 21) f1 m m1 (m + D) ∧ D + 1 = D2) := by
        unfold rk_amt az_ce
        by_cases ha : B p = 118 ∨ B p = 98
        · have ha2 : az_amt (B p) := by
            unfold az_amt
            omega
          rw [if_pos ha, if_pos ha2]
          rcases tl_rs hB (k := 6) (by decide) S1 (w := []) (o := 0) (by decide) (fun x hx => by cases hx) with ⟨d1, d2⟩ | ⟨p1, m1, f1, u1, u2, u3, u4, uh⟩
          · refine .inl ?_
            rw [dd_emit]
            exact ⟨d1, d2⟩
          · have u2e := u2.emp
            have hl2 := u2.le
            have hq1 := u2.p1
            obtain ⟨s1, s2, s3, -, -⟩ := u2e.stop (by omega)
            obtain ⟨g1, g2, g3⟩ := u4
            refine .inr ⟨D + 1, p1, m1, f1, [], 0, u1, s1, ⟨by omega, g1, by omega⟩, ⟨g2, fun j hj => ?_⟩, fun _ => ⟨⟨m, m1, D, ⟨rfl, rfl, g1⟩, ⟨rfl, by omega⟩, ⟨fun j q1 q2 => ?_, s2⟩, uh.w (by decide)⟩, rfl⟩⟩
            · have z1 := s3 j (by omega)
              have z2 := g3 j hj
              exact ⟨z1.1.trans z2.1, z1.2.trans z2.2⟩
            · have z1 := s3 (j + D) (by omega)
              rw [z1.1, z1.2]
              exact u2.cs j q1 q2
        · have ha2 : ¬ az_amt (B p) := by
            unfold az_amt
            unfold rk_kind at hc
            omega
          rw [if_neg ha, if_neg ha2]
          exact .inr ⟨D, p + 1, m, f, [], 0, rfl, S1, ⟨by omega, Nat.le_refl _, Nat.le_refl _⟩, ⟨fun _ _ => rfl, fun j _ => ⟨rfl, rfl⟩⟩, fun q => absurd q ha2⟩
      rcases A with ⟨d1, d2⟩ | ⟨D2, p1, m1, f1, w1, o1, a1, a2, ⟨a3, a4, a5⟩, ⟨a6, a7⟩, a8⟩
      · refine .inl ?_
        rw [dd_cond d1, d2]
        exact ⟨d1, rfl⟩
      · rw [a1]
        dsimp only
        rcases tl_cond hB a2 L2 hk2 with ⟨d1, d2⟩ | ⟨p', m', f', w', o', c1, c2, ⟨⟨c3, c4⟩, c5⟩, ⟨c6, c7⟩, ⟨c8, c9, c10⟩, c11⟩
        · rw [d2]
          exact .inl ⟨d1, rfl⟩
        · rw [c1]
          have hcn2 := c2.cn
          refine .inr ⟨_, rfl, ⟨D2 + 1, E + 1 + 1, by omega, c2⟩, ⟨⟨by dsimp only; omega, a4, c4⟩, c5⟩, ⟨fun j hj => (c6 j (by omega)).trans (a6 j hj), fun j hj => ?_⟩, ⟨?_, ?_, (m1 : Int) + D2, ?_, c11, ?_⟩, fun ha => ?_⟩
          · have z1 := c7 j (by omega)
            have z2 := a7 j hj
            exact ⟨z1.1.trans z2.1, z1.2.trans z2.2⟩
          · rw [c8, ← e22]
            exact funext fun j => F2 22 j rfl
          · rw [c9, ← e23]
            exact funext fun j => F2 23 j rfl
          · rw [c10]
            congr 1
            exact funext fun j => (F2 24 j rfl)
          · rw [hcn2]
            dsimp only
            push_cast
            omega
          · obtain ⟨b1, b2⟩ := a8 ha
            refine ⟨tl_am_eq (n := m1 + D2) (m := m1) b1 (by dsimp only; push_cast; omega) (by dsimp only; omega) (fun j hj => c7 j hj) (fun j hj => c6 j hj), ?_⟩
            rw [hcn2]
            dsimp only
            push_cast
            omega
  · have hc2 : ¬ az_isc (B p) := by
      unfold az_isc
      unfold rk_kind at hc
      omega
    rw [if_neg hc, if_pos hc2]
    have := h.fail (n := 1) (by decide)
    refine .inl ⟨this.2, ?_⟩
    rw [this.1]
    congr 1
/-! the whole law as it is read -/
def tl_cl (ops args kinds amts conds : Nat → Int) (steps : Int) (f : Nat → Int) (m : Int) (R8 R9 R0 R1 : Nat → Int) (i : Nat) : Prop :=
  (kinds i = R8 i ∧ R0 i ≤ R1 i ∧ R1 i ≤ m) ∧ (tl_co ops args f (R0 i) (R1 i) (conds i) ∧ conds i + (R1 i - R0 i) < steps) ∧ (az_amt (R8 i) → (tl_am ops args f (R9 i) (R0 i) (amts i) ∧ amts i + (R0 i - R9 i) < steps) ∧ R9 i ≤ R0 i)
theorem tl_cl_eq {ops args kinds amts conds f ops' args' kinds' amts' conds' f' R8 R9 R0 R1 R8' R9' R0' R1' : Nat → Int} {steps steps' m' : Int} {n m i : Nat} (h : tl_cl ops args kinds amts conds steps f m R8 R9 R0 R1 i) (hs : steps = n) (hs' : steps ≤ steps') (hm' : (m : Int) ≤ m') (e1 : ∀ j, j < n → ops' j = ops j ∧ args' j = args j) (e2 : ∀ j, j < m → f' j = f j) (e3 : kinds' i = kinds i ∧ amts' i = amts i ∧ conds' i = conds i) (e4 : (R8' i = R8 i ∧ R9' i = R9 i) ∧ R0' i = R0 i ∧ R1' i = R1 i) : tl_cl ops' args' kinds' amts' conds' steps' f' m' R8' R9' R0' R1' i := by
  obtain ⟨⟨h1, h2, h3⟩, ⟨h4, h5⟩, h6⟩ := h
  obtain ⟨k1, k2, k3⟩ := e3
  obtain ⟨⟨r1, r2⟩, r3, r4⟩ := e4
  unfold tl_cl
  rw [k1, k2, k3, r1, r2, r3, r4]
  refine ⟨⟨h1, h2, by omega⟩, ⟨tl_co_eq (n := n) (m := m) h4 (by omega) (by omega) e1 e2, by omega⟩, fun ha => ?_⟩
  obtain ⟨⟨q1, q2⟩, q3⟩ := h6 ha
  exact ⟨⟨tl_am_eq (n := n) (m := m) q1 (by omega) (by omega) e1 e2, by omega⟩, q3⟩
def tl_LS (B : Int → Int) (t : hy_T) (s : Ls) : Prop := (∃ D E : Nat, tl_S B D E s.2.1 t s.1 s.2.1 s.2.2.1) ∧ (t 19 7 = s.2.2.2.1 ∧ s.2.2.2.1 ≤ 16) ∧ ∀ i, i < s.2.2.2.1 → tl_cl (t 20) (t 21) (t 22) (t 23) (t 24) (t 19 3) s.2.2.1 s.2.1 (s.2.2.2.2 68) (s.2.2.2.2 69) (s.2.2.2.2 70) (s.2.2.2.2 71) i
theorem tl_LS.clause {B : Int → Int} (hB : az_by B) {t : hy_T} {s : Ls} (h : tl_LS B t s) (hlp : lp_ok t) : (rk_clause t 3 4 ≠ 0 ∧ az_cl B s.2.2.2.1 s.1 s.2.1 s.2.2.1 = .inl (rk_clause t 3 4)) ∨ ∃ q, az_cl B s.2.2.2.1 s.1 s.2.1 s.2.2.1 = .inr q ∧ tl_LS B (rk_clause t) (al_nx B s s.1 q) ∧ s.1 < q.1 := by
  obtain ⟨⟨D, E, h1⟩, ⟨h2, h3⟩, h4⟩ := h
  rcases tl_clause hB h1 hlp h2 h3 with d | ⟨q, c1, ⟨D', E', c2, c3⟩, ⟨⟨c4, c5, c6⟩, c7⟩, ⟨c8, c9⟩, ⟨c10, c11, c, c12, c13, c14⟩, c15⟩
  · exact .inl d
  · have L := (rk_clause_s hlp).1.2.2
    have hcn := h1.cn
    have hcn' := c3.cn
    refine .inr ⟨q, c1, ⟨⟨D', E', c3⟩, ⟨c7, ?_⟩, fun i hi => ?_⟩, c4⟩
    · show s.2.2.2.1 + 1 ≤ 16
      omega
    · have hi2 : i < s.2.2.2.1 + 1 := hi
      have e68 : (al_nx B s s.1 q).2.2.2.2 68 = su (s.2.2.2.2 68) s.2.2.2.1 (B s.1) := rfl
      have e69 : (al_nx B s s.1 q).2.2.2.2 69 = su (s.2.2.2.2 69) s.2.2.2.1 s.2.1 := rfl
      have e70 : (al_nx B s s.1 q).2.2.2.2 70 = su (s.2.2.2.2 70) s.2.2.2.1 q.2.2.2 := rfl
      have e71 : (al_nx B s s.1 q).2.2.2.2 71 = su (s.2.2.2.2 71) s.2.2.2.1 q.2.1 := rfl
      rw [e68, e69, e70, e71]
      by_cases hk : i = s.2.2.2.1
      · have s0 : ∀ (g : Nat → Int) (v : Int), su g s.2.2.2.1 v i = v := fun g v => by unfold su; rw [if_pos hk]
        unfold tl_cl
        rw [s0, s0, s0, s0, c10, c11, c12, s0, s0, s0]
        refine ⟨⟨rfl, by omega, Int.le_refl _⟩, ⟨c13, c14⟩, fun ha => ⟨c15 ha, by omega⟩⟩
      · have s0 : ∀ (g : Nat → Int) (v : Int), su g s.2.2.2.1 v i = g i := fun g v => by unfold su; rw [if_neg hk]
        refine tl_cl_eq (n := s.2.1 + D) (m := s.2.1) (h4 i (by omega)) (by rw [hcn]; push_cast; rfl) (by rw [hcn, hcn']; omega) (by show ((s.2.1 : Nat) : Int) ≤ (q.2.1 : Nat); omega) c9 c8 ⟨by rw [c10, s0], by rw [c11, s0], by rw [c12, s0]⟩ ⟨⟨s0 _ _, s0 _ _⟩, s0 _ _, s0 _ _⟩
theorem tl_LS.step {B : Int → Int} (hB : az_by B) {t : hy_T} {p : Int} {m : Nat} {f : Nat → Int} {k : Nat} {R : Nat → Nat → Int} (h : tl_LS B t (p, m, f, k, R)) (hb : 0 ≤ B p) : tl_LS B (tp_step t) (p + 1, m, f, k, R) := by
  obtain ⟨⟨D, E, h1⟩, h2, h3⟩ := h
  exact ⟨⟨D, E + 1, h1.step hB hb⟩, h2, h3⟩
theorem dd_law : ∀ (N : Nat) {t : hy_T}, t 3 4 ≠ 0 → tp_finish (rk_loop N t) 3 4 = t 3 4
  | 0, t, h => by
    show tp_finish t 3 4 = _
    unfold tp_finish
    split
    · rw [dd_fail h]
    · rfl
  | N + 1, t, h => by
    have e : rk_loop (N + 1) t = t := by
      simp only [rk_loop]
      rw [dd_next h, if_neg (by decide)]
    rw [e]
    unfold tp_finish
    split
    · rw [dd_fail h]
    · rfl
theorem tl_lawN {B : Int → Int} (hB : az_by B) {len : Int} (hlen : ∀ p, 0 ≤ p → (p < len ↔ 0 ≤ B p)) : ∀ (N n : Nat) {t : hy_T} {s : Ls}, tl_LS B t s → lp_ok t → N + s.2.2.2.1 = 17 → 241 ≤ n + s.1 →
    (tp_finish (rk_loop N t) 3 4 ≠ 0 ∧ al_lawN B len n s = .inl (tp_finish (rk_loop N t) 3 4)) ∨ ∃ s', al_lawN B len n s = .inr s' ∧ tl_LS B (tp_finish (rk_loop N t)) s'
  | 0, n, t, s, h, hlp, hN, hn => by
    have := h.2.1.2
    omega
  | N + 1, n, t, s, h, hlp, hN, hn => by
    obtain ⟨p, m, f, k, R⟩ := s
    obtain ⟨D, E, h1⟩ := h.1
    dsimp only at hN hn h1
    have e := h1.next
    have hp0 := h1.p0
    have hp1 := h1.p1
    obtain ⟨n1, rfl⟩ : ∃ x, n = x + 1 := ⟨n - 1, by omega⟩
    simp only [rk_loop, al_lawN]
    rw [e]
    by_cases h59 : B p = 59
    · have hl := (hlen p hp0).mpr (by omega)
      rw [if_pos h59, if_pos hl, if_pos h59]
      have h2 := h.step hB (show 0 ≤ B p by omega)
      have L2 := rx_step_ok hlp (by rw [e]; omega)
      rcases h2.clause hB L2 with ⟨d1, d2⟩ | ⟨q, c1, c2, c3⟩
      · dsimp only at d2
        rw [d2, dd_law N d1]
        exact .inl ⟨d1, rfl⟩
      · dsimp only at c1 c3
        rw [c1]
        dsimp only
        have L3 := (rk_clause_s L2).1
        have hr := tl_lawN hB hlen N n1 c2 L3 (by show N + (k + 1) = 17; omega) (by show 241 ≤ (n1 : Int) + q.1; omega)
        exact hr
    · rw [if_neg h59, if_neg h59]
      have hby := h1.by_ p hp0
      have hbt := (hlp.1.b p.toNat (by omega)).1
      by_cases hl : p < len
      · rw [if_pos hl]
        have hb := (hlen p hp0).mp hl
        have hlt : p < t 3 2 := by
          refine Decidable.byContradiction (fun q => ?_)
          rw [if_neg q] at hby
          omega
        have ef : tp_finish t = tp_fail t 1 (t 3 3) := by
          unfold tp_finish
          rw [if_pos (by rw [h1.at_]; exact hlt)]
        have := h1.fail (n := 1) (by decide)
        rw [ef]
        refine .inl ⟨this.2, ?_⟩
        rw [this.1]
        congr 1
      · rw [if_neg hl]
        have hlt : ¬ p < t 3 2 := fun q => by
          rw [if_pos q] at hby
          exact hl ((hlen p hp0).mpr (by omega))
        have ef : tp_finish t = t := by
          unfold tp_finish
          rw [if_neg (by rw [h1.at_]; exact hlt)]
        rw [ef]
        exact .inr ⟨_, rfl, h⟩
theorem tl_law {B : Int → Int} (hB : az_by B) {t : hy_T} {n : Int} (htp : tp_ok t) (hn : 1 ≤ n ∧ n ≤ 240 ∧ n ≤ t 3 1) (hby : ∀ q : Int, 0 ≤ q → B q = if q < n then t 4 q.toNat else -1) (R : Nat → Nat → Int) :
    (rk_read t n 3 4 ≠ 0 ∧ al_law B n R = .inl (rk_read t n 3 4)) ∨ ∃ s, al_law B n R = .inr s ∧ tl_LS B (rk_read t n) s := by
  have e32 : rk_init t n 3 2 = n := by
    show (if t 3 1 < n then t 3 1 else n) = n
    rw [if_neg (by omega)]
  have S0 : tl_S B 0 0 0 (rk_init t n) 0 0 (fun _ => 0) := by
    refine ⟨⟨⟨rfl, rfl⟩, ⟨by decide, by decide⟩, fun q hq => ?_⟩, ⟨rfl, ⟨by decide, by decide⟩, by decide⟩, fun j h1 h2 => by omega⟩
    rw [e32]
    exact (hby q hq).symm
  have h0 : tl_LS B (rk_init t n) (al_s0 R) := ⟨⟨0, 0, S0⟩, ⟨rfl, Nat.zero_le 16⟩, fun i hi => absurd hi (Nat.not_lt_zero i)⟩
  have L0 := rk_init_s htp n
  have hlen : ∀ p, 0 ≤ p → (p < n ↔ 0 ≤ B p) := fun p hp => by
    have e := hby p hp
    constructor
    · intro hq
      rw [if_pos hq] at e
      rw [e]
      exact (htp.b p.toNat (by omega)).1
    · intro hq
      refine Decidable.byContradiction (fun c => ?_)
      rw [if_neg c] at e
      omega
  have eL : al_law B n R = match az_cl B ((al_s0 R).2.2.2.1 : Int) (al_s0 R).1 (al_s0 R).2.1 (al_s0 R).2.2.1 with | .inl e => .inl e | .inr q => al_lawN B n 300 (al_nx B (al_s0 R) (al_s0 R).1 q) := rfl
  unfold rk_read
  rw [eL]
  rcases h0.clause hB L0 with ⟨d1, d2⟩ | ⟨q, c1, c2, c3⟩
  · rw [d2, dd_law 16 d1]
    exact .inl ⟨d1, rfl⟩
  · rw [c1]
    dsimp only
    have c3' : 0 < q.1 := c3
    exact tl_lawN hB hlen 16 300 c2 (rk_clause_s L0).1 rfl (by show 241 ≤ ((300 : Nat) : Int) + q.1; omega)
/-! what the steps of the class and the codes of the model come to -/
theorem mc_dep {C : Nat → Int} {a b : Nat} {Dm : Nat → Nat} (h : mc_wfD C a b Dm) : ∀ n : Nat, a + n ≤ b → (Dm (a + n) : Int) = az_dep C a (a + n)
  | 0, hn => by
    have e : Dm a = 0 := by
      have := h.2.1
      rw [Int.toNat_natCast] at this
      exact this
    rw [Nat.add_zero, e, az_dep_a C a a (Nat.le_refl _)]
    rfl
  | n + 1, hn => by
    have ih := mc_dep h n (by omega)
    obtain ⟨c0, c1, c2, c3, c4⟩ := h.2.2.2 (a + n) (by omega) (by omega)
    rw [show a + (n + 1) = a + n + 1 by omega, az_dep_s C a (a + n) (by omega), ← ih]
    unfold az_eff
    by_cases z1 : C (a + n) / 1048576 = 0 ∨ C (a + n) / 1048576 = 1
    · rw [if_pos z1]
      have := (c1 z1).1
      omega
    · rw [if_neg z1]
      by_cases z2 : C (a + n) / 1048576 = 10
      · rw [if_pos z2]
        have := (c2 z2).2
        omega
      · rw [if_neg z2]
        by_cases z3 : C (a + n) / 1048576 = 11 ∨ C (a + n) / 1048576 = 12
        · have := (c3 z3).2.1
          omega
        · have := (c4 z1 z2 z3).2
          omega
theorem tl_sgnv {op : Int} (h : az_sgn op ≠ -1) : (op = 43 ∧ az_sgn op = 2) ∨ (op = 45 ∧ az_sgn op = 3) ∨ (op = 42 ∧ az_sgn op = 4) ∨ (op = 47 ∧ az_sgn op = 5) ∨ (op = 37 ∧ az_sgn op = 6) := by
  by_cases h1 : op = 43
  · subst h1; exact .inl ⟨rfl, rfl⟩
  · by_cases h2 : op = 45
    · subst h2; exact .inr (.inl ⟨rfl, rfl⟩)
    · by_cases h3 : op = 42
      · subst h3; exact .inr (.inr (.inl ⟨rfl, rfl⟩))
      · by_cases h4 : op = 47
        · subst h4; exact .inr (.inr (.inr (.inl ⟨rfl, rfl⟩)))
        · by_cases h5 : op = 37
          · subst h5; exact .inr (.inr (.inr (.inr ⟨rfl, rfl⟩)))
          · unfold az_sgn at h
            rw [if_neg h1, if_neg h2, if_neg h3, if_neg h4, if_neg h5] at h
            exact absurd rfl h
theorem tl_reck {op : Int} (h : az_sgn op ≠ -1) (l r : Int) (hr : ¬ (r = 0 ∧ (op = 47 ∨ op = 37))) : rc_reck l op r = mc_reck (az_sgn op) l r := by
  rcases tl_sgnv h with ⟨q1, q2⟩ | ⟨q1, q2⟩ | ⟨q1, q2⟩ | ⟨q1, q2⟩ | ⟨q1, q2⟩
  · rw [q2]
    unfold rc_reck mc_reck
    rw [if_neg (by omega), if_neg (by omega), if_pos q1, if_pos (by decide)]
  · rw [q2]
    unfold rc_reck mc_reck
    rw [if_neg (by omega), if_neg (by omega), if_neg (by omega), if_pos q1, if_neg (by decide), if_pos (by decide)]
  · rw [q2]
    unfold rc_reck mc_reck
    rw [if_neg (by omega), if_pos q1, if_neg (by decide), if_neg (by decide), if_pos (by decide)]
  · rw [q2]
    unfold rc_reck mc_reck
    rw [if_neg (by omega), if_neg (by omega), if_neg (by omega), if_neg (by omega), if_pos q1, if_neg (by omega), if_neg (by decide), if_neg (by decide), if_neg (by decide), if_pos (by decide)]
  · rw [q2]
    unfold rc_reck mc_reck
    rw [if_pos q1, if_neg (by omega), if_neg (by decide), if_neg (by decide), if_neg (by decide), if_neg (by decide), if_pos (by decide)]
theorem tl_howv {op : Int} (h : az_how op ≠ -1) : (op = 60 ∧ az_how op = 7) ∨ (op = 62 ∧ az_how op = 8) ∨ (op = 61 ∧ az_how op = 9) := by
  rcases tl_howc.mpr h with rfl | rfl | rfl
  · exact .inl ⟨rfl, rfl⟩
  · exact .inr (.inl ⟨rfl, rfl⟩)
  · exact .inr (.inr ⟨rfl, rfl⟩)
theorem b01 (p : Prop) [Decidable p] : 0 ≤ (if p then (1 : Int) else 0) ∧ (if p then (1 : Int) else 0) ≤ 1 := by
  split <;> omega
theorem tl_reck2 {op : Int} (h : az_how op ≠ -1) (l r : Int) : rc_reck l op r = mc_reck (az_how op) l r ∧ 0 ≤ rc_reck l op r ∧ rc_reck l op r ≤ 1 := by
  rcases tl_howv h with ⟨q1, q2⟩ | ⟨q1, q2⟩ | ⟨q1, q2⟩
  · have e : rc_reck l op r = if l < r then 1 else 0 := by
      unfold rc_reck
      rw [if_neg (by omega), if_neg (by omega), if_neg (by omega), if_neg (by omega), if_neg (by omega), if_pos q1]
    rw [e, q2]
    refine ⟨?_, b01 _⟩
    unfold mc_reck
    rw [if_neg (show ¬ (7 : Int) = 2 by decide), if_neg (show ¬ (7 : Int) = 3 by decide), if_neg (show ¬ (7 : Int) = 4 by decide), if_neg (show ¬ (7 : Int) = 5 by decide), if_neg (show ¬ (7 : Int) = 6 by decide), if_pos (show (7 : Int) = 7 by decide)]
  · have e : rc_reck l op r = if r < l then 1 else 0 := by
      unfold rc_reck
      rw [if_neg (by omega), if_neg (by omega), if_neg (by omega), if_neg (by omega), if_neg (by omega), if_neg (by omega), if_pos q1]
    rw [e, q2]
    refine ⟨?_, b01 _⟩
    unfold mc_reck
    rw [if_neg (show ¬ (8 : Int) = 2 by decide), if_neg (show ¬ (8 : Int) = 3 by decide), if_neg (show ¬ (8 : Int) = 4 by decide), if_neg (show ¬ (8 : Int) = 5 by decide), if_neg (show ¬ (8 : Int) = 6 by decide), if_neg (show ¬ (8 : Int) = 7 by decide), if_pos (show (8 : Int) = 8 by decide)]
  · have e : rc_reck l op r = if l = r then 1 else 0 := by
      unfold rc_reck
      rw [if_neg (by omega), if_neg (by omega), if_neg (by omega), if_neg (by omega), if_neg (by omega), if_neg (by omega), if_neg (by omega)]
    rw [e, q2]
    refine ⟨?_, b01 _⟩
    unfold mc_reck
    rw [if_neg (show ¬ (9 : Int) = 2 by decide), if_neg (show ¬ (9 : Int) = 3 by decide), if_neg (show ¬ (9 : Int) = 4 by decide), if_neg (show ¬ (9 : Int) = 5 by decide), if_neg (show ¬ (9 : Int) = 6 by decide), if_neg (show ¬ (9 : Int) = 7 by decide), if_neg (show ¬ (9 : Int) = 8 by decide)]
theorem w32_b {x : Int} (h : 0 ≤ x ∧ x ≤ 1) : w32 (1 - x) = 1 - x := by
  have : x = 0 ∨ x = 1 := by omega
  rcases this with rfl | rfl <;> rfl
theorem tl_run {ops args V V' C : Nat → Int} {steps : Int} {a b D : Nat} {Dm : Nat → Nat} (hw : mc_wfD C a b Dm) (hb : (b : Int) + D < steps) (hc : ∀ j : Nat, a ≤ j → j < b → tl_cc D [] j (ops (j + D)) (args (j + D)) (C j)) (he : ops (b + D) = 46) (hbw : az_bw C a b []) (hH : tl_H 1 16 a C b) (hV : ∀ j, j < 10 → V j = V' j) :
    ∀ (n N k z : Nat) (f : Nat → Int), a ≤ k → k ≤ b → b ≤ n + k → b ≤ N + k → Dm k = z → (az_bo C a k → 0 ≤ f (z - 1) ∧ f (z - 1) ≤ 1) → rc_run ops args V steps n ((k : Int) + D) z f = mc_run C V' b N k z f ∧ (az_bo C a b → 0 ≤ rc_run ops args V steps n ((k : Int) + D) z f ∧ rc_run ops args V steps n ((k : Int) + D) z f ≤ 1) := by
  have fin : ∀ (n N z : Nat) (f : Nat → Int), Dm b = z → (az_bo C a b → 0 ≤ f (z - 1) ∧ f (z - 1) ≤ 1) → rc_run ops args V steps n ((b : Int) + D) z f = mc_run C V' b N b z f ∧ (az_bo C a b → 0 ≤ rc_run ops args V steps n ((b : Int) + D) z f ∧ rc_run ops args V steps n ((b : Int) + D) z f ≤ 1) := fun n N z f hz hbo => by
    have hz1 : z = 1 := by
      have := hw.2.2.1
      rw [Int.toNat_natCast] at this
      omega
    have e1 : mc_run C V' b N b z f = f 0 := mc_stop (by omega)
    have e2 : rc_run ops args V steps n ((b : Int) + D) z f = f 0 := by
      have e3 : rc_end z f = f 0 := if_pos (by omega)
      cases n with
      | zero => exact e3
      | succ n => rw [rc_stop (fun q => q.2.2 (by rw [show ((b : Int) + D).toNat = b + D by omega]; exact he)), e3]
    rw [e1, e2]
    refine ⟨rfl, fun q => ?_⟩
    have := hbo q
    rw [hz1] at this
    exact this
  intro n
  induction n with
  | zero =>
    intro N k z f h1 h2 h3 h4 hz hbo
    obtain rfl : k = b := by omega
    exact fin 0 N z f hz hbo
  | succ n ih =>
    intro N k z f h1 h2 h3 h4 hz hbo
    by_cases hk : k = b
    · subst hk
      exact fin (n + 1) N z f hz hbo
    · obtain ⟨N1, rfl⟩ : ∃ x, N = x + 1 := ⟨N - 1, by omega⟩
      have hkb : k < b := by omega
      obtain ⟨c0, c1, c2, c3, c4⟩ := hw.2.2.2 k (by omega) (by omega)
      obtain ⟨⟨w1, w2⟩, w3⟩ := hbw k h1 hkb
      have hz16 : (Dm k : Int) ≤ 16 := by
        have e := mc_dep hw (k - a) (by omega)
        rw [show a + (k - a) = k by omega] at e
        rw [e]
        exact hH.2 k h1 h2
      have ek : ((k : Int) + D).toNat = k + D := by omega
      have ek2 : (k : Int).toNat = k := Int.toNat_natCast k
      have ekk : ((k : Int) + D + 1) = ((k + 1 : Nat) : Int) + D := by push_cast; omega
      have hkI : (k : Int) < b := by omega
      have nbo : ¬ (7 ≤ C k / 1048576 ∧ C k / 1048576 ≤ 10) → ¬ az_bo C a (k + 1) := fun q c => q ⟨c.2.1, c.2.2⟩
      -- one step alike
      have go : ∀ (z' : Nat) (f' : Nat → Int), ops (k + D) ≠ 46 → rc_step (ops (k + D)) (args (k + D)) V ((k : Int) + D + 1) z f = some ((k : Int) + D + 1, z', f') → mc_step (C k / 1048576) (C k % 1048576) V' ((k : Int) + 1) z f = some ((k : Int) + 1, z', f') → Dm (k + 1) = z' → (az_bo C a (k + 1) → 0 ≤ f' (z' - 1) ∧ f' (z' - 1) ≤ 1) → rc_run ops args V steps (n + 1) ((k : Int) + D) z f = mc_run C V' b (N1 + 1) k z f ∧ (az_bo C a b → 0 ≤ rc_run ops args V steps (n + 1) ((k : Int) + D) z f ∧ rc_run ops args V steps (n + 1) ((k : Int) + D) z f ≤ 1) := fun z' f' q1 q2 q3 q4 q5 => by
        have r1 := rc_go (n := n) (steps := steps) (a := (k : Int) + D) ⟨by omega, by omega, by rw [ek]; exact q1⟩ (by rw [ek]; exact q2)
        have r2 := mc_go (m := N1) (b := b) hkI (by rw [ek2]; exact q3)
        rw [r1, r2, ekk]
        have := ih N1 (k + 1) z' f' (by omega) (by omega) (by omega) (by omega) q4 q5
        exact this
      have no : ops (k + D) ≠ 46 → rc_step (ops (k + D)) (args (k + D)) V ((k : Int) + D + 1) z f = none → mc_step (C k / 1048576) (C k % 1048576) V' ((k : Int) + 1) z f = none → rc_run ops args V steps (n + 1) ((k : Int) + D) z f = mc_run C V' b (N1 + 1) k z f ∧ (az_bo C a b → 0 ≤ rc_run ops args V steps (n + 1) ((k : Int) + D) z f ∧ rc_run ops args V steps (n + 1) ((k : Int) + D) z f ≤ 1) := fun q1 q2 q3 => by
        have r1 := rc_no (n := n) (steps := steps) (a := (k : Int) + D) ⟨by omega, by omega, by rw [ek]; exact q1⟩ (by rw [ek]; exact q2)
        have r2 := mc_no (m := N1) (b := b) hkI (by rw [ek2]; exact q3)
        rw [r1, r2]
        exact ⟨rfl, fun _ => by decide⟩
      rcases hc k h1 hkb with ((⟨o1, o2, o3, o4⟩ | ⟨o1, o2, o3, o4⟩ | ⟨o1, o2⟩) | ⟨o1, o2⟩ | ⟨o1, o2⟩) | ⟨o1, ⟨o2, o3, o4⟩ | ⟨-, o2⟩⟩
      · -- a number
        have e1 : C k / 1048576 = 0 := by omega
        have e2 : C k % 1048576 = args (k + D) := by omega
        refine go (z + 1) (su f z (args (k + D))) (by omega) ?_ ?_ (by have := (c1 (.inl e1)).1; omega) (fun c => absurd c (nbo (by omega)))
        · unfold rc_step
          rw [if_pos (.inl o1), if_pos ⟨by omega, .inl o1⟩, if_pos o1]
        · unfold mc_step
          rw [if_pos (.inl e1), if_pos e1, e2]
      · -- a letter
        have e1 : C k / 1048576 = 1 := by omega
        have e2 : C k % 1048576 = args (k + D) := by omega
        refine go (z + 1) (su f z (V (args (k + D)).toNat)) (by omega) ?_ ?_ (by have := (c1 (.inr e1)).1; omega) (fun c => absurd c (nbo (by omega)))
        · unfold rc_step
          rw [if_pos (.inr o1), if_pos ⟨by omega, .inr o4⟩, if_neg (by omega)]
        · unfold mc_step
          rw [if_pos (.inr e1), if_neg (by omega), e2, hV _ (by omega)]
      · -- + - * / %
        have hg := az_sgn_in o1
        have hs := tl_sgnv o1
        have e1 : C k / 1048576 = az_sgn (ops (k + D)) := by omega
        obtain ⟨d1, d2⟩ := c4 (by omega) (by omega) (by omega)
        have hstep : ¬ (ops (k + D) = 48 ∨ ops (k + D) = 97) := by omega
        by_cases hr : f (z - 1) = 0 ∧ (ops (k + D) = 47 ∨ ops (k + D) = 37)
        · refine no (by omega) ?_ ?_
          · unfold rc_step
            rw [if_neg hstep, if_neg (by omega), if_neg (by omega), if_neg (by omega), if_pos (.inr hr)]
          · unfold mc_step
            rw [if_neg (by omega), if_neg (by omega), if_neg (by omega), if_pos ⟨by omega, hr.1⟩]
        · refine go (z - 1) (su f (z - 2) (rc_reck (f (z - 2)) (ops (k + D)) (f (z - 1)))) (by omega) ?_ ?_ (by omega) (fun c => absurd c (nbo (by omega)))
          · unfold rc_step
            rw [if_neg hstep, if_neg (by omega), if_neg (by omega), if_neg (by omega), if_neg (by omega)]
          · unfold mc_step
            rw [if_neg (by omega), if_neg (by omega), if_neg (by omega), if_neg (by omega), tl_reck o1 _ _ hr, e1]
      · -- < > =
        have hg := az_how_in o1
        have hs := tl_howc.mpr o1
        have e1 : C k / 1048576 = az_how (ops (k + D)) := by omega
        obtain ⟨d1, d2⟩ := c4 (by omega) (by omega) (by omega)
        obtain ⟨x1, x2⟩ := tl_reck2 o1 (f (z - 2)) (f (z - 1))
        refine go (z - 1) (su f (z - 2) (rc_reck (f (z - 2)) (ops (k + D)) (f (z - 1)))) (by omega) ?_ ?_ (by omega) (fun _ => ?_)
        · unfold rc_step
          rw [if_neg (by omega), if_neg (by omega), if_neg (by omega), if_neg (by omega), if_neg (by omega)]
        · unfold mc_step
          rw [if_neg (by omega), if_neg (by omega), if_neg (by omega), if_neg (by omega), x1, e1]
        · have e9 : su f (z - 2) (rc_reck (f (z - 2)) (ops (k + D)) (f (z - 1))) (z - 1 - 1) = rc_reck (f (z - 2)) (ops (k + D)) (f (z - 1)) := by
            unfold su
            rw [if_pos (by omega)]
          rw [e9]
          exact x2
      · -- not
        have e1 : C k / 1048576 = 10 := by omega
        obtain ⟨d1, d2⟩ := c2 e1
        have hx := hbo (w2 (by omega))
        refine go z (su f (z - 1) (w32 (1 - f (z - 1)))) (by omega) ?_ ?_ (by omega) (fun _ => ?_)
        · unfold rc_step
          rw [if_neg (by omega), if_neg (by omega), if_pos o1]
        · unfold mc_step
          rw [if_neg (by omega), if_pos e1]
        · have e9 : su f (z - 1) (w32 (1 - f (z - 1))) (z - 1) = 1 - f (z - 1) := by
            unfold su
            rw [if_pos rfl, w32_b hx]
          rw [e9]
          omega
      · -- a leap
        have hj := tl_jop o1
        have e1 : C k / 1048576 = az_jop (ops (k + D)) := by omega
        have e2 : C k % 1048576 = args (k + D) - D := by omega
        obtain ⟨d1, d2, d3, d4, d5⟩ := c3 (by omega)
        have hx := hbo (w2 (by omega))
        by_cases hl : (f (z - 1) ≠ 0 ∧ ops (k + D) = 124) ∨ (f (z - 1) = 0 ∧ ops (k + D) = 38)
        · have q1 : rc_step (ops (k + D)) (args (k + D)) V ((k : Int) + D + 1) z f = some (args (k + D), z, f) := by
            unfold rc_step
            rw [if_neg (by omega), if_neg (by omega), if_neg (by omega), if_pos (by omega), if_pos hl]
          have q2 : mc_step (C k / 1048576) (C k % 1048576) V' ((k : Int) + 1) z f = some (C k % 1048576, z, f) := by
            unfold mc_step
            rw [if_neg (by omega), if_neg (by omega), if_pos (by omega), if_pos (by omega)]
          have n46 : ops (k + D) ≠ 46 := by omega
          have r1 := rc_go (n := n) (steps := steps) (a := (k : Int) + D) ⟨by omega, by omega, by rw [ek]; exact n46⟩ (by rw [ek]; exact q1)
          have r2 := mc_go (m := N1) (b := b) hkI (by rw [ek2]; exact q2)
          have hv : C k % 1048576 = ((C k % 1048576).toNat : Int) := by omega
          have ha : args (k + D) = ((C k % 1048576).toNat : Int) + D := by omega
          rw [r1, r2, ha]
          have := ih N1 (C k % 1048576).toNat z f (by omega) (by omega) (by omega) (by omega) (by omega) (fun _ => hx)
          rw [← hv] at this ⊢
          exact this
        · refine go (z - 1) f (by omega) ?_ ?_ (by omega) (fun c => absurd c (nbo (by omega)))
          · unfold rc_step
            rw [if_neg (by omega), if_neg (by omega), if_neg (by omega), if_pos (by omega), if_neg hl]
          · unfold mc_step
            rw [if_neg (by omega), if_neg (by omega), if_pos (by omega), if_neg (by omega)]
      · cases o2
/-! the law in force, on both sides -/
def fl_law (t : hy_T) : Prop := (t 11 7 = t 59 18 ∧ 0 ≤ t 11 7 ∧ t 11 7 ≤ 16) ∧ ∀ i : Nat, (i : Int) < t 11 7 → tl_cl (t 12) (t 13) (t 14) (t 15) (t 16) (t 11 3) (t 72) 240 (t 73) (t 74) (t 75) (t 76) i
theorem fl_law_F {t t1 : hy_T} (h : fl_law t) (hY : ∀ r j, (lawX r j || mlawX r j) = true → t1 r j = t r j) : fl_law t1 := by
  have row : ∀ r, (∀ j, (lawX r j || mlawX r j) = true) → t1 r = t r := fun r q => funext fun j => hY r j (q j)
  unfold fl_law
  rw [hY 11 7 rfl, hY 59 18 rfl, hY 11 3 rfl, row 12 (fun _ => rfl), row 13 (fun _ => rfl), row 14 (fun _ => rfl), row 15 (fun _ => rfl), row 16 (fun _ => rfl), row 72 (fun _ => rfl), row 73 (fun _ => rfl), row 74 (fun _ => rfl), row 75 (fun _ => rfl), row 76 (fun _ => rfl)]
  exact h
theorem fl_co {t : hy_T} (h : fl_law t) (hk : ml_ok t) {V V' : Nat → Int} (hV : ∀ j, j < 10 → V j = V' j) {i : Nat} (hi : (i : Int) < t 11 7) : lc_val t V (t 16 i) = mc_val (t 72) V' (t 75 i) (t 76 i) ∧ 0 ≤ lc_val t V (t 16 i) ∧ lc_val t V (t 16 i) ≤ 1 := by
  obtain ⟨⟨h1, h2, h3⟩, h4⟩ := h
  obtain ⟨-, ⟨⟨a, b, D, ⟨e1, e2, e3⟩, ⟨e4, e5⟩, ⟨e6, e7⟩, ⟨e8, e9⟩, e10⟩, e11⟩, -⟩ := h4 i hi
  obtain ⟨Dm, hw⟩ := (hk.2 i (by omega) (by omega)).1
  rw [e1, e2] at hw
  unfold lc_val mc_val
  rw [e1, e2, e4]
  have hD0 : Dm a = 0 := by
    have := hw.2.1
    rw [Int.toNat_natCast] at this
    exact this
  obtain ⟨r1, r2⟩ := tl_run (ops := t 12) (args := t 13) (steps := t 11 3) (V := V) (V' := V') hw (by omega) e6 e7 e8 e10 hV 240 260 a 0 (fun _ => 0) (Nat.le_refl _) e3 (by omega) (by omega) hD0 (fun c => absurd c.1 (Nat.lt_irrefl a))
  exact ⟨r1, r2 e9⟩
theorem fl_am {t : hy_T} (h : fl_law t) (hk : ml_ok t) {V V' : Nat → Int} (hV : ∀ j, j < 10 → V j = V' j) {i : Nat} (hi : (i : Int) < t 11 7) (ha : t 14 i = 98 ∨ t 14 i = 118) : lc_val t V (t 15 i) = mc_val (t 72) V' (t 74 i) (t 75 i) := by
  obtain ⟨⟨h1, h2, h3⟩, h4⟩ := h
  obtain ⟨⟨k1, -⟩, -, h5⟩ := h4 i hi
  obtain ⟨⟨⟨a, b, D, ⟨e1, e2, e3⟩, ⟨e4, e5⟩, ⟨e6, e7⟩, e10⟩, e11⟩, -⟩ := h5 (by unfold az_amt; omega)
  obtain ⟨Dm, hw⟩ := (hk.2 i (by omega) (by omega)).2 (by omega)
  rw [e1, e2] at hw
  unfold lc_val mc_val
  rw [e1, e2, e4]
  have hD0 : Dm a = 0 := by
    have := hw.2.1
    rw [Int.toNat_natCast] at this
    exact this
  have hbw : az_bw (t 72) a b [] := fun j q1 q2 => by
    have := tl_cm_op (e6 j q1 q2)
    exact ⟨⟨by omega, fun q => by omega⟩, fun q => by omega⟩
  exact (tl_run (ops := t 12) (args := t 13) (steps := t 11 3) (V := V) (V' := V') hw (by omega) (fun j q1 q2 => .inl (.inl (e6 j q1 q2))) e7 hbw e10 hV 240 260 a 0 (fun _ => 0) (Nat.le_refl _) e3 (by omega) (by omega) hD0 (fun c => absurd c.1 (Nat.lt_irrefl a))).1
theorem fl_kind {t : hy_T} (h : fl_law t) {i : Nat} (hi : (i : Int) < t 11 7) : t 14 i = t 73 i := (h.2 i hi).1.1
theorem fl_holdN {t : hy_T} (h : fl_law t) (hk : ml_ok t) {V V' : Nat → Int} (hV : ∀ j, j < 10 → V j = V' j) (k : Int) : ∀ (n q : Nat) (s : Bool), ((n + q : Nat) : Int) = t 11 7 →
    (mb_holdsN t V' k n q s = true ↔ ((∃ j : Nat, q ≤ j ∧ (j : Int) < t 11 7 ∧ t 14 j = k ∧ lc_val t V (t 16 j) ≠ 0) ∨ ((¬ ∃ j : Nat, q ≤ j ∧ (j : Int) < t 11 7 ∧ t 14 j = k) ∧ s = true)))
  | 0, q, s, hn => by
    simp only [mb_holdsN]
    constructor
    · exact fun e => .inr ⟨fun ⟨j, j1, j2, _⟩ => by omega, e⟩
    · rintro (⟨j, j1, j2, _⟩ | ⟨_, e⟩)
      · omega
      · exact e
  | n + 1, q, s, hn => by
    have hq : (q : Int) < t 11 7 := by omega
    have ek := fl_kind h hq
    obtain ⟨v1, v2, v3⟩ := fl_co h hk hV hq
    simp only [mb_holdsN]
    rw [← ek, ← v1]
    by_cases hc : t 14 q = k
    · rw [if_pos hc]
      by_cases hv : lc_val t V (t 16 q) = 1
      · rw [if_pos hv]
        exact ⟨fun _ => .inl ⟨q, Nat.le_refl _, hq, hc, by omega⟩, fun _ => rfl⟩
      · rw [if_neg hv, fl_holdN h hk hV k n (q + 1) false (by omega)]
        constructor
        · rintro (⟨j, j1, j2, j3⟩ | ⟨_, e⟩)
          · exact .inl ⟨j, by omega, j2, j3⟩
          · cases e
        · rintro (⟨j, j1, j2, j3, j4⟩ | ⟨e, _⟩)
          · refine .inl ⟨j, ?_, j2, j3, j4⟩
            by_cases hj : j = q
            · rw [hj] at j4
              omega
            · omega
          · exact absurd ⟨q, Nat.le_refl _, hq, hc⟩ e
    · rw [if_neg hc, fl_holdN h hk hV k n (q + 1) s (by omega)]
      constructor
      · rintro (⟨j, j1, j2, j3⟩ | ⟨e, es⟩)
        · exact .inl ⟨j, by omega, j2, j3⟩
        · exact .inr ⟨fun ⟨j, j1, j2, j3⟩ => e ⟨j, by
            by_cases hj : j = q
            · rw [hj] at j3
              exact absurd j3 hc
            · omega, j2, j3⟩, es⟩
      · rintro (⟨j, j1, j2, j3, j4⟩ | ⟨e, es⟩)
        · refine .inl ⟨j, ?_, j2, j3, j4⟩
          by_cases hj : j = q
          · rw [hj] at j3
            exact absurd j3 hc
          · omega
        · exact .inr ⟨fun ⟨j, j1, j2, j3⟩ => e ⟨j, by omega, j2, j3⟩, es⟩
/-- whether a clause holds -/
theorem fl_hold {t : hy_T} (h : fl_law t) (hk : ml_ok t) {V V' : Nat → Int} (hV : ∀ j, j < 10 → V j = V' j) (k : Int) (s : Bool) : mb_holds t V' k s = if rc_has t k = true then lc_hold t V k else s := by
  have e := fl_holdN h hk hV k (t 59 18).toNat 0 s (by have := h.1; omega)
  have e2 : rc_has t k = true ↔ ∃ j : Nat, 0 ≤ j ∧ (j : Int) < t 11 7 ∧ t 14 j = k := by
    unfold rc_has
    rw [decide_eq_true_eq]
    exact ⟨fun ⟨j, j1, j2⟩ => ⟨j, Nat.zero_le _, by omega, j2⟩, fun ⟨j, _, j1, j2⟩ => ⟨j, by omega, j2⟩⟩
  have e3 : lc_hold t V k = true ↔ ∃ j : Nat, 0 ≤ j ∧ (j : Int) < t 11 7 ∧ t 14 j = k ∧ lc_val t V (t 16 j) ≠ 0 := by
    unfold lc_hold
    rw [decide_eq_true_eq]
    exact ⟨fun ⟨j, j1, j2⟩ => ⟨j, Nat.zero_le _, by omega, j2⟩, fun ⟨j, _, j1, j2⟩ => ⟨j, by omega, j2⟩⟩
  unfold mb_holds
  rw [Bool.eq_iff_iff, e]
  by_cases hh : rc_has t k = true
  · rw [if_pos hh, e3]
    constructor
    · rintro (q | ⟨q, _⟩)
      · exact q
      · exact absurd (e2.mp hh) q
    · exact .inl
  · rw [if_neg hh]
    constructor
    · rintro (⟨j, j1, j2, j3, _⟩ | ⟨_, q⟩)
      · exact absurd (e2.mpr ⟨j, j1, j2, j3⟩) hh
      · exact q
    · exact fun q => .inr ⟨fun c => hh (e2.mpr c), q⟩
theorem fl_clamp {m : Int} (hm : 0 ≤ m) (v : Int) : mb_clamp m v = lc_clamp m v := by
  unfold mb_clamp lc_clamp
  by_cases h1 : v < 0
  · rw [if_pos h1, if_pos (show v < m by omega), if_neg (by omega)]
  · rw [if_neg h1]
    by_cases h2 : v < m
    · rw [if_neg (by omega), if_pos h2]
      by_cases h3 : 0 < v
      · rw [if_pos h3]
      · rw [if_neg h3]; omega
    · rw [if_neg h2]
      by_cases h3 : m < v
      · rw [if_pos h3]
        by_cases h4 : 0 < m
        · rw [if_pos h4]
        · rw [if_neg h4]; omega
      · rw [if_neg h3]
        by_cases h4 : 0 < m
        · rw [if_pos h4]; omega
        · rw [if_neg h4]; omega
theorem fl_amtN {t : hy_T} (h : fl_law t) (hk : ml_ok t) {V V' : Nat → Int} (hV : ∀ j, j < 10 → V j = V' j) {k : Int} (hk2 : k = 98 ∨ k = 118) {m : Int} (hm : 0 ≤ m) : ∀ (n q : Nat), ((n + q : Nat) : Int) = t 11 7 → mb_amtN t V' k m n q = lc_amtN t V k m n q
  | 0, q, hn => rfl
  | n + 1, q, hn => by
    have hq : (q : Int) < t 11 7 := by omega
    have ek := fl_kind h hq
    obtain ⟨v1, v2, v3⟩ := fl_co h hk hV hq
    simp only [mb_amtN, lc_amtN]
    rw [← ek, ← v1, fl_amtN h hk hV hk2 hm n (q + 1) (by omega)]
    by_cases hc : t 14 q = k ∧ lc_val t V (t 16 q) ≠ 0
    · rw [if_pos ⟨hc.1, by omega⟩, if_pos hc, ← fl_am h hk hV hq (by omega)]
      exact fl_clamp hm _
    · rw [if_neg (fun c => hc ⟨c.1, by omega⟩), if_neg hc]
/-- the amount of a clause -/
theorem fl_amt {t : hy_T} (h : fl_law t) (hk : ml_ok t) {V V' : Nat → Int} (hV : ∀ j, j < 10 → V j = V' j) {k : Int} (hk2 : k = 98 ∨ k = 118) {m : Int} (hm : 0 ≤ m) : mb_amt t V' k m = lc_amt t V k m := by
  have e := h.1.1
  unfold mb_amt lc_amt
  rw [← e]
  exact fl_amtN h hk hV hk2 hm _ 0 (by have := h.1; omega)
/-- a new law -/
theorem fl_op {t t1 t2 : hy_T} {n : Int} {r1 r2 : Option Int} (k : cK t) (h : fl_law t) (hl : t 3 1 = t 59 9) (hby : ∀ j : Nat, j < 260 → t 4 j = hz_iand (t 65 j) 255) (F : hy_F lwcX t t1) (F2 : hy_F lwX t1 t2) (q1 : r1 = some (wf_law t n).1 ∧ t1 = (wf_law t n).2) (q2 : if al_nc t1 n then al_Q t1 (al_law (al_B t1 n) n t1) r2 t2 else r2 = some (-1) ∧ t2 = t1) : r2 = r1 ∧ fl_law t2 := by
  have x9 := F 59 9 rfl
  by_cases hn : 1 ≤ n ∧ n ≤ 240 ∧ n ≤ t 3 1
  · have hn2 : al_nc t1 n := ⟨⟨hn.1, hn.2.1⟩, by omega⟩
    rw [if_pos hn2] at q2
    have eB : ∀ q : Int, 0 ≤ q → al_B t1 n q = if q < n then t 4 q.toNat else -1 := fun q hq => by
      unfold al_B
      split
      · rw [F 65 _ rfl, hby _ (by omega)]
      · rfl
    have hB : az_by (al_B t1 n) := fun p => by
      have := hz_iand_le (x := t1 65 p.toNat) (m := 255) (by decide)
      unfold al_B
      split
      · exact ⟨by omega, by omega, fun c => by omega⟩
      · exact ⟨by omega, by omega, fun _ => rfl⟩
    have hL := tl_law hB k.tp hn eB t1
    revert q2 hL
    generalize al_law (al_B t1 n) n t1 = G
    intro q2 hL
    obtain ⟨a1, a2, a3⟩ := rk_read_all k.tp k.da n
    rcases hL with ⟨d1, d2⟩ | ⟨s, s1, s2⟩
    · subst d2
      obtain ⟨-, e1, e2⟩ := q2
      have ew : wf_law t n = (rk_read t n 3 4, hy_up (rk_read t n) 3 1 0) := by unfold wf_law; rw [if_pos hn, if_neg d1]
      rw [ew] at q1
      refine ⟨by rw [q1.1, e1], fl_law_F h (fun r j q => ?_)⟩
      have F1 : hy_F (fun r j => lkX r j || (r == 3 && j == 1)) t t1 := by
        rw [q1.2]
        exact (a2.w (fun r j q => (Bool.or_eq_false_iff.mp q).1)).up rfl
      by_cases hm : mlawX r j = true
      · rw [e2 r j hm]
        exact F1 r j (by revert hm; simp only [mlawX, lkX, lpX, Bool.or_eq_true, Bool.and_eq_true, beq_iff_eq, Bool.or_eq_false_iff, Bool.and_eq_false_iff, beq_eq_false_iff_ne]; omega)
      · have hm2 : lawX r j = true := by
          rcases Bool.or_eq_true_iff.mp q with c | c
          · exact c
          · exact absurd c hm
        rw [F2 r j (by revert hm2; simp only [lawX, lwX, lrX, mrX, mlawX, Bool.or_eq_true, Bool.and_eq_true, beq_iff_eq, Bool.or_eq_false_iff, Bool.and_eq_false_iff, beq_eq_false_iff_ne]; omega)]
        exact F1 r j (by revert hm2; simp only [lawX, lkX, lpX, Bool.or_eq_true, Bool.and_eq_true, beq_iff_eq, Bool.or_eq_false_iff, Bool.and_eq_false_iff, beq_eq_false_iff_ne]; omega)
    · subst s1
      obtain ⟨-, e1, e2, e3, e4⟩ := q2
      obtain ⟨⟨D, E, w1⟩, ⟨w2, w3⟩, w4⟩ := s2
      have hcn := w1.cn
      have hp1 := w1.p1
      have hle := w1.le
      have hde := w1.de
      have ew : wf_law t n = (lp_lawcp (hy_up (rk_read t n) 3 1 0) 11 7, lp_lawcp (hy_up (rk_read t n) 3 1 0)) := by unfold wf_law; rw [if_pos hn, if_pos w1.ok]
      rw [ew] at q1
      have z7 : t1 11 7 = rk_read t n 19 7 := by rw [q1.2]; rfl
      have z3 : t1 11 3 = rk_read t n 19 3 := by rw [q1.2]; rfl
      have zz : ∀ r j, lawX r j = true → t2 r j = t1 r j := fun r j q => F2 r j (by revert q; simp only [lawX, lwX, lrX, mrX, mlawX, Bool.or_eq_true, Bool.and_eq_true, beq_iff_eq, Bool.or_eq_false_iff, Bool.and_eq_false_iff, beq_eq_false_iff_ne]; omega)
      have c12 : ∀ j, j < 241 → t1 12 j = rk_read t n 20 j := fun j hj => by
        rw [q1.2]
        simp [lp_lawcp, hy_up, hy_cp, hj]
      have c13 : ∀ j, j < 241 → t1 13 j = rk_read t n 21 j := fun j hj => by
        rw [q1.2]
        simp [lp_lawcp, hy_up, hy_cp, hj]
      have c14 : ∀ j, j < 16 → t1 14 j = rk_read t n 22 j := fun j hj => by
        rw [q1.2]
        simp [lp_lawcp, hy_up, hy_cp, hj]
      have c15 : ∀ j, j < 16 → t1 15 j = rk_read t n 23 j := fun j hj => by
        rw [q1.2]
        simp [lp_lawcp, hy_up, hy_cp, hj]
      have c16 : ∀ j, j < 16 → t1 16 j = rk_read t n 24 j := fun j hj => by
        rw [q1.2]
        simp [lp_lawcp, hy_up, hy_cp, hj]
      have er1 : r1 = some (t1 11 7) := by rw [q1.1, q1.2]
      have x7 : t2 11 7 = (s.2.2.2.1 : Int) := by rw [zz 11 7 rfl, z7, w2]
      refine ⟨by rw [er1, e1, z7, w2], ⟨⟨by rw [x7, e2], by omega, by omega⟩, fun i hi => ?_⟩⟩
      have hi2 : i < s.2.2.2.1 := by omega
      obtain ⟨f1, f2, f3, f4⟩ := e4 i hi2
      refine tl_cl_eq (n := s.2.1 + D) (m := s.2.1) (w4 i hi2) (by rw [hcn]; push_cast; rfl) (by rw [zz 11 3 rfl, z3]; exact Int.le_refl _) (by omega) (fun j hj => ⟨?_, ?_⟩) (fun j hj => e3 j hj) ⟨?_, ?_, ?_⟩ ⟨⟨f1, f2⟩, f3, f4⟩
      · rw [zz 12 j rfl, c12 j (by omega)]
      · rw [zz 13 j rfl, c13 j (by omega)]
      · rw [zz 14 i rfl, c14 i (by omega)]
      · rw [zz 15 i rfl, c15 i (by omega)]
      · rw [zz 16 i rfl, c16 i (by omega)]
  · have hn2 : ¬ al_nc t1 n := fun c => hn ⟨c.1.1, c.1.2, by have := c.2; omega⟩
    rw [if_neg hn2] at q2
    have ew : wf_law t n = (-1, t) := by unfold wf_law; rw [if_neg hn]
    rw [ew] at q1
    obtain ⟨rfl, rfl⟩ := q1
    obtain ⟨rfl, rfl⟩ := q2
    exact ⟨rfl, h⟩
/-! what the full relation rests on -/
abbrev p5_Y : Nat → Nat → Bool := fun r j => (r == 3 && j == 1) || (r == 59 && j == 9)
def p5_rel (t : hy_T) : Prop := t 3 1 = t 59 9
theorem p5_relF (t t1 : hy_T) (h : p5_rel t) (hY : ∀ r j, p5_Y r j = true → t1 r j = t r j) : p5_rel t1 := by
  unfold p5_rel
  rw [hY 3 1 rfl, hY 59 9 rfl]
  exact h
theorem wf_feed_31 {t : hy_T} {a b c d e : Int} (hq : t 3 1 ≤ 240) : wf_feed t a b c d e 3 1 = t 3 1 + 20 := by
  have h1 := tp_add_l (t := t) (w := a) (by omega)
  have h2 := tp_add_l (t := tp_add t a) (w := b) (by omega)
  have h3 := tp_add_l (t := tp_add (tp_add t a) b) (w := c) (by omega)
  have h4 := tp_add_l (t := tp_add (tp_add (tp_add t a) b) c) (w := d) (by omega)
  have h5 := tp_add_l (t := tp_add (tp_add (tp_add (tp_add t a) b) c) d) (w := e) (by omega)
  unfold wf_feed
  omega
theorem k3e {sc : List Int32} {t : hy_T} {a b c d e : Int} (k : cK t) : hy_Ct sc hm_W_feed 1 [.inr (some 2), .inl a, .inl b, .inl c, .inl d, .inl e] t (fun r t' => cQ taX t r t' ∧ r = some (if t 3 1 ≤ 240 then t 3 1 + 20 else -1) ∧ t' = if t 3 1 ≤ 240 then wf_feed t a b c d e else t) := (c_W_feed k.tp.l).mono (fun r t' q => by
  obtain ⟨rfl, rfl⟩ := q
  obtain ⟨k1, F⟩ := cK_feed (a := a) (b := b) (c := c) (d := d) (e := e) k
  exact ⟨⟨⟨_, rfl⟩, k1, F⟩, rfl, rfl⟩)
theorem m3e {sc : List Int32} {t : hy_T} {a b c d e : Int} (k : mK t) : hy_Ct sc hm_M_feed 1 [.inr (some 59), .inl a, .inl b, .inl c, .inl d, .inl e] t (fun r t' => mQ feX t r t' ∧ r = some (if t 59 9 ≤ 240 then t 59 9 + 20 else -1) ∧ t' = if t 59 9 ≤ 240 then mf_feed t a b c d e else t) := (c_M_feed k.mt).mono (fun r t' q => by
  obtain ⟨rfl, rfl⟩ := q
  refine ⟨⟨⟨_, rfl⟩, ?_⟩, rfl, rfl⟩
  obtain ⟨F, e9⟩ := mf_feed_s t a b c d e
  have k9 := k.mt
  split
  · exact ⟨mK_A F (fun r j q => by revert q; simp only [mkA, mlawX, mrP, mrT, mrK, feX, Bool.or_eq_true, Bool.and_eq_true, decide_eq_true_eq, beq_iff_eq, Bool.or_eq_false_iff, Bool.and_eq_false_iff, beq_eq_false_iff_ne]; omega) (by unfold mt_ok; omega) k, F⟩
  · exact ⟨k, hy_F.rf⟩)
theorem p5_feed {t t1 t2 : hy_T} {a b c d e : Int} {r1 r2 : Option Int} (h : p5_rel t) (F : hy_F taX t t1) (F2 : hy_F feX t1 t2) (q1 : r1 = some (if t 3 1 ≤ 240 then t 3 1 + 20 else -1) ∧ t1 = if t 3 1 ≤ 240 then wf_feed t a b c d e else t) (q2 : r2 = some (if t1 59 9 ≤ 240 then t1 59 9 + 20 else -1) ∧ t2 = if t1 59 9 ≤ 240 then mf_feed t1 a b c d e else t1) : r2 = r1 ∧ p5_rel t2 := by
  have x := F 59 9 rfl
  have y := F2 3 1 rfl
  have h0 : t 3 1 = t 59 9 := h
  obtain ⟨e1, e2⟩ := q1
  obtain ⟨e3, e4⟩ := q2
  refine ⟨by rw [e1, e3, x, h0], ?_⟩
  show t2 3 1 = t2 59 9
  by_cases hq : t 3 1 ≤ 240
  · rw [if_pos hq] at e2
    rw [if_pos (by omega)] at e4
    have z1 : t1 3 1 = t 3 1 + 20 := by rw [e2]; exact wf_feed_31 hq
    have z2 : t2 59 9 = t1 59 9 + 20 := by rw [e4]; exact (mf_feed_s t1 a b c d e).2
    omega
  · rw [if_neg hq] at e2
    rw [if_neg (by omega)] at e4
    have z1 : t1 3 1 = t 3 1 := by rw [e2]
    have z2 : t2 59 9 = t1 59 9 := by rw [e4]
    omega
theorem p5_law {t t1 t2 : hy_T} {n : Int} (h : p5_rel t) (F : hy_F lwcX t t1) (F2 : hy_F lwX t1 t2) (e1 : t1 = (wf_law t n).2) (e2 : t2 59 9 = if al_nc t1 n then 0 else t1 59 9) : p5_rel t2 := by
  have x := F 59 9 rfl
  have y := F2 3 1 rfl
  have h0 : t 3 1 = t 59 9 := h
  have c := wf_law_31 t n
  rw [← e1] at c
  show t2 3 1 = t2 59 9
  simp only [al_nc] at e2
  split at c <;> split at e2 <;> omega
theorem p5_land {t t1 t2 : hy_T} {n : Int} (k : cK t) (h : p5_rel t) (F : hy_F glX t t1) (F2 : hy_F ngX t1 t2) (e1 : t1 = (wf_land t n).2) (e2 : t2 59 9 = if ld_ntc t1 n then 0 else t1 59 9) : p5_rel t2 := by
  have x := F 59 9 rfl
  have y := F2 3 1 rfl
  have h0 : t 3 1 = t 59 9 := h
  have c := (wf_land_s k.tp n).2.2
  rw [← e1] at c
  show t2 3 1 = t2 59 9
  simp only [ld_ntc] at e2
  split at c <;> split at e2 <;> omega
theorem p5_lines {XW XM : Nat → Nat → Bool} {t t1 t2 : hy_T} {n : Int} (h : p5_rel t) (F : hy_F XW t t1) (F2 : hy_F XM t1 t2) (hw : XW 59 9 = false) (hm : XM 3 1 = false) (c : t1 3 1 = if 1 ≤ n ∧ n ≤ 120 ∧ n ≤ t 3 1 then 0 else t 3 1) (e2 : t2 59 9 = if ml_ntc t1 n then 0 else t1 59 9) : p5_rel t2 := by
  have x := F 59 9 hw
  have y := F2 3 1 hm
  have h0 : t 3 1 = t 59 9 := h
  show t2 3 1 = t2 59 9
  simp only [ml_ntc] at e2
  split at c <;> split at e2 <;> omega
theorem p5_parted {t t1 t2 : hy_T} {m w : Int} (hR : hy_R w) (h : p5_rel t) (F : hy_F t1X t t1) (F2 : hy_F t9X t1 t2) (e1 : t1 = if wf_partok t m w then hy_up t 3 1 0 else t) (e2 : t2 = if mf_ptc t1 m w then hy_up t1 59 9 0 else t1) : p5_rel t2 := by
  have x := F 59 9 rfl
  have y := F2 3 1 rfl
  have h0 : t 3 1 = t 59 9 := h
  have z := wf_sub (k := 10) hR (by decide)
  have hw : (0 ≤ wf_w10 w ∧ wf_w10 w < 4) ↔ (10 ≤ w ∧ w ≤ 13) := by
    unfold wf_w10
    revert z
    generalize (Int32.ofInt (w - 10)).toInt = y
    intro z
    omega
  have c : t1 3 1 = if wf_partok t m w then 0 else t 3 1 := by
    rw [e1]
    split <;> rfl
  have c2 : t2 59 9 = if mf_ptc t1 m w then 0 else t1 59 9 := by
    rw [e2]
    split <;> rfl
  have hc : wf_partok t m w ↔ mf_ptc t1 m w := by
    unfold wf_partok mf_ptc
    rw [hw]
    omega
  show t2 3 1 = t2 59 9
  by_cases hq : wf_partok t m w
  · rw [if_pos hq] at c
    rw [if_pos (hc.mp hq)] at c2
    omega
  · rw [if_neg hq] at c
    rw [if_neg (fun q => hq (hc.mpr q))] at c2
    omega
theorem p5_spies {t t1 t2 : hy_T} {n w : Int} (h : p5_rel t) (F : hy_F spX t t1) (F2 : hy_F spmX t1 t2) (c : t1 3 1 = if wf_spyok t n w then 0 else t 3 1) (e2 : t2 59 9 = if ms_spc t1 n w then 0 else t1 59 9) : p5_rel t2 := by
  have x := F 59 9 rfl
  have y := F2 3 1 rfl
  have h0 : t 3 1 = t 59 9 := h
  show t2 3 1 = t2 59 9
  simp only [wf_spyok] at c
  simp only [ms_spc] at e2
  split at c <;> split at e2 <;> omega
theorem p5_check {t t1 t2 : hy_T} {n : Int} (h : p5_rel t) (F : hy_F t1X t t1) (F2 : hy_F t9X t1 t2) (e1 : t1 = if (0 ≤ n ∧ n ≤ 8) ∧ 4 * n ≤ t 3 1 then hy_up t 3 1 0 else t) (e2 : t2 = if (0 ≤ n ∧ n ≤ 8) ∧ 4 * n ≤ t1 59 9 then hy_up t1 59 9 0 else t1) : p5_rel t2 := by
  have x := F 59 9 rfl
  have y := F2 3 1 rfl
  have h0 : t 3 1 = t 59 9 := h
  have c : t1 3 1 = if (0 ≤ n ∧ n ≤ 8) ∧ 4 * n ≤ t 3 1 then 0 else t 3 1 := by
    rw [e1]
    split <;> rfl
  have c2 : t2 59 9 = if (0 ≤ n ∧ n ≤ 8) ∧ 4 * n ≤ t1 59 9 then 0 else t1 59 9 := by
    rw [e2]
    split <;> rfl
  show t2 3 1 = t2 59 9
  split at c <;> split at c2 <;> omega
abbrev p29_Y : Nat → Nat → Bool := fun r j => (r == 2 && j == 9) || (r == 59 && j == 57)
def p29_rel (t : hy_T) : Prop := t 2 9 = t 59 57
theorem p29_relF (t t1 : hy_T) (h : p29_rel t) (hY : ∀ r j, p29_Y r j = true → t1 r j = t r j) : p29_rel t1 := by
  unfold p29_rel
  rw [hY 2 9 rfl, hY 59 57 rfl]
  exact h
theorem by8 (v : Int32) : (v.toInt8.toInt32 &&& 255) = v &&& 255 := by
  apply Int32.toBitVec_inj.mp
  apply BitVec.eq_of_getLsbD_eq
  intro i hi
  simp only [Int32.toBitVec_and, BitVec.getLsbD_and]
  by_cases h8 : i < 8
  · have e : (v.toInt8.toInt32).toBitVec.getLsbD i = v.toBitVec.getLsbD i := by
      rw [Int8.toBitVec_toInt32, BitVec.getLsbD_signExtend, Int32.toBitVec_toInt8, if_pos h8]
      rw [decide_eq_true hi, Bool.true_and, BitVec.getLsbD_signExtend, decide_eq_true h8, Bool.true_and, if_pos hi]
    rw [e]
  · have e : (255 : Int32).toBitVec.getLsbD i = false := by
      have key : ∀ j : Fin 32, ¬ (j.val < 8) → (255 : Int32).toBitVec.getLsbD j.val = false := by decide
      exact key ⟨i, hi⟩ h8
    rw [e]
    simp
theorem sh_or (a b : Int32) (k : Int32) : (a ||| b) <<< k = (a <<< k) ||| (b <<< k) := by
  apply Int32.toBitVec_inj.mp
  apply BitVec.eq_of_getLsbD_eq
  intro i hi
  simp [Int32.toBitVec_shiftLeft, BitVec.getLsbD_or, Bool.and_or_distrib_left]
theorem sh_88 (a : Int32) : (a <<< 8) <<< 8 = a <<< 16 := by
  apply Int32.toBitVec_inj.mp
  apply BitVec.eq_of_getLsbD_eq
  intro i hi
  simp [Int32.toBitVec_shiftLeft]
theorem sh_168 (a : Int32) : (a <<< 8) <<< 16 = a <<< 24 := by
  apply Int32.toBitVec_inj.mp
  apply BitVec.eq_of_getLsbD_eq
  intro i hi
  simp [Int32.toBitVec_shiftLeft]
theorem hz_i2b_255 (x : Int) : hz_iand (hz_i2b x) 255 = hz_iand x 255 := by
  unfold hz_iand hz_i2b
  rw [Int32.ofInt_toInt, show Int32.ofInt 255 = 255 from rfl, by8]
theorem num4 (a b c d : Int) : hz_ior (hz_ishl (hz_ior (hz_ishl (hz_ior (hz_ishl (hz_ior (hz_ishl 0 8) a) 8) b) 8) c) 8) d = hz_ior (hz_ior (hz_ior (hz_ishl a 24) (hz_ishl b 16)) (hz_ishl c 8)) d := by
  unfold hz_ior hz_ishl
  simp only [Int32.ofInt_toInt]
  rw [show Int32.ofInt 8 &&& 31 = 8 by decide, show Int32.ofInt 16 &&& 31 = 16 by decide, show Int32.ofInt 24 &&& 31 = 24 by decide, show Int32.ofInt 0 <<< (8 : Int32) = 0 by decide, Int32.zero_or]
  rw [sh_or, sh_or, sh_or, sh_88, sh_88, sh_168]
def p30_b (t u : hy_T) : Prop := t 3 1 = u 59 9 ∧ ∀ j : Nat, j < 260 → t 4 j = hz_iand (u 65 j) 255
theorem p30_1 {t u : hy_T} (b : p30_b t u) (hl : 0 ≤ t 3 1 ∧ t 3 1 < 260) (v : Int) (k : Nat) (s : Int) (hs : s = 8 * (k : Int)) : p30_b (tp_add1 t (tp_byte v s)) (mf_ty1 u v k) ∧ tp_add1 t (tp_byte v s) 3 1 = t 3 1 + 1 := by
  have l := tp_add1_l (t := t) (v := tp_byte v s) hl.2
  refine ⟨⟨?_, fun j hj => ?_⟩, l⟩
  · rw [l, b.1]
    rfl
  · have x : tp_add1 t (tp_byte v s) 4 j = if j = (t 3 1).toNat then tp_byte v s else t 4 j := by
      unfold tp_add1
      rw [if_pos hl.2, hy_up_ne (by decide)]
      simp only [hy_up, true_and]
    have y : mf_ty1 u v k 65 j = if j = (u 59 9).toNat then hz_i2b (hz_ishr v (8 * (k : Int))) else u 65 j := by
      unfold mf_ty1
      rw [hy_up_ne (by decide)]
      simp only [hy_up, true_and]
    rw [x, y, b.1]
    split
    · rw [hz_i2b_255, hs]
      rfl
    · exact b.2 j hj
theorem p30_4 {t u : hy_T} (b : p30_b t u) (hl : 0 ≤ t 3 1 ∧ t 3 1 ≤ 256) (v : Int) : p30_b (tp_add t v) (mf_tyN v 4 u) ∧ tp_add t v 3 1 = t 3 1 + 4 := by
  obtain ⟨b1, l1⟩ := p30_1 b ⟨by omega, by omega⟩ v 3 24 (by decide)
  obtain ⟨b2, l2⟩ := p30_1 b1 ⟨by omega, by omega⟩ v 2 16 (by decide)
  obtain ⟨b3, l3⟩ := p30_1 b2 ⟨by omega, by omega⟩ v 1 8 (by decide)
  obtain ⟨b4, l4⟩ := p30_1 b3 ⟨by omega, by omega⟩ v 0 0 (by decide)
  refine ⟨b4, ?_⟩
  unfold tp_add
  omega
theorem p30_20 {t u : hy_T} (b : p30_b t u) (hl : 0 ≤ t 3 1 ∧ t 3 1 ≤ 240) (a b' c d e : Int) : p30_b (wf_feed t a b' c d e) (mf_feed u a b' c d e) := by
  obtain ⟨b1, l1⟩ := p30_4 b ⟨by omega, by omega⟩ a
  obtain ⟨b2, l2⟩ := p30_4 b1 ⟨by omega, by omega⟩ b'
  obtain ⟨b3, l3⟩ := p30_4 b2 ⟨by omega, by omega⟩ c
  obtain ⟨b4, l4⟩ := p30_4 b3 ⟨by omega, by omega⟩ d
  obtain ⟨b5, l5⟩ := p30_4 b4 ⟨by omega, by omega⟩ e
  exact b5
def ti_S (t u : hy_T) : Prop := ((t 3 4 = 0 ∧ t 3 3 = u 59 10 ∧ t 3 2 = u 59 11) ∧ (0 ≤ t 3 3 ∧ t 3 2 ≤ 260) ∧ t 5 2 = u 59 0) ∧ (∀ j : Nat, j < 260 → t 4 j = hz_iand (u 65 j) 255) ∧ ∀ j : Nat, j < 64 → t 10 j = u 96 j
theorem ti_next {t u : hy_T} (h : ti_S t u) : tp_next t = mp_here u := by
  obtain ⟨⟨⟨a1, a2, a3⟩, ⟨a4, a5⟩, -⟩, a6, -⟩ := h
  unfold tp_next mp_here
  rw [← a2, ← a3]
  by_cases hq : t 3 3 < t 3 2
  · rw [if_pos ⟨a1, a4, hq⟩, if_pos hq]
    exact a6 _ (by omega)
  · rw [if_neg (fun q => hq q.2.2), if_neg hq]
def ti_R (t : hy_T) (p : Bool × hy_T) : Prop := if p.1 = true then ti_S t p.2 else (t 3 4 ≠ 0 ∧ t 3 4 = p.2 59 12) ∧ ∀ j : Nat, j < 64 → t 10 j = p.2 96 j
theorem ti_f {t u : hy_T} (h : ti_R t (false, u)) : t 3 4 ≠ 0 := h.1.1
theorem ti_ok {t u : hy_T} (h : ti_S t u) : ti_R t (true, u) := by
  unfold ti_R
  rw [if_pos rfl]
  exact h
theorem ti_fail {t u : hy_T} (h : ti_S t u) {n : Int} (hn : 1 ≤ n) {w : Int} (hw : w = u 59 10) : ti_R (tp_fail t n (t 3 3)) (false, mp_wr u n w) := by
  obtain ⟨⟨⟨a1, a2, a3⟩, ⟨a4, a5⟩, -⟩, a6, a7⟩ := h
  show (tp_fail t n (t 3 3) 3 4 ≠ 0 ∧ tp_fail t n (t 3 3) 3 4 = mp_wr u n w 59 12) ∧ ∀ j : Nat, j < 64 → tp_fail t n (t 3 3) 10 j = mp_wr u n w 96 j
  have e : tp_fail t n (t 3 3) = hy_up t 3 4 (-1000 * n - t 3 3) := if_pos a1
  rw [e]
  have e1 : hy_up t 3 4 (-1000 * n - t 3 3) 3 4 = -1000 * n - t 3 3 := rfl
  have e2 : mp_wr u n w 59 12 = -1000 * n - w := rfl
  refine ⟨⟨by rw [e1]; omega, ?_⟩, fun j hj => ?_⟩
  · show hy_up t 3 4 (-1000 * n - t 3 3) 3 4 = mp_wr u n w 59 12
    rw [e1, e2, hw, a2]
  · show hy_up t 3 4 (-1000 * n - t 3 3) 10 j = mp_wr u n w 96 j
    rw [hy_up_ne (by decide)]
    unfold mp_wr
    rw [hy_up_ne (by decide)]
    exact a7 j hj
theorem ti_step {t u : hy_T} (h : ti_S t u) (hp : 0 ≤ tp_next t) : ti_S (tp_step t) (mp_st u) := by
  obtain ⟨⟨⟨a1, a2, a3⟩, ⟨a4, a5⟩, a8⟩, a6, a7⟩ := h
  refine ⟨⟨⟨a1, ?_, a3⟩, ⟨?_, a5⟩, a8⟩, a6, a7⟩
  · show t 3 3 + 1 = u 59 10 + 1
    omega
  · show 0 ≤ t 3 3 + 1
    omega
theorem ti_let (c : Int) : 0 ≤ gd_col c ↔ ld_let c := by
  unfold gd_col ld_let
  split
  · omega
  · split <;> omega
theorem ti_col {c : Int} (h : ld_let c) : gd_col c = ld_col c ∧ (gd_col c ≠ 12 ↔ c ≠ 46) ∧ (c ≠ 46 → gd_col c = c - 97) := by
  unfold gd_col ld_col
  unfold ld_let at h
  split
  · omega
  · rw [if_pos (by omega)]
    omega
theorem ti_deadF {t : hy_T} (h : t 3 4 ≠ 0) (n w : Int) : tp_fail t n w = t := if_neg h
theorem ti_dead {t : hy_T} (h : t 3 4 ≠ 0) (y : Int) : ∀ (n : Nat) (x : Int), gd_rowN y n t x = t
  | 0, x => by
    show gd_rowE t x = t
    unfold gd_rowE
    split
    · exact ti_deadF h _ _
    · rfl
  | n + 1, x => by
    have e : tp_next t = -1 := if_neg (fun q => h q.1)
    simp only [gd_rowN]
    rw [e, if_neg (by decide)]
    unfold gd_rowE
    split
    · exact ti_deadF h _ _
    · rfl
theorem ti_paint_F (u : hy_T) (p : Nat) (v : Int) : ∀ n, hy_F (fun r _ => r == 96) u (ld_paintN u p v n)
  | 0 => hy_F.rf
  | n + 1 => (ti_paint_F u p v n).up rfl
theorem ti_fill {t u : hy_T} (h : ∀ j : Nat, j < 64 → t 10 j = u 96 j) (row many : Nat) (c : Int) : ∀ (n : Nat) (j : Nat), j < 64 → gd_fillN t row many c n 10 j = ld_paintN u (8 * row + many) c n 96 j
  | 0, j, hj => h j hj
  | n + 1, j, hj => by
    have ih := ti_fill h row many c n j hj
    simp only [gd_fillN, ld_paintN, hy_up, true_and]
    rw [show (8 * (row : Int) + (many : Int) + (n : Int)).toNat = 8 * row + many + n by omega, ih]
theorem ti_laid {t u : hy_T} (h : ti_S t u) (hp : 0 ≤ tp_next t) (row many : Nat) (c : Int) (n : Nat) : ti_S (gd_fillN (tp_step t) row many c n) (mp_st (ld_paintN u (8 * row + many) c n)) := by
  have h1 := ti_step h hp
  obtain ⟨⟨⟨a1, a2, a3⟩, ⟨a4, a5⟩, a8⟩, a6, a7⟩ := h1
  have F := gd_fillN_F (tp_step t) row many c n
  have G := ti_paint_F u (8 * row + many) c n
  refine ⟨⟨⟨?_, ?_, ?_⟩, ⟨?_, ?_⟩, ?_⟩, fun j hj => ?_, fun j hj => ?_⟩
  · rw [F 3 4 rfl]; exact a1
  · rw [F 3 3 rfl, a2]
    show u 59 10 + 1 = ld_paintN u (8 * row + many) c n 59 10 + 1
    rw [G 59 10 rfl]
  · rw [F 3 2 rfl, a3]
    exact (G 59 11 rfl).symm
  · rw [F 3 3 rfl]; exact a4
  · rw [F 3 2 rfl]; exact a5
  · rw [F 5 2 rfl, a8]
    exact (G 59 0 rfl).symm
  · rw [F 4 j rfl, a6 j hj]
    show _ = hz_iand (ld_paintN u (8 * row + many) c n 65 j) 255
    rw [G 65 j rfl]
    rfl
  · show _ = ld_paintN u (8 * row + many) c n 96 j
    exact ti_fill (t := tp_step t) (u := u) (fun i hi => a7 i hi) row many c n j hj
theorem ti_tail {t u : hy_T} (h : ti_S t u) (row many times : Nat) (h8 : many + times ≤ 8) : (¬ ld_let (mp_here u) → ti_R (gd_tail t row many times).1 (false, mp_wr u 1 (u 59 10))) ∧
    (ld_let (mp_here u) → (mp_here u ≠ 46 ∧ sp_told (u 59 0) (mp_here u - 97) = false) → ti_R (gd_tail t row many times).1 (false, mp_wr u 7 (u 59 10))) ∧
    (ld_let (mp_here u) → ¬ (mp_here u ≠ 46 ∧ sp_told (u 59 0) (mp_here u - 97) = false) → (gd_tail t row many times).2 = times ∧ ti_S (gd_tail t row many times).1 (mp_st (ld_paintN u (8 * row + many) (ld_col (mp_here u)) times))) := by
  have e := ti_next h
  have e52 : t 5 2 = u 59 0 := h.1.2.2
  unfold gd_tail
  rw [e]
  refine ⟨fun q => ?_, fun q q2 => ?_, fun q q2 => ?_⟩
  · rw [if_pos (by have := (ti_let (mp_here u)).mp; omega)]
    exact ti_fail h (by decide) rfl
  · obtain ⟨c1, c2, c3⟩ := ti_col q
    have := (ti_let (mp_here u)).mpr q
    rw [if_neg (by omega), if_neg (by omega), if_pos ⟨c2.mpr q2.1, by rw [e52, c3 q2.1]; exact q2.2⟩]
    exact ti_fail h (by decide) rfl
  · obtain ⟨c1, c2, c3⟩ := ti_col q
    have hp := (ti_let (mp_here u)).mpr q
    rw [if_neg (by omega), if_neg (by omega), if_neg (fun q3 => q2 ⟨c2.mp q3.1, by rw [← e52, ← c3 (c2.mp q3.1)]; exact q3.2⟩), c1]
    refine ⟨rfl, ?_⟩
    rw [Int.toNat_natCast]
    exact ti_laid h (by rw [e]; exact gd_col_p hp) row many _ times
theorem ti_row (row : Nat) : ∀ (n : Nat) {t u : hy_T} (many : Nat), ti_S t u → many ≤ 8 → 9 ≤ n + many → ti_R (gd_rowN row n t many) (ld_rowN row n u many)
  | 0, t, u, many, h, h8, h9 => by omega
  | n + 1, t, u, many, h, h8, h9 => by
    have e := ti_next h
    have el := ti_let (mp_here u)
    simp only [gd_rowN, ld_rowN]
    rw [e]
    by_cases hs : ld_run (mp_here u) ∨ ld_let (mp_here u)
    · rw [if_pos (show (49 ≤ mp_here u ∧ mp_here u ≤ 56) ∨ 0 ≤ gd_col (mp_here u) from hs.elim .inl (fun q => .inr (el.mpr q)))]
      rw [if_neg (show ¬ (many = 8 ∧ ¬ ld_run (mp_here u) ∧ ¬ ld_let (mp_here u)) from fun q => hs.elim q.2.1 q.2.2)]
      by_cases hr : ld_run (mp_here u)
      · have hr' : 49 ≤ mp_here u ∧ mp_here u ≤ 56 := hr
        have et : ld_times u = (mp_here u - 48).toNat := if_pos hr
        have e1 : ld_t1 u = mp_st u := if_pos hr
        rw [et, e1]
        have ef : gd_fields t row many = if 8 < (many : Int) + (mp_here u - 48) then (tp_fail t 6 (t 3 3), 0) else gd_tail (tp_step t) row many (mp_here u - 48) := by
          unfold gd_fields
          rw [e, if_pos (by omega)]
        rw [ef]
        by_cases hb : 8 < many + (mp_here u - 48).toNat
        · rw [if_pos (show (ld_run (mp_here u) ∨ ld_let (mp_here u)) ∧ 8 < many + (mp_here u - 48).toNat from ⟨hs, hb⟩), if_pos (show 8 < (many : Int) + (mp_here u - 48) by omega)]
          have := ti_fail h (n := 6) (by decide) rfl
          rw [ti_dead (ti_f this)]
          exact this
        · rw [if_neg (show ¬ ((ld_run (mp_here u) ∨ ld_let (mp_here u)) ∧ 8 < many + (mp_here u - 48).toNat) from fun q => hb q.2), if_neg (show ¬ 8 < (many : Int) + (mp_here u - 48) by omega)]
          have h1 := ti_step h (by omega)
          have ht := ti_tail h1 row many (mp_here u - 48).toNat (by omega)
          rw [show (((mp_here u - 48).toNat : Nat) : Int) = mp_here u - 48 by omega] at ht
          obtain ⟨t1, t2, t3⟩ := ht
          by_cases hl : ld_let (mp_here (mp_st u))
          · rw [if_neg (show ¬ ¬ ld_let (mp_here (mp_st u)) from fun q => q hl)]
            by_cases hc : mp_here (mp_st u) ≠ 46 ∧ sp_told (mp_st u 59 0) (mp_here (mp_st u) - 97) = false
            · have := t2 hl hc
              rw [if_pos (show mp_here (mp_st u) ≠ 46 ∧ sp_told (u 59 0) (mp_here (mp_st u) - 97) = false from hc)]
              rw [ti_dead (ti_f this)]
              exact this
            · obtain ⟨y1, y2⟩ := t3 hl hc
              rw [if_neg (show ¬ (mp_here (mp_st u) ≠ 46 ∧ sp_told (u 59 0) (mp_here (mp_st u) - 97) = false) from hc), y1]
              rw [show (many : Int) + (mp_here u - 48) = ((many + (mp_here u - 48).toNat : Nat) : Int) by omega]
              exact ti_row row n _ y2 (by omega) (by omega)
          · have := t1 hl
            rw [if_pos hl]
            rw [ti_dead (ti_f this)]
            exact this
      · have hl : ld_let (mp_here u) := hs.resolve_left hr
        have hl' : mp_here u = 46 ∨ 97 ≤ mp_here u ∧ mp_here u ≤ 108 := hl
        have et : ld_times u = 1 := if_neg hr
        have e1 : ld_t1 u = u := if_neg hr
        rw [et, e1]
        have ef : gd_fields t row many = gd_tail t row many 1 := by
          unfold gd_fields
          rw [e, if_neg (by omega)]
        rw [ef]
        have hp := el.mpr hl
        by_cases hb : 8 < many + 1
        · have eg : gd_tail t row many 1 = (tp_fail t 6 (t 3 3), 0) := by
            unfold gd_tail
            rw [e, if_neg (by omega), if_pos (by omega)]
          rw [if_pos (show (ld_run (mp_here u) ∨ ld_let (mp_here u)) ∧ 8 < many + 1 from ⟨hs, hb⟩), eg]
          have := ti_fail h (n := 6) (by decide) rfl
          rw [ti_dead (ti_f this)]
          exact this
        · rw [if_neg (show ¬ ((ld_run (mp_here u) ∨ ld_let (mp_here u)) ∧ 8 < many + 1) from fun q => hb q.2), if_neg (show ¬ ¬ ld_let (mp_here u) from fun q => q hl)]
          obtain ⟨t1, t2, t3⟩ := ti_tail h row many 1 (by omega)
          by_cases hc : mp_here u ≠ 46 ∧ sp_told (u 59 0) (mp_here u - 97) = false
          · have := t2 hl hc
            rw [if_pos hc]
            rw [show ((1 : Nat) : Int) = 1 from rfl] at this
            rw [ti_dead (ti_f this)]
            exact this
          · obtain ⟨y1, y2⟩ := t3 hl hc
            rw [show ((1 : Nat) : Int) = 1 from rfl] at y1 y2
            rw [if_neg hc, y1]
            rw [show (many : Int) + 1 = ((many + 1 : Nat) : Int) by omega]
            exact ti_row row n _ y2 (by omega) (by omega)
    · have hr : ¬ ld_run (mp_here u) := fun q => hs (.inl q)
      have hl : ¬ ld_let (mp_here u) := fun q => hs (.inr q)
      rw [if_neg (show ¬ ((49 ≤ mp_here u ∧ mp_here u ≤ 56) ∨ 0 ≤ gd_col (mp_here u)) from fun q => q.elim hr (fun q => hl (el.mp q)))]
      unfold gd_rowE
      by_cases h88 : many = 8
      · rw [if_pos (show many = 8 ∧ ¬ ld_run (mp_here u) ∧ ¬ ld_let (mp_here u) from ⟨h88, hr, hl⟩), if_neg (show ¬ (many : Int) < 8 by omega)]
        exact ti_ok h
      · have e1 : ld_t1 u = u := if_neg hr
        rw [if_neg (show ¬ (many = 8 ∧ ¬ ld_run (mp_here u) ∧ ¬ ld_let (mp_here u)) from fun q => h88 q.1), if_neg (show ¬ ((ld_run (mp_here u) ∨ ld_let (mp_here u)) ∧ 8 < many + ld_times u) from fun q => hs q.1), e1, if_pos hl, if_pos (show (many : Int) < 8 by omega)]
        exact ti_fail h (n := 1) (by decide) rfl
theorem ti_rowsF (n row : Nat) (p : Bool × hy_T) (h : p.1 ≠ true) : ld_rowsN n row p = p := by
  cases n with
  | zero => rfl
  | succ n => simp only [ld_rowsN]; rw [if_neg h]
theorem ti_rows (t : hy_T) (n : Int) : ∀ (m row : Nat) {p : Bool × hy_T}, 1 ≤ row → row + m = 8 → ti_R (gd_rowsN t n row) p → ti_R (gd_rowsN t n 8) (ld_rowsN m row p)
  | 0, row, p, h1, h8, h => by
    obtain rfl : row = 8 := by omega
    exact h
  | m + 1, row, p, h1, h8, h => by
    have es : gd_rowsN t n (row + 1) = gd_row (tp_take (gd_rowsN t n row) 47) row := by
      show gd_row (gd_sep (gd_rowsN t n row) row) row = _
      unfold gd_sep
      rw [if_pos (by omega)]
    by_cases hp : p.1 = true
    · have hS : ti_S (gd_rowsN t n row) p.2 := by
        unfold ti_R at h
        rw [if_pos hp] at h
        exact h
      have e := ti_next hS
      simp only [ld_rowsN]
      rw [if_pos hp]
      refine ti_rows t n m (row + 1) (by omega) (by omega) ?_
      rw [es]
      unfold mp_take tp_take
      rw [e]
      by_cases h47 : mp_here p.2 = 47
      · rw [if_pos h47, if_pos h47, if_pos rfl]
        exact ti_row row 9 0 (ti_step hS (by omega)) (by decide) (by decide)
      · rw [if_neg h47, if_neg h47, if_neg (show ¬ ((false : Bool) = true) from Bool.false_ne_true)]
        have := ti_fail hS (n := 1) (by decide) rfl
        unfold gd_row
        rw [ti_dead (ti_f this)]
        exact this
    · have hD := h
      unfold ti_R at hD
      rw [if_neg hp] at hD
      have ed : gd_rowsN t n (row + 1) = gd_rowsN t n row := by
        rw [es]
        have e : tp_next (gd_rowsN t n row) = -1 := if_neg (fun q => hD.1.1 q.1)
        unfold tp_take
        rw [e, if_neg (by decide), ti_deadF hD.1.1]
        exact ti_dead hD.1.1 _ _ _
      rw [ti_rowsF _ _ _ hp, ← ti_rowsF m (row + 1) p hp]
      exact ti_rows t n m (row + 1) (by omega) (by omega) (by rw [ed]; exact h)
theorem ti_end {t : hy_T} {p : Bool × hy_T} (h : ti_R t p) : ti_R (tp_finish t) (ld_end p) := by
  by_cases hp : p.1 = true
  · have hS : ti_S t p.2 := by
      unfold ti_R at h
      rw [if_pos hp] at h
      exact h
    have e1 := hS.1.1.2.1
    have e2 := hS.1.1.2.2
    unfold tp_finish ld_end
    by_cases hq : t 3 3 < t 3 2
    · rw [if_pos hq, if_pos ⟨hp, by omega⟩]
      exact ti_fail hS (by decide) rfl
    · rw [if_neg hq, if_neg (fun q => hq (by omega))]
      exact h
  · have hD := h
    unfold ti_R at hD
    rw [if_neg hp] at hD
    have e : tp_finish t = t := by
      unfold tp_finish
      split
      · exact ti_deadF hD.1.1 _ _
      · rfl
    rw [e, show ld_end p = p from if_neg (fun q => hp q.1)]
    exact h
theorem ti_cnt {t u : hy_T} (h : ∀ j : Nat, j < 64 → t 9 j = u 96 j) : ∀ n : Nat, n ≤ 64 → sp_paintedN t n = ld_cntN u n
  | 0, _ => rfl
  | n + 1, hn => by
    simp only [sp_paintedN, ld_cntN]
    rw [ti_cnt h n (by omega), h n (by omega)]
    split <;> omega
def p7_B (t u : hy_T) : Prop := (t 3 1 = u 59 9 ∧ t 5 2 = u 59 0) ∧ (∀ j : Nat, j < 260 → t 4 j = hz_iand (u 65 j) 255) ∧ ∀ j : Nat, j < 64 → t 10 j = u 96 j
theorem ti_land {t u : hy_T} (h : p7_B t u) (hl : t 3 1 ≤ 260) (n : Int) (hn : 1 ≤ n ∧ n ≤ 160 ∧ n ≤ t 3 1) : ti_R (tp_finish (gd_rowsN t n 8)) (ld_end (ld_rowsN 7 1 (ld_row (ld_t0 u n) 0))) := by
  obtain ⟨⟨h1, h2⟩, h3, h4⟩ := h
  refine ti_end (ti_rows t n 7 1 (by decide) (by decide) ?_)
  show ti_R (gd_row (gd_sep (tp_start t n) 0) 0) _
  rw [show gd_sep (tp_start t n) 0 = tp_start t n from if_neg (by decide)]
  have e32 : tp_start t n 3 2 = n := by
    show (if t 3 1 < n then t 3 1 else n) = n
    rw [if_neg (by omega)]
  exact ti_row 0 9 0 ⟨⟨⟨rfl, rfl, e32⟩, ⟨Int.le_refl 0, by rw [e32]; omega⟩, h2⟩, h3, h4⟩ (by decide) (by decide)
theorem ti_all {t u : hy_T} (h : p7_B t u) (hl : t 3 1 ≤ 260) (n : Int) (hn : 1 ≤ n ∧ n ≤ 160 ∧ n ≤ t 3 1) : (wf_land t n).1 = (if (ld_read u n).1 = true then ld_cntN (ld_read u n).2 64 else (ld_read u n).2 59 12) ∧ ∀ j : Nat, j < 64 → (wf_land t n).2 10 j = (if (ld_read u n).1 = true then ld_cpN (ld_read u n).2 64 else (ld_read u n).2) 96 j := by
  have hR := ti_land h hl n hn
  unfold wf_land gd_read ld_read
  rw [if_pos hn]
  revert hR
  generalize tp_finish (gd_rowsN t n 8) = T
  generalize ld_end (ld_rowsN 7 1 (ld_row (ld_t0 u n) 0)) = p
  intro hR
  unfold ti_R at hR
  dsimp only
  by_cases hp : p.1 = true
  · rw [if_pos hp] at hR
    rw [if_pos hp, if_pos hp, if_pos hR.1.1.1]
    have e34 : hy_cp T 10 9 64 3 4 = 0 := by
      unfold hy_cp
      rw [if_neg (by decide)]
      exact hR.1.1.1
    rw [if_pos e34]
    have e9 : ∀ j : Nat, j < 64 → hy_up (hy_cp T 10 9 64) 3 1 0 9 j = hy_up p.2 59 9 0 96 j := fun j hj => by
      rw [hy_up_ne (by decide), hy_up_ne (by decide)]
      unfold hy_cp
      rw [if_pos ⟨rfl, hj⟩]
      exact hR.2.2 j hj
    refine ⟨ti_cnt e9 64 (by decide), fun j hj => ?_⟩
    show hy_up (hy_cp T 10 9 64) 3 1 0 10 j = _
    rw [ld_cpN_F _ 64 96 j rfl, hy_up_ne (by decide), hy_up_ne (by decide)]
    unfold hy_cp
    rw [if_neg (by omega)]
    exact hR.2.2 j hj
  · rw [if_neg hp] at hR
    rw [if_neg hp, if_neg hp, if_neg hR.1.1, if_neg hR.1.1]
    refine ⟨?_, fun j hj => ?_⟩
    · show T 3 4 = hy_up p.2 59 9 0 59 12
      exact hR.1.2
    · show hy_up T 3 1 0 10 j = hy_up p.2 59 9 0 96 j
      rw [hy_up_ne (by decide), hy_up_ne (by decide)]
      exact hR.2 j hj
theorem ti_land_s {t : hy_T} {n : Int} (k : mK t) : (mK (if ld_ntc t n then (if (ld_read t n).1 = true then ld_cpN (ld_read t n).2 64 else (ld_read t n).2) else t) ∧ hy_F ngX t (if ld_ntc t n then (if (ld_read t n).1 = true then ld_cpN (ld_read t n).2 64 else (ld_read t n).2) else t)) ∧ (if ld_ntc t n then (if (ld_read t n).1 = true then ld_cpN (ld_read t n).2 64 else (ld_read t n).2) else t) 59 9 = if ld_ntc t n then 0 else t 59 9 := by
  by_cases hn : ld_ntc t n
  · simp only [if_pos hn]
    obtain ⟨a1, a2⟩ := ld_read_s k.nl (n := n) (by omega)
    have z : (ld_read t n).2 59 9 = 0 := rfl
    have F1 : hy_F ngX t (ld_read t n).2 := a2.w (fun r j q => (Bool.or_eq_false_iff.mp q).1)
    have k1 : mK (ld_read t n).2 := ⟨⟨ml_ok_F F1 (fun r j q => by revert q; simp only [mkAll, mkA, mlawX, mrP, mrT, mrK, mrM, mvX, meX, mlX, mfaX, stX, hvX, pwX, btX, sgX, mlsX, jdX, tdX, dsX, enX, mftX, ldrX, wmX, maX, lwX, lrX, mrX, feX, ngX, Bool.or_eq_true, Bool.and_eq_true, decide_eq_true_eq, decide_eq_false_iff_not, beq_iff_eq, Bool.or_eq_false_iff, Bool.and_eq_false_iff, beq_eq_false_iff_ne]; omega) k.ml, mk_p2 F1 (fun r j q => by revert q; simp only [mkAll, mkA, mlawX, mrP, mrT, mrK, mrM, mvX, meX, mlX, mfaX, stX, hvX, pwX, btX, sgX, mlsX, jdX, tdX, dsX, enX, mftX, ldrX, wmX, maX, lwX, lrX, mrX, feX, ngX, Bool.or_eq_true, Bool.and_eq_true, decide_eq_true_eq, decide_eq_false_iff_not, beq_iff_eq, Bool.or_eq_false_iff, Bool.and_eq_false_iff, beq_eq_false_iff_ne]; omega) k.p2⟩, ⟨mk_mg a2 (fun _ => rfl) k.mg, a1⟩, ⟨mk_tr F1 (fun r j q => by revert q; simp only [mkAll, mkA, mlawX, mrP, mrT, mrK, mrM, mvX, meX, mlX, mfaX, stX, hvX, pwX, btX, sgX, mlsX, jdX, tdX, dsX, enX, mftX, ldrX, wmX, maX, lwX, lrX, mrX, feX, ngX, Bool.or_eq_true, Bool.and_eq_true, decide_eq_true_eq, decide_eq_false_iff_not, beq_iff_eq, Bool.or_eq_false_iff, Bool.and_eq_false_iff, beq_eq_false_iff_ne]; omega) k.tr, mk_kp F1 (fun r j q => by revert q; simp only [mkAll, mkA, mlawX, mrP, mrT, mrK, mrM, mvX, meX, mlX, mfaX, stX, hvX, pwX, btX, sgX, mlsX, jdX, tdX, dsX, enX, mftX, ldrX, wmX, maX, lwX, lrX, mrX, feX, ngX, Bool.or_eq_true, Bool.and_eq_true, decide_eq_true_eq, decide_eq_false_iff_not, beq_iff_eq, Bool.or_eq_false_iff, Bool.and_eq_false_iff, beq_eq_false_iff_ne]; omega) k.kp⟩, mt_0 z⟩
    revert a1 a2 z F1 k1
    generalize (ld_read t n).2 = u
    intro a1 a2 z F1 k1
    refine ⟨?_, ?_⟩
    · split
      · have F2 := ld_cpN_F u 64
        have F3 : hy_F ngX t (ld_cpN u 64) := F1.tr' (F2.w (fun r j q => (Bool.or_eq_false_iff.mp q).2))
        exact ⟨⟨⟨ml_ok_F F2 (fun r j q => by revert q; simp only [mkAll, mkA, mlawX, mrP, mrT, mrK, mrM, mvX, meX, mlX, mfaX, stX, hvX, pwX, btX, sgX, mlsX, jdX, tdX, dsX, enX, mftX, ldrX, wmX, maX, lwX, lrX, mrX, feX, ngX, Bool.or_eq_true, Bool.and_eq_true, decide_eq_true_eq, decide_eq_false_iff_not, beq_iff_eq, Bool.or_eq_false_iff, Bool.and_eq_false_iff, beq_eq_false_iff_ne]; omega) k1.ml, mk_p2 F2 (fun r j q => by revert q; simp only [mkAll, mkA, mlawX, mrP, mrT, mrK, mrM, mvX, meX, mlX, mfaX, stX, hvX, pwX, btX, sgX, mlsX, jdX, tdX, dsX, enX, mftX, ldrX, wmX, maX, lwX, lrX, mrX, feX, ngX, Bool.or_eq_true, Bool.and_eq_true, decide_eq_true_eq, decide_eq_false_iff_not, beq_iff_eq, Bool.or_eq_false_iff, Bool.and_eq_false_iff, beq_eq_false_iff_ne]; omega) k1.p2⟩, ⟨fun f hf => by rw [ld_cpN_v u 64 f, if_pos hf]; exact a1 f hf, mk_nl F2 (fun _ => rfl) k1.nl⟩, ⟨mk_tr F2 (fun r j q => by revert q; simp only [mkAll, mkA, mlawX, mrP, mrT, mrK, mrM, mvX, meX, mlX, mfaX, stX, hvX, pwX, btX, sgX, mlsX, jdX, tdX, dsX, enX, mftX, ldrX, wmX, maX, lwX, lrX, mrX, feX, ngX, Bool.or_eq_true, Bool.and_eq_true, decide_eq_true_eq, decide_eq_false_iff_not, beq_iff_eq, Bool.or_eq_false_iff, Bool.and_eq_false_iff, beq_eq_false_iff_ne]; omega) k1.tr, mk_kp F2 (fun r j q => by revert q; simp only [mkAll, mkA, mlawX, mrP, mrT, mrK, mrM, mvX, meX, mlX, mfaX, stX, hvX, pwX, btX, sgX, mlsX, jdX, tdX, dsX, enX, mftX, ldrX, wmX, maX, lwX, lrX, mrX, feX, ngX, Bool.or_eq_true, Bool.and_eq_true, decide_eq_true_eq, decide_eq_false_iff_not, beq_iff_eq, Bool.or_eq_false_iff, Bool.and_eq_false_iff, beq_eq_false_iff_ne]; omega) k1.kp⟩, mk_mt F2 rfl k1.mt⟩, F3⟩
      · exact ⟨k1, F1⟩
    · split
      · exact (ld_cpN_F u 64 59 9 rfl).trans z
      · exact z
  · simp only [if_neg hn]
    exact ⟨⟨k, hy_F.rf⟩, trivial⟩
theorem m5e {sc : List Int32} {t : hy_T} {n : Int} (k : mK t) : hy_Ct sc hm_M_land 3 [.inr (some 59), .inl n] t (fun r t' => mQ ngX t r t' ∧ (t' 59 9 = if ld_ntc t n then 0 else t 59 9) ∧ r = some (if ld_ntc t n then (if (ld_read t n).1 = true then ld_cntN (ld_read t n).2 64 else (ld_read t n).2 59 12) else -1) ∧ t' = if ld_ntc t n then (if (ld_read t n).1 = true then ld_cpN (ld_read t n).2 64 else (ld_read t n).2) else t) := (c_M_land k.nl).mono (fun r t' q => by
  obtain ⟨e1, e2⟩ := q
  obtain ⟨⟨k1, F⟩, z⟩ := ti_land_s (n := n) k
  rw [← e2] at k1 F z
  exact ⟨⟨⟨_, e1⟩, k1, F⟩, z, e1, e2⟩)
theorem bit_set {w c : Int} (hw : 0 ≤ w ∧ w ≤ 4095) (hc : 0 ≤ c ∧ c < 12) : (0 ≤ hz_ior w (hz_ishl 1 c) ∧ hz_ior w (hz_ishl 1 c) ≤ 4095) ∧ ∀ j : Nat, j < 12 → hz_b (hz_ior w (hz_ishl 1 c)) j = (hz_b w j || decide (c.toNat = j)) := by
  have e := hz_set (x := w) (k := c) (by omega) (by omega)
  have h1 : w.toNat < 2 ^ 12 := by
    show w.toNat < 4096
    omega
  have h2 : 2 ^ c.toNat < 2 ^ 12 := Nat.pow_lt_pow_right (by decide) (by omega)
  have h3 : w.toNat ||| 2 ^ c.toNat < 4096 := Nat.or_lt_two_pow h1 h2
  have h4 : ∀ j : Nat, (w.toNat ||| 2 ^ c.toNat).testBit j = (w.toNat.testBit j || decide (c.toNat = j)) := fun j => by
    rw [Nat.testBit_or, Nat.testBit_two_pow]
  rw [e]
  revert h3 h4
  generalize w.toNat ||| 2 ^ c.toNat = m
  intro h3 h4
  refine ⟨⟨by omega, by omega⟩, fun j hj => ?_⟩
  rw [hz_b_n (by omega) (by omega), hz_b_n (by omega) (by omega), Int.toNat_natCast, Int.toNat_natCast]
  exact h4 j
abbrev p3_Y : Nat → Nat → Bool := fun r j => (r == 5 && (j == 2 || j == 3)) || (r == 59 && j == 0) || r == 60
def p3_rel (t : hy_T) : Prop := (t 5 2 = t 59 0 ∧ (0 ≤ t 5 2 ∧ t 5 2 ≤ 4095) ∧ 0 ≤ t 5 3 ∧ t 5 3 ≤ 4095) ∧ ∀ c : Nat, c < 12 → hz_b (t 5 3) c = decide (t 60 c ≠ -1) ∧ (hz_b (t 5 3) c = true → hz_b (t 5 2) c = true)
theorem p3_relF (t t1 : hy_T) (h : p3_rel t) (hY : ∀ r j, p3_Y r j = true → t1 r j = t r j) : p3_rel t1 := by
  unfold p3_rel
  rw [hY 5 2 rfl, hY 5 3 rfl, hY 59 0 rfl]
  refine ⟨h.1, fun c hc => ?_⟩
  rw [hY 60 c rfl]
  exact h.2 c hc
theorem p3_rel0 : p3_rel t0 := ⟨⟨rfl, (show 0 ≤ (0 : Int) ∧ (0 : Int) ≤ 4095 by decide), (show 0 ≤ (0 : Int) ∧ (0 : Int) ≤ 4095 by decide)⟩, fun c hc => by
  have e : hz_b (t0 5 3) c = false := hz_b_0 c
  rw [e, show t0 60 c = -1 from rfl]
  exact ⟨rfl, fun h => by cases h⟩⟩
theorem p3_plain {t : hy_T} (h : p3_rel t) (c : Int) : wf_plain t c = mf_plain t c := by
  unfold wf_plain mf_plain sp_told
  rw [h.1.1]
  by_cases hc : 0 ≤ c ∧ c < 12
  · have := (h.2 c.toNat (by omega)).1
    rw [show ((c.toNat : Nat) : Int) = c by omega] at this
    rw [this, decide_eq_true hc, Bool.true_and, Bool.true_and]
    by_cases h6 : t 60 c.toNat = -1
    · simp [h6]
    · simp [h6]
  · rw [decide_eq_false hc, Bool.false_and, Bool.false_and, Bool.false_and]
theorem p3_tell {t t1 t2 : hy_T} {a b c : Int} (h : p3_rel t) (hq : sp_tellable (t 5 2) a b c = true) (e1 : t1 = sp_tellC t a b c) (e2 : t2 = sp_tellM t1 a b c) : p3_rel t2 := by
  obtain ⟨⟨r1, r2, r3⟩, r4⟩ := h
  simp only [sp_tellable, sp_told, Bool.and_eq_true, Bool.or_eq_true, decide_eq_true_eq] at hq
  have ha := hq.1.1
  have hn : hz_b (t 5 2) a = false := by
    have := hq.1.2
    rw [decide_eq_true ha, Bool.true_and] at this
    simpa using this
  have hd : (b = -1 ∧ c = -1) ∨ 0 ≤ b := by
    rcases hq.2 with q | q
    · exact .inl q
    · exact .inr q.1.1.1.1
  obtain ⟨s1, s2⟩ := bit_set r2 ha
  obtain ⟨s3, s4⟩ := bit_set r3 ha
  have x52 : t2 5 2 = hz_ior (t 5 2) (hz_ishl 1 a) := by
    rw [e2]
    show t1 5 2 = _
    rw [e1]
    unfold sp_tellC
    split <;> rfl
  have x53 : t2 5 3 = if b = -1 ∧ c = -1 then t 5 3 else hz_ior (t 5 3) (hz_ishl 1 a) := by
    rw [e2]
    show t1 5 3 = _
    rw [e1]
    unfold sp_tellC
    split <;> rfl
  have x0 : t1 59 0 = t 59 0 := by
    rw [e1]
    unfold sp_tellC
    split <;> rfl
  have x590 : t2 59 0 = hz_ior (t 5 2) (hz_ishl 1 a) := by
    rw [e2, r1, ← x0]
    rfl
  have x60 : ∀ j : Nat, t2 60 j = if j = a.toNat then b else t 60 j := fun j => by
    have y : t1 60 j = t 60 j := by
      rw [e1]
      unfold sp_tellC
      split <;> rfl
    rw [e2]
    unfold sp_tellM
    rw [hy_up_ne (by decide)]
    simp only [hy_up, true_and]
    split
    · rfl
    · rw [if_neg (by omega)]
      exact y
  refine ⟨⟨by rw [x52, x590], by rw [x52]; exact s1, ?_⟩, fun j hj => ?_⟩
  · rw [x53]
    split
    · exact r3
    · exact s3
  · obtain ⟨u1, u2⟩ := r4 j hj
    rw [x52, x53, x60 j, s2 j hj]
    by_cases hja : j = a.toNat
    · have hna : hz_b (t 5 2) j = false := by rw [hja, show ((a.toNat : Nat) : Int) = a by omega]; exact hn
      have hz3 : hz_b (t 5 3) j = false := by
        cases e : hz_b (t 5 3) j with
        | false => rfl
        | true => rw [u2 e] at hna; cases hna
      rw [if_pos hja, hna, decide_eq_true hja.symm]
      by_cases hp : b = -1 ∧ c = -1
      · rw [if_pos hp, hz3, decide_eq_false (show ¬ b ≠ -1 by omega)]
        exact ⟨rfl, fun _ => rfl⟩
      · rw [if_neg hp, s4 j hj, hz3, decide_eq_true hja.symm, decide_eq_true (show b ≠ -1 by omega)]
        exact ⟨rfl, fun _ => rfl⟩
    · rw [if_neg hja, decide_eq_false (show ¬ a.toNat = j by omega), Bool.or_false]
      by_cases hp : b = -1 ∧ c = -1
      · rw [if_pos hp]
        exact ⟨u1, u2⟩
      · rw [if_neg hp, s4 j hj, decide_eq_false (show ¬ a.toNat = j by omega), Bool.or_false]
        exact ⟨u1, u2⟩
theorem k1e {sc : List Int32} {t : hy_T} {a b c : Int} (k : cK t) : hy_Ct sc hm_W_have 3 [.inr (some 2), .inl a, .inl b, .inl c] t (fun r t' => cQ (fun r _ => r == 34) t r t' ∧ r = some (hy_b (wf_have t a b c))) := c_W_have.mono (fun r t' q => by
  obtain ⟨rfl, rfl⟩ := q
  have F : hy_F (fun r _ => r == 34) t (if wf_have t a b c = true then sp_setH 33 t a b c else t) := by
    split
    · unfold sp_setH
      split
      · exact hy_F.rf.up rfl
      · exact hy_F.rf
    · exact hy_F.rf
  exact ⟨⟨⟨_, rfl⟩, cK_F F (fun r j q => by revert q; simp only [ckX, ckT, lawX, ckN, ckS, ckP, Bool.or_eq_true, Bool.and_eq_true, beq_iff_eq, beq_eq_false_iff_ne]; omega) k, F⟩, rfl⟩)
theorem m1e {sc : List Int32} {t : hy_T} {a b c : Int} (k : mK t) : hy_Ct sc hm_M_have 3 [.inr (some 59), .inl a, .inl b, .inl c] t (fun r t' => mQ (fun r _ => r == 62) t r t' ∧ r = some (hy_b (mf_have t a b c))) := c_M_have.mono (fun r t' q => by
  obtain ⟨rfl, rfl⟩ := q
  have F : hy_F (fun r _ => r == 62) t (if mf_have t a b c = true then hy_up t 62 (4 * a + b).toNat c else t) := by
    split
    · exact hy_F.rf.up rfl
    · exact hy_F.rf
  exact ⟨⟨⟨_, rfl⟩, mK_F F (fun r j q => by revert q; simp only [mkAll, mkA, mlawX, mrP, mrT, mrK, mrM, Bool.or_eq_true, Bool.and_eq_true, decide_eq_true_eq, beq_iff_eq, beq_eq_false_iff_ne]; omega) k, F⟩, rfl⟩)
theorem p3_have {t t1 t2 : hy_T} {a b c : Int} {r1 r2 : Option Int} (h : p3_rel t) (F : hy_F (fun r _ => r == 34) t t1) (F2 : hy_F (fun r _ => r == 62) t1 t2) (q1 : r1 = some (hy_b (wf_have t a b c))) (q2 : r2 = some (hy_b (mf_have t1 a b c))) : r2 = r1 ∧ p3_rel t2 := by
  have h1 : p3_rel t1 := p3_relF t t1 h (fun r j q => F r j (by revert q; simp only [p3_Y, Bool.or_eq_true, Bool.and_eq_true, beq_iff_eq, beq_eq_false_iff_ne]; omega))
  have h2 : p3_rel t2 := p3_relF t1 t2 h1 (fun r j q => F2 r j (by revert q; simp only [p3_Y, Bool.or_eq_true, Bool.and_eq_true, beq_iff_eq, beq_eq_false_iff_ne]; omega))
  refine ⟨?_, h2⟩
  rw [q1, q2]
  have e : mf_have t1 a b c = wf_have t a b c := by
    unfold mf_have wf_have
    rw [← p3_plain h1 a]
    unfold wf_plain
    rw [F 5 2 rfl, F 5 3 rfl]
  rw [e]
theorem k2x {sc : List Int32} {t : hy_T} {a b c : Int} (k : cK t) : hy_Ct sc hm_W_owner 2 [.inr (some 2), .inl a, .inl b, .inl c] t (fun r t' => cQ (fun r _ => r == 35) t r t' ∧ t' = if wf_owner a b c = true then hy_up t 35 (8 * b + a).toNat c else t) := c_W_owner.mono (fun r t' q => by
  obtain ⟨rfl, rfl⟩ := q
  have F : hy_F (fun r _ => r == 35) t (if wf_owner a b c = true then hy_up t 35 (8 * b + a).toNat c else t) := by
    split
    · exact hy_F.rf.up rfl
    · exact hy_F.rf
  exact ⟨⟨⟨_, rfl⟩, cK_F F (fun r j q => by revert q; simp only [ckX, ckT, lawX, ckN, ckS, ckP, Bool.or_eq_true, Bool.and_eq_true, beq_iff_eq, beq_eq_false_iff_ne]; omega) k, F⟩, rfl⟩)
theorem m2x {sc : List Int32} {t : hy_T} {a b c : Int} (k : mK t) : hy_Ct sc hm_M_owner 1 [.inr (some 59), .inl a, .inl b, .inl c] t (fun r t' => mQ (fun r _ => r == 64) t r t' ∧ t' = if wf_owner a b c = true then hy_up t 64 (8 * b + a).toNat c else t) := c_M_owner.mono (fun r t' q => by
  obtain ⟨rfl, rfl⟩ := q
  have F : hy_F (fun r _ => r == 64) t (if wf_owner a b c = true then hy_up t 64 (8 * b + a).toNat c else t) := by
    split
    · exact hy_F.rf.up rfl
    · exact hy_F.rf
  exact ⟨⟨⟨_, rfl⟩, mK_F F (fun r j q => by revert q; simp only [mkAll, mkA, mlawX, mrP, mrT, mrK, mrM, Bool.or_eq_true, Bool.and_eq_true, decide_eq_true_eq, beq_iff_eq, beq_eq_false_iff_ne]; omega) k, F⟩, rfl⟩)
/-! the two readers of lines -/
def tz_S (t u : hy_T) : Prop := (t 3 4 = 0 ∧ t 3 3 = u 59 10 ∧ t 3 2 = u 59 11) ∧ (0 ≤ t 3 3 ∧ t 3 2 ≤ 260) ∧ ∀ j : Nat, j < 260 → t 4 j = hz_iand (u 65 j) 255
theorem tz_next {t u : hy_T} (h : tz_S t u) : tp_next t = mp_here u := by
  obtain ⟨⟨a1, a2, a3⟩, ⟨a4, a5⟩, a6⟩ := h
  unfold tp_next mp_here
  rw [← a2, ← a3]
  by_cases hq : t 3 3 < t 3 2
  · rw [if_pos ⟨a1, a4, hq⟩, if_pos hq]
    exact a6 _ (by omega)
  · rw [if_neg (fun q => hq q.2.2), if_neg hq]
theorem tz_fail {t u : hy_T} (h : tz_S t u) {n : Int} (hn : 1 ≤ n) {w : Int} (hw : 0 ≤ w) : tp_fail t n w 3 4 ≠ 0 ∧ mp_wr u n w 59 12 = tp_fail t n w 3 4 := by
  have e : tp_fail t n w = hy_up t 3 4 (-1000 * n - w) := if_pos h.1.1
  rw [e]
  have e1 : hy_up t 3 4 (-1000 * n - w) 3 4 = -1000 * n - w := rfl
  have e2 : mp_wr u n w 59 12 = -1000 * n - w := rfl
  rw [e1, e2]
  exact ⟨by omega, rfl⟩
theorem tz_fail' {t u : hy_T} (h : tz_S t u) {n : Int} (hn : 1 ≤ n) : tp_fail t n (t 3 3) 3 4 ≠ 0 ∧ mp_wr u n (u 59 10) 59 12 = tp_fail t n (t 3 3) 3 4 := by
  rw [← h.1.2.1]
  exact tz_fail h hn h.2.1.1
theorem tz_step {t u : hy_T} (h : tz_S t u) : tz_S (tp_step t) (mp_st u) := by
  obtain ⟨⟨a1, a2, a3⟩, ⟨a4, a5⟩, a6⟩ := h
  refine ⟨⟨a1, ?_, a3⟩, ⟨?_, a5⟩, a6⟩
  · show t 3 3 + 1 = u 59 10 + 1
    omega
  · show 0 ≤ t 3 3 + 1
    omega
theorem tz_of {t t' u u' : hy_T} (h : tz_S t u) (e3 : ∀ j, t' 3 j = t 3 j) (e4 : ∀ j, t' 4 j = t 4 j) (f10 : u' 59 10 = u 59 10) (f11 : u' 59 11 = u 59 11) (f65 : ∀ j, u' 65 j = u 65 j) : tz_S t' u' := by
  obtain ⟨⟨a1, a2, a3⟩, ⟨a4, a5⟩, a6⟩ := h
  exact ⟨⟨by rw [e3]; exact a1, by rw [e3, f10]; exact a2, by rw [e3, f11]; exact a3⟩, ⟨by rw [e3]; exact a4, by rw [e3]; exact a5⟩, fun j hj => by rw [e4, f65]; exact a6 j hj⟩
/-- what a step of a line writes, on either side -/
def tz_W (k a : Nat) (v : Int) (t t' : hy_T) : Prop := ∀ r j, r ≠ 3 → t' r j = if r = a ∧ j = k then v else t r j
def tz_M (k b : Nat) (v : Int) (u u' : hy_T) : Prop := (∀ r j, r ≠ 59 → u' r j = if r = b ∧ j = k then v else u r j) ∧ ∀ j, j ≠ 10 → j ≠ 12 → j ≠ 13 → u' 59 j = u 59 j
theorem tz_colN : ∀ (n : Nat) {t u : hy_T} {c : Int}, tz_S t u → u 59 13 = c → 0 ≤ c → tz_S (rd_colourN n t c).1 (ml_colN n u) ∧ (ml_colN n u 59 13 = (rd_colourN n t c).2 ∧ 0 ≤ (rd_colourN n t c).2) ∧ (∀ r j, r ≠ 3 → (rd_colourN n t c).1 r j = t r j) ∧ (∀ r j, r ≠ 59 → ml_colN n u r j = u r j) ∧ ∀ j, j ≠ 10 → j ≠ 13 → ml_colN n u 59 j = u 59 j
  | 0, t, u, c, h, hc, h0 => ⟨h, ⟨hc, h0⟩, fun _ _ _ => rfl, fun _ _ _ => rfl, fun _ _ _ => rfl⟩
  | n + 1, t, u, c, h, hc, h0 => by
    have e := tz_next h
    simp only [rd_colourN, ml_colN]
    unfold mp_dig
    rw [e]
    by_cases hd : 48 ≤ mp_here u ∧ mp_here u ≤ 57
    · rw [if_pos hd, if_pos (decide_eq_true hd)]
      have h2 : tz_S (tp_step t) (mp_st (hy_up u 59 13 (10 * u 59 13 + mp_here u - 48))) := tz_of (tz_step h) (fun _ => rfl) (fun _ => rfl) rfl rfl (fun _ => rfl)
      obtain ⟨r1, ⟨r2, r3⟩, r4, r5, r6⟩ := tz_colN n (c := 10 * c + mp_here u - 48) h2 (by show 10 * u 59 13 + mp_here u - 48 = _; rw [hc]) (by omega)
      refine ⟨r1, ⟨r2, r3⟩, fun r j hr => ?_, fun r j hr => ?_, fun j h10 h13 => ?_⟩
      · rw [r4 r j hr]
        unfold tp_step
        rw [hy_up_ne (by omega)]
      · rw [r5 r j hr]
        unfold mp_st
        rw [hy_up_ne (by omega), hy_up_ne (by omega)]
      · rw [r6 j h10 h13]
        unfold mp_st
        simp only [hy_up, true_and]
        rw [if_neg h10, if_neg h13]
    · rw [if_neg hd, if_neg (by simpa using hd)]
      exact ⟨h, ⟨hc, h0⟩, fun _ _ _ => rfl, fun _ _ _ => rfl, fun _ _ _ => rfl⟩
/-- both go on, or both end with the same fault -/
def tz_Q (k a b : Nat) (t u t' : hy_T) (p : Bool × hy_T) : Prop := (t' 3 4 ≠ 0 ∧ p.1 = false ∧ p.2 59 12 = t' 3 4) ∨ (p.1 = true ∧ tz_S t' p.2 ∧ ∃ v, tz_W k a v t t' ∧ tz_M k b v u p.2)
theorem tz_col {t u : hy_T} {k : Nat} (h : tz_S t u) (h1 : t 27 6 = k) (h2 : u 59 33 = k) : tz_Q k 28 80 t u (rd_g2 t) (ml_col u) := by
  have h0 : tz_S t (hy_up u 59 13 0) := tz_of h (fun _ => rfl) (fun _ => rfl) rfl rfl (fun _ => rfl)
  obtain ⟨r1, ⟨r2, r2b⟩, r4, r5, r6⟩ := tz_colN 2 (c := 0) h0 rfl (Int.le_refl _)
  have hp0 := h.2.1.1
  unfold rd_g2 ml_col rd_colour
  dsimp only
  rw [r2, h1]
  by_cases hc : (rd_colourN 2 t 0).2 < 12
  · rw [if_pos hc, if_pos hc]
    have e33 : ml_colN 2 (hy_up u 59 13 0) 59 33 = k := (r6 33 (by decide) (by decide)).trans h2
    rw [h2, Int.toNat_natCast]
    have h3 : tz_S (hy_up (rd_colourN 2 t 0).1 28 k (rd_colourN 2 t 0).2) (hy_up (ml_colN 2 (hy_up u 59 13 0)) 80 k (rd_colourN 2 t 0).2) := tz_of r1 (fun _ => rfl) (fun _ => rfl) rfl rfl (fun _ => rfl)
    have e := tz_next h3
    have wW : tz_W k 28 (rd_colourN 2 t 0).2 t (hy_up (rd_colourN 2 t 0).1 28 k (rd_colourN 2 t 0).2) := fun r j hr => by
      simp only [hy_up]
      split
      · rfl
      · exact r4 r j hr
    have wM : tz_M k 80 (rd_colourN 2 t 0).2 u (hy_up (ml_colN 2 (hy_up u 59 13 0)) 80 k (rd_colourN 2 t 0).2) := by
      refine ⟨fun r j hr => ?_, fun j h10 h12 h13 => ?_⟩
      · simp only [hy_up]
        split
        · rfl
        · have q := r5 r j hr
          rw [q, hy_up_ne (by omega)]
      · rw [hy_up_ne (by decide), r6 j h10 h13]
        simp only [hy_up, true_and]
        rw [if_neg h13]
    unfold tp_take mp_take
    rw [e]
    by_cases h64 : mp_here (hy_up (ml_colN 2 (hy_up u 59 13 0)) 80 k (rd_colourN 2 t 0).2) = 64
    · rw [if_pos h64, if_pos h64]
      refine .inr ⟨rfl, tz_step h3, (rd_colourN 2 t 0).2, fun r j hr => ?_, fun r j hr => ?_, fun j h10 h12 h13 => ?_⟩
      · rw [hy_up_ne (by omega)]
        exact wW r j hr
      · dsimp only
        unfold mp_st
        rw [hy_up_ne (by omega)]
        exact wM.1 r j hr
      · refine Eq.trans ?_ (wM.2 j h10 h12 h13)
        show mp_st (hy_up (ml_colN 2 (hy_up u 59 13 0)) 80 k (rd_colourN 2 t 0).2) 59 j = hy_up (ml_colN 2 (hy_up u 59 13 0)) 80 k (rd_colourN 2 t 0).2 59 j
        generalize hy_up (ml_colN 2 (hy_up u 59 13 0)) 80 k (rd_colourN 2 t 0).2 = Z
        unfold mp_st
        simp only [hy_up, true_and]
        rw [if_neg h10]
    · rw [if_neg h64, if_neg h64]
      have := tz_fail' h3 (n := 1) (by decide)
      exact .inl ⟨this.1, rfl, this.2⟩
  · rw [if_neg hc, if_neg hc]
    have f := tz_fail r1 (n := 3) (by decide) (w := t 3 3) hp0
    have e10 : u 59 10 = t 3 3 := h.1.2.1.symm
    rw [e10]
    refine .inl ⟨?_, rfl, ?_⟩
    · rw [dd_take' (by show tp_fail (rd_colourN 2 t 0).1 3 (t 3 3) 3 4 ≠ 0; exact f.1) (by decide)]
      exact f.1
    · rw [dd_take' (by show tp_fail (rd_colourN 2 t 0).1 3 (t 3 3) 3 4 ≠ 0; exact f.1) (by decide)]
      exact f.2
theorem tz_bit : ∀ (b : Fin 16) (q : Fin 4), (hz_ishr (b.val : Int) (q.val : Int) = 0 ↔ (b.val : Int) < 2 ^ q.val) ∧ ((b.val : Int) < 2 ^ q.val → hz_ior (b.val : Int) (hz_ishl 1 (q.val : Int)) = (b.val : Int) + 2 ^ q.val) := by
  decide
/-- the quarters told so far, and the last of them -/
def tz_l (b l : Int) : Prop := (l = -1 ∧ b = 0) ∨ (l = 0 ∧ b = 1) ∨ (l = 1 ∧ 2 ≤ b ∧ b ≤ 3) ∨ (l = 2 ∧ 4 ≤ b ∧ b ≤ 7) ∨ (l = 3 ∧ 8 ≤ b ∧ b ≤ 15)
theorem tz_l_s {b l q : Int} (h : tz_l b l) (hq : 0 ≤ q ∧ q < 4) : (hz_ishr b q = 0 ↔ l < q) ∧ (l < q → tz_l (hz_ior b (hz_ishl 1 q)) q) := by
  have hb : 0 ≤ b ∧ b < 16 := by
    unfold tz_l at h
    omega
  obtain ⟨x1, x2⟩ := tz_bit ⟨b.toNat, by omega⟩ ⟨q.toNat, by omega⟩
  dsimp only at x1 x2
  rw [show ((b.toNat : Nat) : Int) = b by omega, show ((q.toNat : Nat) : Int) = q by omega] at x1 x2
  have hc : q = 0 ∨ q = 1 ∨ q = 2 ∨ q = 3 := by omega
  have p : ((2 : Int) ^ q.toNat) = if q = 0 then 1 else if q = 1 then 2 else if q = 2 then 4 else 8 := by
    rcases hc with rfl | rfl | rfl | rfl <;> decide
  rw [p] at x1 x2
  unfold tz_l at h
  refine ⟨?_, fun hl => ?_⟩
  · rw [x1]
    rcases hc with rfl | rfl | rfl | rfl <;> simp <;> omega
  · have hlt : b < (if q = 0 then 1 else if q = 1 then 2 else if q = 2 then 4 else 8) := by
      rcases hc with rfl | rfl | rfl | rfl <;> simp <;> omega
    rw [x2 hlt]
    unfold tz_l
    rcases hc with rfl | rfl | rfl | rfl <;> simp <;> omega
theorem tz_qua {k : Nat} : ∀ (n : Nat) {t u : hy_T} {b l : Int}, tz_S t u → u 59 33 = k → t 27 6 = k → tz_l b l → 4 ≤ n + l → tz_Q k 29 81 t u (hy_up (rd_quartersN n t b).1 29 k (rd_quartersN n t b).2) (ml_quaN n u b l)
  | 0, t, u, b, l, h, h33, h27, hl, hn => by
    unfold tz_l at hl
    omega
  | n + 1, t, u, b, l, h, h33, h27, hl, hn => by
    have e := tz_next h
    simp only [rd_quartersN, ml_quaN]
    rw [e]
    by_cases hd : 48 ≤ mp_here u ∧ mp_here u ≤ 51
    · rw [if_pos (show 0 ≤ mp_here u - 48 ∧ mp_here u - 48 < 4 by omega), if_pos hd]
      obtain ⟨x1, x2⟩ := tz_l_s hl (q := mp_here u - 48) (by omega)
      by_cases hq : l < mp_here u - 48
      · rw [if_pos (x1.mpr hq), if_neg (by omega)]
        rcases tz_qua n (tz_step h) (b := hz_ior b (hz_ishl 1 (mp_here u - 48))) (l := mp_here u - 48) h33 h27 (x2 hq) (by omega) with d | ⟨q1, q2, v, q3, q4, q5⟩
        · exact .inl d
        · refine .inr ⟨q1, q2, v, fun r j hr => ?_, fun r j hr => ?_, fun j h10 h12 h13 => ?_⟩
          · rw [q3 r j hr]
            unfold tp_step
            rw [hy_up_ne (by omega)]
          · rw [q4 r j hr]
            unfold mp_st
            rw [hy_up_ne (by omega)]
          · rw [q5 j h10 h12 h13]
            unfold mp_st
            simp only [hy_up, true_and]
            rw [if_neg h10]
      · rw [if_neg (fun c => hq (x1.mp c)), if_pos (by omega)]
        have := tz_fail' h (n := 6) (by decide)
        exact .inl ⟨this.1, rfl, this.2⟩
    · rw [if_neg (show ¬ (0 ≤ mp_here u - 48 ∧ mp_here u - 48 < 4) by omega), if_neg hd]
      unfold rd_quartersE ml_quaE
      dsimp only
      rw [h33, Int.toNat_natCast]
      have hb : 0 ≤ b := by
        unfold tz_l at hl
        omega
      by_cases h0 : b = 0
      · rw [if_pos h0, if_neg (by omega)]
        have := tz_fail' h (n := 1) (by decide)
        exact .inl ⟨this.1, rfl, this.2⟩
      · rw [if_neg h0, if_pos (by omega)]
        refine .inr ⟨rfl, tz_of h (fun _ => rfl) (fun _ => rfl) rfl rfl (fun _ => rfl), b, fun r j hr => rfl, fun r j hr => rfl, fun j h10 h12 h13 => ?_⟩
        show hy_up u 81 k b 59 j = u 59 j
        rw [hy_up_ne (by decide)]
theorem tz_emp {t u : hy_T} {k : Nat} {a : Int} (h : tz_S t u) : ((rd_empire t a).1 3 4 ≠ 0 ∧ (ml_emp u a).1 = false ∧ (ml_emp u a).2 59 12 = (rd_empire t a).1 3 4) ∨ ((ml_emp u a).1 = true ∧ tz_S (rd_empire t a).1 (ml_emp u a).2 ∧ (ml_emp u a).2 59 13 = (rd_empire t a).2 ∧ (∀ r j, r ≠ 3 → (rd_empire t a).1 r j = t r j) ∧ (∀ r j, r ≠ 59 → (ml_emp u a).2 r j = u r j) ∧ ∀ j, j ≠ 10 → j ≠ 12 → j ≠ 13 → (ml_emp u a).2 59 j = u 59 j) := by
  have e := tz_next h
  unfold rd_empire ml_emp mp_dig
  dsimp only
  rw [e]
  by_cases hd : 48 ≤ mp_here u ∧ mp_here u ≤ 57
  · rw [if_pos hd, if_pos (decide_eq_true hd)]
    have h2 : tz_S t (hy_up u 59 13 (mp_here u - 48)) := tz_of h (fun _ => rfl) (fun _ => rfl) rfl rfl (fun _ => rfl)
    by_cases h6 : mp_here u - 48 < 6
    · rw [if_pos (show 0 ≤ mp_here u - 48 ∧ mp_here u - 48 < 6 by omega), if_pos h6]
      by_cases ha : mp_here u - 48 = a
      · rw [if_pos ha, if_pos ha]
        have := tz_fail' h2 (n := 6) (by decide)
        exact .inl ⟨this.1, rfl, this.2⟩
      · rw [if_neg ha, if_neg ha]
        refine .inr ⟨rfl, tz_step h2, rfl, fun r j hr => ?_, fun r j hr => ?_, fun j h10 h12 h13 => ?_⟩
        · unfold tp_step
          rw [hy_up_ne (by omega)]
        · show mp_st (hy_up u 59 13 (mp_here u - 48)) r j = u r j
          unfold mp_st
          rw [hy_up_ne (by omega), hy_up_ne (by omega)]
        · show mp_st (hy_up u 59 13 (mp_here u - 48)) 59 j = u 59 j
          unfold mp_st
          simp only [hy_up, true_and]
          rw [if_neg h10, if_neg h13]
    · rw [if_neg (show ¬ (0 ≤ mp_here u - 48 ∧ mp_here u - 48 < 6) by omega), if_neg h6]
      have := tz_fail' h2 (n := 3) (by decide)
      exact .inl ⟨this.1, rfl, this.2⟩
  · rw [if_neg hd, if_neg (by simpa using hd)]
    have := tz_fail' h (n := 1) (by decide)
    exact .inl ⟨this.1, rfl, this.2⟩
theorem dz_g3 {t : hy_T} (h : t 3 4 ≠ 0) : rd_g3 t 3 4 = t 3 4 := by
  have e : rd_quarters t = rd_quartersE t 0 := by
    unfold rd_quarters
    simp only [rd_quartersN]
    rw [dd_next h, if_neg (by decide)]
  unfold rd_g3
  rw [hy_up_ne (by decide), e]
  unfold rd_quartersE
  dsimp only
  rw [if_pos rfl, dd_fail h]
theorem dz_g4 {t : hy_T} (h : t 3 4 ≠ 0) : rd_g4 t 3 4 = t 3 4 := by
  unfold rd_g4
  rw [hy_up_ne (by decide)]
  unfold rd_sign
  rw [dd_next h, if_neg (by decide)]
  show tp_fail t 1 (t 3 3) 3 4 = _
  rw [dd_fail h]
theorem dz_emp {t : hy_T} (h : t 3 4 ≠ 0) (a : Int) : (rd_empire t a).1 3 4 = t 3 4 := by
  unfold rd_empire
  dsimp only
  rw [dd_next h, if_neg (by decide), dd_fail h]
theorem dz_g5 {t : hy_T} (h : t 3 4 ≠ 0) : rd_g5 t 3 4 = t 3 4 := by
  unfold rd_g5
  rw [hy_up_ne (by decide)]
  exact dz_emp h _
theorem dz_g6 {t : hy_T} (h : t 3 4 ≠ 0) : rd_g6 t 3 4 = t 3 4 := by
  unfold rd_g6
  rw [hy_up_ne (by decide), hy_up_ne (by decide)]
  exact dz_emp h _
/-- a line that is read, on both sides -/
def tz_r (t u : hy_T) (i : Nat) : Prop := (t 28 i = u 80 i ∧ t 29 i = u 81 i) ∧ (t 31 i = u 82 i ∧ t 32 i = u 83 i) ∧ u 84 i = if t 30 i = 43 then 1 else 0
def tz_V (t u : hy_T) (k : Nat) : Prop := tz_S t u ∧ (t 27 6 = k ∧ u 59 33 = k) ∧ ∀ i, i < k → tz_r t u i
theorem tz_line {t u : hy_T} {k : Nat} (h : tz_V t u k) (hk : k ≤ 8) : (rd_line t 3 4 ≠ 0 ∧ (ml_line u).1 = false ∧ (ml_line u).2 59 12 = rd_line t 3 4) ∨ ((ml_line u).1 = true ∧ tz_V (rd_line t) (ml_line u).2 (k + 1) ∧ k + 1 ≤ 8) := by
  obtain ⟨hS, ⟨h1, h2⟩, h3⟩ := h
  have e := tz_next hS
  unfold rd_line ml_line mp_dig
  rw [e]
  by_cases hd : 48 ≤ mp_here u ∧ mp_here u ≤ 57
  · rw [if_pos hd, if_pos (decide_eq_true hd)]
    by_cases h8 : k < 8
    · rw [if_pos (by omega), if_neg (show ¬ u 59 33 = 8 by omega)]
      rcases tz_col hS h1 h2 with ⟨d1, d2, d3⟩ | ⟨c1, c2, v, c3, c4, c5⟩
      · have x3 := dz_g3 d1
        have x4 := dz_g4 (t := rd_g3 (rd_g2 t)) (by rw [x3]; exact d1)
        have x5 := dz_g5 (t := rd_g4 (rd_g3 (rd_g2 t))) (by rw [x4, x3]; exact d1)
        have x6 := dz_g6 (t := rd_g5 (rd_g4 (rd_g3 (rd_g2 t)))) (by rw [x5, x4, x3]; exact d1)
        rw [d2, if_neg Bool.false_ne_true]
        refine .inl ⟨by rw [x6, x5, x4, x3]; exact d1, rfl, by rw [x6, x5, x4, x3]; exact d3⟩
      · rw [c1, if_pos rfl]
        have k1 : rd_g2 t 27 6 = k := by rw [c3 27 6 (by decide), if_neg (by omega)]; exact h1
        have k2 : (ml_col u).2 59 33 = k := (c5 33 (by decide) (by decide) (by decide)).trans h2
        have eg3 : rd_g3 (rd_g2 t) = hy_up (rd_quartersN 5 (rd_g2 t) 0).1 29 k (rd_quartersN 5 (rd_g2 t) 0).2 := by
          unfold rd_g3 rd_quarters
          rw [k1, Int.toNat_natCast]
        have eqm : ml_qua (ml_col u).2 = ml_quaN 5 (ml_col u).2 0 (-1) := rfl
        have Q := tz_qua (k := k) 5 (b := 0) (l := -1) c2 k2 k1 (.inl ⟨rfl, rfl⟩) (by decide)
        rw [← eg3, ← eqm] at Q
        rcases Q with ⟨d1, d2, d3⟩ | ⟨q1, q2, v2, q3, q4, q5⟩
        · have x4 := dz_g4 d1
          have x5 := dz_g5 (t := rd_g4 (rd_g3 (rd_g2 t))) (by rw [x4]; exact d1)
          have x6 := dz_g6 (t := rd_g5 (rd_g4 (rd_g3 (rd_g2 t)))) (by rw [x5, x4]; exact d1)
          rw [d2, if_neg Bool.false_ne_true]
          refine .inl ⟨by rw [x6, x5, x4]; exact d1, rfl, by rw [x6, x5, x4]; exact d3⟩
        · rw [q1, if_pos rfl]
          have e4 := tz_next q2
          have k3 : rd_g3 (rd_g2 t) 27 6 = k := by rw [q3 27 6 (by decide), if_neg (by omega)]; exact k1
          have k4 : (ml_qua (ml_col u).2).2 59 33 = k := (q5 33 (by decide) (by decide) (by decide)).trans k2
          -- from here on: T, U
          have hT : ∀ r j, r ≠ 3 → r ≠ 28 → r ≠ 29 → rd_g3 (rd_g2 t) r j = t r j := fun r j a1 a2 a3 => by
            rw [q3 r j a1, if_neg (fun c => a3 c.1), c3 r j a1, if_neg (fun c => a2 c.1)]
          have hT28 : ∀ j, rd_g3 (rd_g2 t) 28 j = if j = k then v else t 28 j := fun j => by
            rw [q3 28 j (by decide), if_neg (by omega), c3 28 j (by decide)]
            simp
          have hT29 : ∀ j, rd_g3 (rd_g2 t) 29 j = if j = k then v2 else t 29 j := fun j => by
            rw [q3 29 j (by decide), c3 29 j (by decide)]
            simp
          have hU : ∀ r j, r ≠ 59 → r ≠ 80 → r ≠ 81 → (ml_qua (ml_col u).2).2 r j = u r j := fun r j a1 a2 a3 => by
            rw [q4 r j a1, if_neg (fun c => a3 c.1), c4 r j a1, if_neg (fun c => a2 c.1)]
          have hU80 : ∀ j, (ml_qua (ml_col u).2).2 80 j = if j = k then v else u 80 j := fun j => by
            rw [q4 80 j (by decide), if_neg (by omega), c4 80 j (by decide)]
            simp
          have hU81 : ∀ j, (ml_qua (ml_col u).2).2 81 j = if j = k then v2 else u 81 j := fun j => by
            rw [q4 81 j (by decide), c4 81 j (by decide)]
            simp
          revert q2 e4 k3 k4 hT hT28 hT29 hU hU80 hU81
          generalize rd_g3 (rd_g2 t) = T
          generalize (ml_qua (ml_col u).2).2 = U
          clear q3 q4 q5 q1 eg3 eqm c1 c2 c3 c4 c5 k1 k2
          intro q2 e4 k3 k4 hT hT28 hT29 hU hU80 hU81
          unfold ml_tail
          by_cases hs : mp_here U = 62 ∨ mp_here U = 43
          · rw [if_pos hs]
            have eg4 : rd_g4 T = hy_up (tp_step T) 30 k (mp_here U) := by
              unfold rd_g4 rd_sign
              rw [e4, if_pos hs, k3, Int.toNat_natCast]
            have esg : ml_sgn U = mp_st (hy_up U 84 k (if mp_here U = 43 then 1 else 0)) := by
              unfold ml_sgn
              rw [k4, Int.toNat_natCast]
            have s4 : tz_S (rd_g4 T) (ml_sgn U) := by
              rw [eg4, esg]
              exact tz_of (tz_step q2) (fun _ => rfl) (fun _ => rfl) rfl rfl (fun _ => rfl)
            have g4k : rd_g4 T 27 6 = k := by rw [eg4]; exact k3
            have s4k : ml_sgn U 59 33 = k := by rw [esg]; exact k4
            have eg5 : rd_g5 (rd_g4 T) = hy_up (rd_empire (rd_g4 T) (-1)).1 31 k (rd_empire (rd_g4 T) (-1)).2 := by
              unfold rd_g5
              rw [g4k, Int.toNat_natCast]
            unfold ml_two
            rcases tz_emp (k := k) (a := -1) s4 with ⟨d1, d2, d3⟩ | ⟨m1, m2, m3, m4, m5, m6⟩
            · have y5 : rd_g5 (rd_g4 T) 3 4 = (rd_empire (rd_g4 T) (-1)).1 3 4 := by rw [eg5, hy_up_ne (by decide)]
              have x6 := dz_g6 (t := rd_g5 (rd_g4 T)) (by rw [y5]; exact d1)
              rw [d2, if_neg Bool.false_ne_true]
              exact .inl ⟨by rw [x6, y5]; exact d1, rfl, by rw [x6, y5]; exact d3⟩
            · rw [m1, if_pos rfl]
              have s5 : tz_S (rd_g5 (rd_g4 T)) (ml_from (ml_emp (ml_sgn U) (-1)).2) := by
                rw [eg5]
                exact tz_of m2 (fun j => by rw [hy_up_ne (by decide)]) (fun j => by rw [hy_up_ne (by decide)]) (by unfold ml_from; rw [hy_up_ne (by decide)]) (by unfold ml_from; rw [hy_up_ne (by decide)]) (fun j => by unfold ml_from; rw [hy_up_ne (by decide)])
              have g5k : rd_g5 (rd_g4 T) 27 6 = k := by
                rw [eg5, hy_up_ne (by decide), m4 27 6 (by decide)]
                exact g4k
              have f5k : (ml_emp (ml_sgn U) (-1)).2 59 33 = k := (m6 33 (by decide) (by decide) (by decide)).trans s4k
              have efr : ml_from (ml_emp (ml_sgn U) (-1)).2 = hy_up (ml_emp (ml_sgn U) (-1)).2 82 k ((ml_emp (ml_sgn U) (-1)).2 59 13) := by
                unfold ml_from
                rw [f5k, Int.toNat_natCast]
              have v31 : rd_g5 (rd_g4 T) 31 k = (rd_empire (rd_g4 T) (-1)).2 := by
                rw [eg5]
                simp [hy_up]
              have eg6 : rd_g6 (rd_g5 (rd_g4 T)) = hy_up (hy_up (rd_empire (rd_g5 (rd_g4 T)) ((rd_empire (rd_g4 T) (-1)).2)).1 32 k (rd_empire (rd_g5 (rd_g4 T)) ((rd_empire (rd_g4 T) (-1)).2)).2) 27 6 (k + 1) := by
                unfold rd_g6
                rw [g5k, Int.toNat_natCast, v31]
              rw [m3]
              rcases tz_emp (k := k) (a := (rd_empire (rd_g4 T) (-1)).2) s5 with ⟨d1, d2, d3⟩ | ⟨n1, n2, n3, n4, n5, n6⟩
              · have y6 : rd_g6 (rd_g5 (rd_g4 T)) 3 4 = (rd_empire (rd_g5 (rd_g4 T)) ((rd_empire (rd_g4 T) (-1)).2)).1 3 4 := by rw [eg6, hy_up_ne (by decide), hy_up_ne (by decide)]
                rw [d2, if_neg Bool.false_ne_true]
                exact .inl ⟨by rw [y6]; exact d1, rfl, by rw [y6]; exact d3⟩
              · rw [n1, if_pos rfl]
                have e5k : (ml_emp (ml_from (ml_emp (ml_sgn U) (-1)).2) (rd_empire (rd_g4 T) (-1)).2).2 59 33 = k := by
                  rw [n6 33 (by decide) (by decide) (by decide), efr, hy_up_ne (by decide)]
                  exact f5k
                have een : ml_end (ml_emp (ml_from (ml_emp (ml_sgn U) (-1)).2) (rd_empire (rd_g4 T) (-1)).2).2 = hy_up (hy_up (ml_emp (ml_from (ml_emp (ml_sgn U) (-1)).2) (rd_empire (rd_g4 T) (-1)).2).2 83 k (rd_empire (rd_g5 (rd_g4 T)) ((rd_empire (rd_g4 T) (-1)).2)).2) 59 33 (k + 1) := by
                  unfold ml_end
                  rw [e5k, Int.toNat_natCast, n3]
                refine .inr ⟨rfl, ⟨?_, ⟨?_, ?_⟩, fun i hi => ?_⟩, h8⟩
                · rw [eg6, een]
                  dsimp only
                  exact tz_of n2 (fun j => by rw [hy_up_ne (by decide), hy_up_ne (by decide)]) (fun j => by rw [hy_up_ne (by decide), hy_up_ne (by decide)]) (by simp [hy_up]) (by simp [hy_up]) (fun j => by rw [hy_up_ne (by decide), hy_up_ne (by decide)])
                · rw [eg6]
                  simp [hy_up]
                · rw [een]
                  simp [hy_up]
                · have A : ∀ r j, r ≠ 3 → r ≠ 27 → r ≠ 32 → r ≠ 31 → r ≠ 30 → rd_g6 (rd_g5 (rd_g4 T)) r j = T r j := fun r j b1 b2 b3 b4 b5 => by
                    rw [eg6, hy_up_ne (by omega), hy_up_ne (by omega), n4 r j b1, eg5, hy_up_ne (by omega), m4 r j b1, eg4, hy_up_ne (by omega)]
                    unfold tp_step
                    rw [hy_up_ne (by omega)]
                  have A30 : ∀ j, rd_g6 (rd_g5 (rd_g4 T)) 30 j = if j = k then mp_here U else T 30 j := fun j => by
                    rw [eg6, hy_up_ne (by decide), hy_up_ne (by decide), n4 30 j (by decide), eg5, hy_up_ne (by decide), m4 30 j (by decide), eg4]
                    simp only [hy_up, true_and]
                    rfl
                  have A31 : ∀ j, rd_g6 (rd_g5 (rd_g4 T)) 31 j = if j = k then (rd_empire (rd_g4 T) (-1)).2 else T 31 j := fun j => by
                    rw [eg6, hy_up_ne (by decide), hy_up_ne (by decide), n4 31 j (by decide), eg5]
                    simp only [hy_up, true_and]
                    rw [m4 31 j (by decide), eg4, hy_up_ne (by decide)]
                    rfl
                  have A32 : ∀ j, rd_g6 (rd_g5 (rd_g4 T)) 32 j = if j = k then (rd_empire (rd_g5 (rd_g4 T)) ((rd_empire (rd_g4 T) (-1)).2)).2 else T 32 j := fun j => by
                    rw [eg6, hy_up_ne (by decide)]
                    simp only [hy_up, true_and]
                    rw [n4 32 j (by decide), eg5, hy_up_ne (by decide), m4 32 j (by decide), eg4, hy_up_ne (by decide)]
                    rfl
                  have C : ∀ r j, r ≠ 59 → r ≠ 82 → r ≠ 83 → r ≠ 84 → ml_end (ml_emp (ml_from (ml_emp (ml_sgn U) (-1)).2) (rd_empire (rd_g4 T) (-1)).2).2 r j = U r j := fun r j b1 b2 b3 b4 => by
                    rw [een, hy_up_ne (by omega), hy_up_ne (by omega), n5 r j b1, efr, hy_up_ne (by omega), m5 r j b1, esg]
                    unfold mp_st
                    rw [hy_up_ne (by omega), hy_up_ne (by omega)]
                  have C84 : ∀ j, ml_end (ml_emp (ml_from (ml_emp (ml_sgn U) (-1)).2) (rd_empire (rd_g4 T) (-1)).2).2 84 j = if j = k then (if mp_here U = 43 then 1 else 0) else U 84 j := fun j => by
                    rw [een, hy_up_ne (by decide), hy_up_ne (by decide), n5 84 j (by decide), efr, hy_up_ne (by decide), m5 84 j (by decide), esg]
                    unfold mp_st
                    rw [hy_up_ne (by decide)]
                    simp only [hy_up, true_and]
                  have C82 : ∀ j, ml_end (ml_emp (ml_from (ml_emp (ml_sgn U) (-1)).2) (rd_empire (rd_g4 T) (-1)).2).2 82 j = if j = k then (rd_empire (rd_g4 T) (-1)).2 else U 82 j := fun j => by
                    rw [een, hy_up_ne (by decide), hy_up_ne (by decide), n5 82 j (by decide), efr, m3]
                    simp only [hy_up, true_and]
                    rw [m5 82 j (by decide), esg]
                    unfold mp_st
                    rw [hy_up_ne (by decide), hy_up_ne (by decide)]
                  have C83 : ∀ j, ml_end (ml_emp (ml_from (ml_emp (ml_sgn U) (-1)).2) (rd_empire (rd_g4 T) (-1)).2).2 83 j = if j = k then (rd_empire (rd_g5 (rd_g4 T)) ((rd_empire (rd_g4 T) (-1)).2)).2 else U 83 j := fun j => by
                    rw [een, hy_up_ne (by decide)]
                    simp only [hy_up, true_and]
                    rw [n5 83 j (by decide), efr, hy_up_ne (by decide), m5 83 j (by decide), esg]
                    unfold mp_st
                    rw [hy_up_ne (by decide), hy_up_ne (by decide)]
                  unfold tz_r
                  dsimp only
                  rw [A 28 i (by decide) (by decide) (by decide) (by decide) (by decide), A 29 i (by decide) (by decide) (by decide) (by decide) (by decide), A30, A31, A32, C 80 i (by decide) (by decide) (by decide) (by decide), C 81 i (by decide) (by decide) (by decide) (by decide), C84, C82, C83, hT28, hT29, hU80, hU81]
                  by_cases hik : i = k
                  · simp only [if_pos hik]
                    exact ⟨⟨trivial, trivial⟩, ⟨trivial, trivial⟩, trivial⟩
                  · simp only [if_neg hik]
                    rw [hT 30 i (by decide) (by decide) (by decide), hT 31 i (by decide) (by decide) (by decide), hT 32 i (by decide) (by decide) (by decide), hU 84 i (by decide) (by decide) (by decide), hU 82 i (by decide) (by decide) (by decide), hU 83 i (by decide) (by decide) (by decide)]
                    exact h3 i (by omega)
          · rw [if_neg hs]
            have eg4 : rd_g4 T 3 4 = tp_fail T 1 (T 3 3) 3 4 := by
              unfold rd_g4 rd_sign
              rw [e4, if_neg hs, hy_up_ne (by decide)]
            have f := tz_fail' q2 (n := 1) (by decide)
            have x5 := dz_g5 (t := rd_g4 T) (by rw [eg4]; exact f.1)
            have x6 := dz_g6 (t := rd_g5 (rd_g4 T)) (by rw [x5, eg4]; exact f.1)
            exact .inl ⟨by rw [x6, x5, eg4]; exact f.1, rfl, by rw [x6, x5, eg4]; exact f.2⟩
    · rw [if_neg (by omega), if_pos (show u 59 33 = 8 by omega)]
      have := tz_fail' hS (n := 4) (by decide)
      exact .inl ⟨this.1, rfl, this.2⟩
  · rw [if_neg hd, if_neg (by simpa using hd)]
    have := tz_fail' hS (n := 1) (by decide)
    exact .inl ⟨this.1, rfl, this.2⟩
/-! lines, and treaties that are made -/
theorem tz_live {t u : hy_T} (h : tz_S t u) : (t 3 3 < t 3 2 ↔ 0 ≤ mp_here u) ∧ (u 59 10 < u 59 11 ↔ 0 ≤ mp_here u) := by
  obtain ⟨⟨a1, a2, a3⟩, ⟨a4, a5⟩, a6⟩ := h
  have := hz_iand_le (x := u 65 (u 59 10).toNat) (m := 255) (by decide)
  unfold mp_here
  by_cases hq : u 59 10 < u 59 11
  · rw [if_pos hq]
    omega
  · rw [if_neg hq]
    omega
theorem tz_linesN : ∀ (N M : Nat) {t : hy_T} {p : Bool × hy_T} {k : Nat}, p.1 = true → tz_V t p.2 k → N + k = 9 → k ≤ 8 → 10 ≤ M + k →
    (tp_finish (rd_linesN N t) 3 4 ≠ 0 ∧ (ml_linesN M p).1 = false ∧ (ml_linesN M p).2 59 12 = tp_finish (rd_linesN N t) 3 4) ∨ ((ml_linesN M p).1 = true ∧ ∃ k', tz_V (tp_finish (rd_linesN N t)) (ml_linesN M p).2 k' ∧ k' ≤ 8)
  | 0, M, t, p, k, hp, h, hN, hk, hM => by omega
  | N + 1, 0, t, p, k, hp, h, hN, hk, hM => by omega
  | N + 1, M + 1, t, p, k, hp, h, hN, hk, hM => by
    obtain ⟨hS, ⟨h1, h2⟩, h3⟩ := id h
    have e := tz_next hS
    obtain ⟨l1, l2⟩ := tz_live hS
    simp only [rd_linesN, ml_linesN]
    rw [e]
    by_cases h44 : mp_here p.2 = 44
    · rw [if_pos h44, if_pos ⟨hp, l2.mpr (by omega)⟩]
      have et : mp_take p.2 44 = (true, mp_st p.2) := by
        unfold mp_take
        rw [if_pos h44]
      rw [et, if_pos rfl]
      have hV : tz_V (tp_step t) (mp_st p.2) k := ⟨tz_step hS, ⟨h1, h2⟩, h3⟩
      rcases tz_line hV hk with ⟨d1, d2, d3⟩ | ⟨c1, c2, c3⟩
      · have ed : rd_linesN N (rd_line (tp_step t)) = rd_line (tp_step t) := by
          cases N with
          | zero => rfl
          | succ N =>
            simp only [rd_linesN]
            rw [dd_next d1, if_neg (by decide)]
        have em : ml_linesN M (ml_line (mp_st p.2)) = ml_line (mp_st p.2) := by
          cases M with
          | zero => rfl
          | succ M =>
            simp only [ml_linesN]
            rw [d2, if_neg (fun c => Bool.false_ne_true c.1)]
        have ef : tp_finish (rd_line (tp_step t)) 3 4 = rd_line (tp_step t) 3 4 := by
          unfold tp_finish
          split
          · rw [dd_fail d1]
          · rfl
        rw [ed, em, ef]
        exact .inl ⟨d1, d2, d3⟩
      · exact tz_linesN N M c1 c2 (by omega) c3 (by omega)
    · rw [if_neg h44]
      by_cases hl : 0 ≤ mp_here p.2
      · rw [if_pos ⟨hp, l2.mpr hl⟩]
        have et : mp_take p.2 44 = (false, mp_wr p.2 1 (p.2 59 10)) := by
          unfold mp_take
          rw [if_neg h44]
        have ef : tp_finish t = tp_fail t 1 (t 3 3) := by
          unfold tp_finish
          rw [if_pos (l1.mpr hl)]
        have f := tz_fail' hS (n := 1) (by decide)
        rw [et, if_neg Bool.false_ne_true, ef]
        have em : ml_linesN M (false, mp_wr p.2 1 (p.2 59 10)) = (false, mp_wr p.2 1 (p.2 59 10)) := by
          cases M with
          | zero => rfl
          | succ M =>
            simp only [ml_linesN]
            rw [if_neg (fun c => Bool.false_ne_true c.1)]
        rw [em]
        exact .inl ⟨f.1, rfl, f.2⟩
      · rw [if_neg (fun c => hl (l2.mp c.2))]
        have ef : tp_finish t = t := by
          unfold tp_finish
          rw [if_neg (fun c => hl (l1.mp c))]
        rw [ef]
        exact .inr ⟨hp, k, h, hk⟩
/-- a text of lines -/
theorem tz_lines {t u : hy_T} {n : Int} (hl : t 3 1 = u 59 9) (hl2 : t 3 1 ≤ 260) (hby : ∀ j : Nat, j < 260 → t 4 j = hz_iand (u 65 j) 255) (hn : 1 ≤ n ∧ n ≤ 120 ∧ n ≤ t 3 1) :
    (rd_lines t n 3 4 ≠ 0 ∧ (ml_lines u n).1 = false ∧ (ml_lines u n).2 59 12 = rd_lines t n 3 4) ∨ (rd_lines t n 3 4 = 0 ∧ (ml_lines u n).1 = true ∧ ∃ k : Nat, k ≤ 8 ∧ (rd_lines t n 27 6 = k ∧ (ml_lines u n).2 59 33 = k) ∧ ∀ i, i < k → tz_r (rd_lines t n) (ml_lines u n).2 i) := by
  have e32 : hy_up (tp_start t n) 27 6 0 3 2 = n := by
    show (if t 3 1 < n then t 3 1 else n) = n
    rw [if_neg (by omega)]
  have S0 : tz_S (hy_up (tp_start t n) 27 6 0) (hy_up (hy_up (hy_up u 59 10 0) 59 11 n) 59 33 0) := ⟨⟨rfl, rfl, e32⟩, ⟨Int.le_refl 0, by rw [e32]; omega⟩, hby⟩
  have V0 : tz_V (hy_up (tp_start t n) 27 6 0) (hy_up (hy_up (hy_up u 59 10 0) 59 11 n) 59 33 0) 0 := ⟨S0, ⟨rfl, rfl⟩, fun i hi => absurd hi (Nat.not_lt_zero i)⟩
  unfold rd_lines ml_lines
  have fin : ∀ (T : hy_T) (p : Bool × hy_T), ((T 3 4 ≠ 0 ∧ p.1 = false ∧ p.2 59 12 = T 3 4) ∨ (p.1 = true ∧ ∃ k', tz_V T p.2 k' ∧ k' ≤ 8)) → (T 3 4 ≠ 0 ∧ (p.1, hy_up p.2 59 9 0).1 = false ∧ (p.1, hy_up p.2 59 9 0).2 59 12 = T 3 4) ∨ (T 3 4 = 0 ∧ (p.1, hy_up p.2 59 9 0).1 = true ∧ ∃ k : Nat, k ≤ 8 ∧ (T 27 6 = k ∧ (p.1, hy_up p.2 59 9 0).2 59 33 = k) ∧ ∀ i, i < k → tz_r T (p.1, hy_up p.2 59 9 0).2 i) := fun T p h => by
    rcases h with ⟨d1, d2, d3⟩ | ⟨c1, k', ⟨c2, c3, c4⟩, c5⟩
    · exact .inl ⟨d1, d2, d3⟩
    · exact .inr ⟨c2.1.1, c1, k', c5, c3, fun i hi => c4 i hi⟩
  rcases tz_line V0 (by decide) with ⟨d1, d2, d3⟩ | ⟨c1, c2, c3⟩
  · have ed : rd_linesN 8 (rd_line (hy_up (tp_start t n) 27 6 0)) = rd_line (hy_up (tp_start t n) 27 6 0) := by
      show (if tp_next (rd_line (hy_up (tp_start t n) 27 6 0)) = 44 then _ else rd_line (hy_up (tp_start t n) 27 6 0)) = _
      rw [dd_next d1, if_neg (by decide)]
    have em : ml_linesN 261 (ml_line (hy_up (hy_up (hy_up u 59 10 0) 59 11 n) 59 33 0)) = ml_line (hy_up (hy_up (hy_up u 59 10 0) 59 11 n) 59 33 0) := by
      show (if (ml_line (hy_up (hy_up (hy_up u 59 10 0) 59 11 n) 59 33 0)).1 = true ∧ _ then _ else ml_line (hy_up (hy_up (hy_up u 59 10 0) 59 11 n) 59 33 0)) = _
      rw [if_neg (fun c => by rw [d2] at c; exact Bool.false_ne_true c.1)]
    have ef : tp_finish (rd_line (hy_up (tp_start t n) 27 6 0)) 3 4 = rd_line (hy_up (tp_start t n) 27 6 0) 3 4 := by
      unfold tp_finish
      split
      · rw [dd_fail d1]
      · rfl
    rw [ed, em]
    exact fin _ _ (.inl ⟨by rw [ef]; exact d1, d2, by rw [ef]; exact d3⟩)
  · exact fin _ _ (tz_linesN 8 261 c1 c2 rfl c3 (by decide))
/-! what empires have -/
theorem bt_key {X a b : Int32} (h : b &&& a = b) : (X &&& a) ||| b = (X ||| b) &&& a := by
  apply Int32.toBitVec_inj.mp
  apply BitVec.eq_of_getLsbD_eq
  intro i hi
  have h2 := congrArg (fun z : Int32 => z.toBitVec.getLsbD i) h
  simp only [Int32.toBitVec_and, Int32.toBitVec_or, BitVec.getLsbD_and, BitVec.getLsbD_or] at h2 ⊢
  revert h2
  cases X.toBitVec.getLsbD i <;> cases a.toBitVec.getLsbD i <;> cases b.toBitVec.getLsbD i <;> simp
theorem bt_f : ∀ g o : Fin 6, g ≠ o → hz_iand (hz_ishl 1 (o.val : Int)) (hz_ixor (hz_ishl 1 (g.val : Int)) (-1)) = hz_ishl 1 (o.val : Int) := by decide
theorem bt_swap {x g o : Int} (hg : 0 ≤ g ∧ g < 6) (ho : 0 ≤ o ∧ o < 6) (hne : g ≠ o) : hz_ior (hz_iand x (hz_ixor (hz_ishl 1 g) (-1))) (hz_ishl 1 o) = hz_iand (hz_ior x (hz_ishl 1 o)) (hz_ixor (hz_ishl 1 g) (-1)) := by
  have h := bt_f ⟨g.toNat, by omega⟩ ⟨o.toNat, by omega⟩ (fun c => hne (by have := congrArg Fin.val c; dsimp only at this; omega))
  dsimp only at h
  rw [show ((g.toNat : Nat) : Int) = g by omega, show ((o.toNat : Nat) : Int) = o by omega] at h
  revert h
  generalize hz_ixor (hz_ishl 1 g) (-1) = A
  generalize hz_ishl 1 o = B
  intro h
  have h2 : Int32.ofInt B &&& Int32.ofInt A = Int32.ofInt B := by
    have := congrArg Int32.ofInt h
    unfold hz_iand at this
    rw [Int32.ofInt_toInt] at this
    exact this
  unfold hz_ior hz_iand
  simp only [Int32.ofInt_toInt]
  rw [bt_key h2]
/-- which havers a change of quarters from c on touches -/
abbrev fs_in (c w : Int) (n : Nat) (j : Nat) : Prop := (4 * c ≤ j ∧ (j : Int) < 4 * c + n) ∧ hz_b w ((j : Int) - 4 * c) = true
theorem fs_in_succ {c w : Int} {n j : Nat} : fs_in c w (n + 1) j ↔ fs_in c w n j ∨ ((j : Int) = 4 * c + n ∧ hz_b w n = true) := by
  constructor
  · rintro ⟨⟨a, b⟩, d⟩
    by_cases hj : (j : Int) = 4 * c + n
    · refine .inr ⟨hj, ?_⟩
      rw [show (j : Int) - 4 * c = n by omega] at d
      exact d
    · exact .inl ⟨⟨a, by omega⟩, d⟩
  · rintro (⟨⟨a, b⟩, d⟩ | ⟨a, b⟩)
    · exact ⟨⟨a, by omega⟩, d⟩
    · refine ⟨⟨by omega, by omega⟩, ?_⟩
      rw [show (j : Int) - 4 * c = n by omega]
      exact b
theorem mv_v (b : Nat) (t : hy_T) {c w lo wi : Int} (hc : 0 ≤ c ∧ c < 12) : ∀ n : Nat, n ≤ 4 → ∀ j : Nat, sp_moveN b t c w lo wi n (b + 1) j = if fs_in c w n j then hz_ior (if lo = -1 then t (b + 1) j else hz_iand (t (b + 1) j) (hz_ixor (hz_ishl 1 lo) (-1))) (hz_ishl 1 wi) else t (b + 1) j
  | 0, _, j => by
    rw [if_neg (show ¬ fs_in c w 0 j from fun q => by have := q.1; omega)]
    rfl
  | n + 1, hn, j => by
    have ih := mv_v b t (w := w) (lo := lo) (wi := wi) hc n (by omega)
    simp only [sp_moveN]
    by_cases hb : hz_b w n = true
    · rw [if_pos hb]
      have e : sp_hav (sp_moveN b t c w lo wi n (b + 1)) c n = t (b + 1) (4 * c + n).toNat := by
        have hno : ¬ fs_in c w n (4 * c + n).toNat := fun q => by have := q.1; omega
        unfold sp_hav
        rw [if_pos (by omega), ih, if_neg hno]
      rw [e]
      unfold sp_setH
      rw [if_pos (show (0 ≤ c ∧ c < 12) ∧ 0 ≤ (n : Int) ∧ (n : Int) < 4 by omega)]
      simp only [hy_up, true_and]
      by_cases hj : j = (4 * c + n).toNat
      · have hin : fs_in c w (n + 1) j := fs_in_succ.mpr (.inr ⟨by omega, hb⟩)
        rw [if_pos hj, if_pos hin, hj]
      · rw [if_neg hj, ih j]
        by_cases h2 : fs_in c w n j
        · have hin : fs_in c w (n + 1) j := fs_in_succ.mpr (.inl h2)
          rw [if_pos h2, if_pos hin]
        · have hout : ¬ fs_in c w (n + 1) j := fun q => (fs_in_succ.mp q).elim h2 (fun q2 => hj (by omega))
          rw [if_neg h2, if_neg hout]
    · rw [if_neg hb, ih j]
      by_cases h2 : fs_in c w n j
      · have hin : fs_in c w (n + 1) j := fs_in_succ.mpr (.inl h2)
        rw [if_pos h2, if_pos hin]
      · have hout : ¬ fs_in c w (n + 1) j := fun q => (fs_in_succ.mp q).elim h2 (fun q2 => hb q2.2)
        rw [if_neg h2, if_neg hout]
theorem ch_v (t : hy_T) {c w e s : Int} (hc : 0 ≤ c ∧ c < 12) : ∀ n : Nat, ∀ j : Nat, mf_chN t c w e s n 62 j = if fs_in c w n j then (if s = 0 then hz_iand (t 62 j) (hz_ixor (hz_ishl 1 e) (-1)) else hz_ior (t 62 j) (hz_ishl 1 e)) else t 62 j
  | 0, j => by
    rw [if_neg (show ¬ fs_in c w 0 j from fun q => by have := q.1; omega)]
    rfl
  | n + 1, j => by
    have ih := ch_v t (w := w) (e := e) (s := s) hc n
    simp only [mf_chN]
    by_cases hb : hz_b w n = true
    · rw [if_pos hb]
      unfold mf_ch1
      simp only [hy_up, true_and]
      by_cases hj : j = (4 * c + n).toNat
      · have hin : fs_in c w (n + 1) j := fs_in_succ.mpr (.inr ⟨by omega, hb⟩)
        have hno : ¬ fs_in c w n (4 * c + n).toNat := fun q => by have := q.1; omega
        rw [if_pos hj, if_pos hin, ih, if_neg hno, hj]
      · rw [if_neg hj, ih j]
        by_cases h2 : fs_in c w n j
        · have hin : fs_in c w (n + 1) j := fs_in_succ.mpr (.inl h2)
          rw [if_pos h2, if_pos hin]
        · have hout : ¬ fs_in c w (n + 1) j := fun q => (fs_in_succ.mp q).elim h2 (fun q2 => hj (by omega))
          rw [if_neg h2, if_neg hout]
    · rw [if_neg hb, ih j]
      by_cases h2 : fs_in c w n j
      · have hin : fs_in c w (n + 1) j := fs_in_succ.mpr (.inl h2)
        rw [if_pos h2, if_pos hin]
      · have hout : ¬ fs_in c w (n + 1) j := fun q => (fs_in_succ.mp q).elim h2 (fun q2 => hb q2.2)
        rw [if_neg h2, if_neg hout]
theorem ch_r (t : hy_T) (c w e s : Int) : ∀ n : Nat, ∀ r j, r ≠ 62 → mf_chN t c w e s n r j = t r j
  | 0, r, j, h => rfl
  | n + 1, r, j, h => by
    simp only [mf_chN]
    split
    · unfold mf_ch1
      rw [hy_up_ne (by omega)]
      exact ch_r t c w e s n r j h
    · exact ch_r t c w e s n r j h
/-- what is the same of two states: of the class at b, of the model -/
def fs_S (b : Nat) (t u : hy_T) : Prop := ((t b 3 = u 59 34 ∧ 0 ≤ t b 3 ∧ t b 3 ≤ 16) ∧ t b 4 = u 59 2 ∧ t b 5 = u 59 1) ∧ (∀ j : Nat, j < 48 → t (b + 1) j = u 62 j) ∧ ∀ i w : Nat, (i : Int) < t b 3 → w < 6 → t (b + 3) (6 * i + w) = u (85 + w) i
theorem mk_goN_iff (u : hy_T) (k : Nat) : ∀ n : Nat, mk_goN u k n = true ↔ ∀ q : Nat, q < n → (!hz_b (u 81 k) q || (hz_b (u 62 (4 * u 80 k + q).toNat) (u 82 k) && !hz_b (u 62 (4 * u 80 k + q).toNat) (u 83 k))) = true
  | 0 => ⟨fun _ q h => absurd h (Nat.not_lt_zero q), fun _ => rfl⟩
  | n + 1 => by
    simp only [mk_goN]
    rw [Bool.and_eq_true, mk_goN_iff u k n]
    constructor
    · rintro ⟨h1, h2⟩ q hq
      by_cases hqn : q = n
      · rw [hqn]; exact h2
      · exact h1 q (by omega)
    · exact fun h => ⟨fun q hq => h q (by omega), h n (by omega)⟩
theorem fs_can {b : Nat} {t u : hy_T} {k : Nat} (h : fs_S b t u) (hr : tz_r t u k) (hk : (k : Int) < t 27 6) (hp : ∀ c, wf_plain t c = mf_plain u c) (hw : ml_row u k) : wf_can b t k = mk_can u k := by
  obtain ⟨⟨⟨s1, s2, s3⟩, -⟩, s6, -⟩ := h
  obtain ⟨⟨r1, r2⟩, ⟨r3, r4⟩, -⟩ := hr
  have v28 : ln_v t 28 k = u 80 k := by unfold ln_v; rw [if_pos (by omega), Int.toNat_natCast, r1]
  have v29 : ln_v t 29 k = u 81 k := by unfold ln_v; rw [if_pos (by omega), Int.toNat_natCast, r2]
  have v31 : ln_v t 31 k = u 82 k := by unfold ln_v; rw [if_pos (by omega), Int.toNat_natCast, r3]
  have v32 : ln_v t 32 k = u 83 k := by unfold ln_v; rw [if_pos (by omega), Int.toNat_natCast, r4]
  have hc := hw.1
  unfold wf_can mk_can
  rw [v28, v29, v31, v32, hp]
  have e1 : decide (t b 3 < 16) = decide (u 59 34 ≠ 16) := by
    rw [decide_eq_decide]
    omega
  have e2 : sp_canGo (t (b + 1)) (u 80 k) (u 81 k) (u 82 k) (u 83 k) = mk_goN u k 4 := by
    rw [Bool.eq_iff_iff, mk_goN_iff]
    unfold sp_canGo
    rw [decide_eq_true_eq]
    have e3 : ∀ q : Nat, q < 4 → sp_hav (t (b + 1)) (u 80 k) q = u 62 (4 * u 80 k + q).toNat := fun q hq => by
      unfold sp_hav
      rw [if_pos (by omega)]
      exact s6 _ (by omega)
    constructor
    · intro h q hq
      have := h q hq
      rw [e3 q hq] at this
      revert this
      cases hz_b (u 81 k) q <;> cases hz_b (u 62 (4 * u 80 k + q).toNat) (u 82 k) <;> cases hz_b (u 62 (4 * u 80 k + q).toNat) (u 83 k) <;> simp
    · intro h q hq
      have := h q hq
      rw [e3 q hq]
      revert this
      cases hz_b (u 81 k) q <;> cases hz_b (u 62 (4 * u 80 k + q).toNat) (u 82 k) <;> cases hz_b (u 62 (4 * u 80 k + q).toNat) (u 83 k) <;> simp
  rw [e1, e2]
  exact (Bool.and_assoc _ _ _).symm
theorem fs_make {b : Nat} (hb : b = 33 ∨ b = 41) {t u : hy_T} {k : Nat} (h : fs_S b t u) (hr : tz_r t u k) (hk : (k : Int) < t 27 6) (hp : ∀ c, wf_plain t c = mf_plain u c) (hw : ml_row u k) : fs_S b (wf_make b t k) (mk_make u k) := by
  have ec := fs_can h hr hk hp hw
  unfold wf_make mk_make
  rw [ec]
  by_cases hm : mk_can u k = true
  · rw [if_pos hm, if_pos hm]
    obtain ⟨⟨⟨s1, s2, s3⟩, s4, s5⟩, s6, s7⟩ := h
    obtain ⟨⟨r1, r2⟩, ⟨r3, r4⟩, r5⟩ := hr
    have v28 : ln_v t 28 k = u 80 k := by unfold ln_v; rw [if_pos (by omega), Int.toNat_natCast, r1]
    have v29 : ln_v t 29 k = u 81 k := by unfold ln_v; rw [if_pos (by omega), Int.toNat_natCast, r2]
    have v31 : ln_v t 31 k = u 82 k := by unfold ln_v; rw [if_pos (by omega), Int.toNat_natCast, r3]
    have v32 : ln_v t 32 k = u 83 k := by unfold ln_v; rw [if_pos (by omega), Int.toNat_natCast, r4]
    have e30 : decide ((0 ≤ (k : Int) ∧ (k : Int) < t 27 6) ∧ t 30 (k : Int).toNat = 43) = decide (t 30 k = 43) := by
      rw [decide_eq_decide, Int.toNat_natCast]
      exact ⟨fun q => q.2, fun q => ⟨by omega, q⟩⟩
    rw [v28, v29, v31, v32, e30]
    obtain ⟨w1, w2, w3, w4, w5⟩ := hw
    have hgo : ∀ q : Nat, q < 4 → hz_b (u 81 k) q = true → u 82 k ≠ u 83 k := fun q hq hbit hne => by
      unfold mk_can at hm
      rw [Bool.and_eq_true] at hm
      have := (mk_goN_iff u k 4).mp hm.2 q hq
      rw [hbit, hne] at this
      revert this
      cases hz_b (u 62 (4 * u 80 k + q).toNat) (u 83 k) <;> simp
    have h34 : u 59 34 < 16 := by
      unfold mk_can at hm
      rw [Bool.and_eq_true, Bool.and_eq_true, decide_eq_true_eq] at hm
      omega
    -- the model's rows
    have cr : ∀ r j, r ≠ 62 → mk_c2 u k r j = u r j := fun r j hr => by
      unfold mk_c2
      split
      · rw [ch_r _ _ _ _ _ 4 r j hr]
        unfold mk_c1
        rw [ch_r _ _ _ _ _ 4 r j hr]
      · unfold mk_c1
        rw [ch_r _ _ _ _ _ 4 r j hr]
    have e84 : mk_c1 u k 84 k = if t 30 k = 43 then 1 else 0 := by
      unfold mk_c1
      rw [ch_r _ _ _ _ _ 4 84 k (by decide)]
      exact r5
    have row : ∀ j : Nat, j < 48 → sp_moveN b t (u 80 k) (u 81 k) (if hy_b (decide (t 30 k = 43)) = 0 then u 82 k else -1) (u 83 k) 4 (b + 1) j = mk_c2 u k 62 j := fun j hj => by
      rw [mv_v b t w1 4 (by decide) j, s6 j hj]
      unfold mk_c2
      rw [e84]
      have c80 : mk_c1 u k 80 k = u 80 k := by unfold mk_c1; rw [ch_r _ _ _ _ _ 4 80 k (by decide)]
      have c81 : mk_c1 u k 81 k = u 81 k := by unfold mk_c1; rw [ch_r _ _ _ _ _ 4 81 k (by decide)]
      have c82 : mk_c1 u k 82 k = u 82 k := by unfold mk_c1; rw [ch_r _ _ _ _ _ 4 82 k (by decide)]
      have c62 : mk_c1 u k 62 j = if fs_in (u 80 k) (u 81 k) 4 j then hz_ior (u 62 j) (hz_ishl 1 (u 83 k)) else u 62 j := by
        unfold mk_c1
        rw [ch_v u w1 4 j, if_neg (show ¬ (1 : Int) = 0 by decide)]
      by_cases h43 : t 30 k = 43
      · rw [if_pos h43, if_neg (show ¬ (1 : Int) = 0 by decide), c62, decide_eq_true h43, if_neg (show ¬ hy_b true = 0 by decide), if_pos rfl]
      · rw [if_neg h43, if_pos rfl, c80, c81, c82, ch_v (mk_c1 u k) w1 4 j, c62, decide_eq_false h43, if_pos (show hy_b false = 0 from rfl), if_neg (show ¬ u 82 k = -1 by omega), if_pos rfl]
        by_cases hf : fs_in (u 80 k) (u 81 k) 4 j
        · rw [if_pos hf, if_pos hf, if_pos hf]
          have hbit := hf.2
          rw [show (j : Int) - 4 * u 80 k = (((j : Int) - 4 * u 80 k).toNat : Nat) by have := hf.1; omega] at hbit
          exact bt_swap w3 w4 (hgo _ (by have := hf.1; omega) hbit)
        · rw [if_neg hf, if_neg hf, if_neg hf]
    -- the class's rows
    have lay : ∀ (T : hy_T) (n : Nat) (c w g o s d : Int) (j : Nat), sp_lay b T n c w g o s d (b + 3) j = if j = n + 5 then d else if j = n + 4 then s else if j = n + 3 then o else if j = n + 2 then g else if j = n + 1 then w else if j = n then c else T (b + 3) j := fun T n c w g o s d j => by
      unfold sp_lay
      simp only [hy_up, true_and]
    have layr : ∀ (T : hy_T) (n : Nat) (c w g o s d : Int) (r j : Nat), r ≠ b + 3 → sp_lay b T n c w g o s d r j = T r j := fun T n c w g o s d r j hr => by
      unfold sp_lay
      rw [hy_up_ne hr, hy_up_ne hr, hy_up_ne hr, hy_up_ne hr, hy_up_ne hr, hy_up_ne hr]
    have mr : ∀ (lo : Int) (r j : Nat), r ≠ b + 1 → sp_moveN b t (u 80 k) (u 81 k) lo (u 83 k) 4 r j = t r j := fun lo r j hr => sp_moveN_F b t _ _ lo _ 4 r j (by simpa using hr)
    unfold sp_made
    dsimp only
    generalize hlo : (if hy_b (decide (t 30 k = 43)) = 0 then u 82 k else -1) = lo at row
    have hsh : (if hy_b (decide (t 30 k = 43)) = 0 then (0 : Int) else 1) = u 84 k := by
      rw [r5]
      by_cases h43 : t 30 k = 43
      · rw [decide_eq_true h43, if_pos h43]; rfl
      · rw [decide_eq_false h43, if_neg h43]; rfl
    rw [hsh]
    have lm : ∀ r, r ≠ 85 → r ≠ 86 → r ≠ 87 → r ≠ 88 → r ≠ 89 → r ≠ 90 → r ≠ 59 → ∀ j, mk_lay (mk_c2 u k) k r j = mk_c2 u k r j := fun r a1 a2 a3 a4 a5 a6 a7 j => by
      unfold mk_lay
      rw [hy_up_ne a7, hy_up_ne a6, hy_up_ne a5, hy_up_ne a4, hy_up_ne a3, hy_up_ne a2, hy_up_ne a1]
    have c34 : mk_c2 u k 59 34 = u 59 34 := cr 59 34 (by decide)
    have lmv : ∀ w i : Nat, w < 6 → mk_lay (mk_c2 u k) k (85 + w) i = if i = (u 59 34).toNat then (if w = 0 then u 80 k else if w = 1 then u 81 k else if w = 2 then u 82 k else if w = 3 then u 83 k else if w = 4 then u 84 k else u 59 2) else u (85 + w) i := fun w i hw => by
      have hw6 : w = 0 ∨ w = 1 ∨ w = 2 ∨ w = 3 ∨ w = 4 ∨ w = 5 := by omega
      unfold mk_lay
      rw [c34, cr 80 k (by decide), cr 81 k (by decide), cr 82 k (by decide), cr 83 k (by decide), cr 84 k (by decide), cr 59 2 (by decide)]
      rcases hw6 with rfl | rfl | rfl | rfl | rfl | rfl <;> simp [hy_up] <;> rw [cr _ _ (by decide)]
    have b3 : ∀ r, r = b + 1 ∨ r = b + 3 → r ≠ b := fun r hr => by omega
    refine ⟨⟨⟨?_, ?_, ?_⟩, ?_, ?_⟩, fun j hj => ?_, fun i w hi hw => ?_⟩
    · rw [show ∀ T : hy_T, hy_up T b 3 (t b 3 + 1) b 3 = t b 3 + 1 from fun T => by simp [hy_up]]
      show _ = mk_c2 u k 59 34 + 1
      rw [c34, s1]
    · rw [show ∀ T : hy_T, hy_up T b 3 (t b 3 + 1) b 3 = t b 3 + 1 from fun T => by simp [hy_up]]
      omega
    · rw [show ∀ T : hy_T, hy_up T b 3 (t b 3 + 1) b 3 = t b 3 + 1 from fun T => by simp [hy_up]]
      omega
    · rw [show ∀ T : hy_T, hy_up T b 3 (t b 3 + 1) b 4 = T b 4 from fun T => by simp [hy_up]]
      rw [layr _ _ _ _ _ _ _ _ b 4 (by omega), mr lo b 4 (by omega), s4]
      show u 59 2 = mk_c2 u k 59 2
      rw [cr 59 2 (by decide)]
    · rw [show ∀ T : hy_T, hy_up T b 3 (t b 3 + 1) b 5 = T b 5 from fun T => by simp [hy_up]]
      rw [layr _ _ _ _ _ _ _ _ b 5 (by omega), mr lo b 5 (by omega), s5]
      show u 59 1 = mk_c2 u k 59 1
      rw [cr 59 1 (by decide)]
    · rw [hy_up_ne (by omega), layr _ _ _ _ _ _ _ _ (b + 1) j (by omega), row j hj, lm 62 (by decide) (by decide) (by decide) (by decide) (by decide) (by decide) (by decide)]
    · rw [show ∀ T : hy_T, hy_up T b 3 (t b 3 + 1) b 3 = t b 3 + 1 from fun T => by simp [hy_up]] at hi
      rw [hy_up_ne (by omega), lay, lmv w i hw]
      by_cases hin : i = (u 59 34).toNat
      · have e6 : (6 * t b 3).toNat = 6 * i := by omega
        rw [if_pos hin, e6]
        have hw6 : w = 0 ∨ w = 1 ∨ w = 2 ∨ w = 3 ∨ w = 4 ∨ w = 5 := by omega
        rcases hw6 with rfl | rfl | rfl | rfl | rfl | rfl
        · rw [if_neg (by omega), if_neg (by omega), if_neg (by omega), if_neg (by omega), if_neg (by omega), if_pos (by omega), if_pos rfl]
        · rw [if_neg (by omega), if_neg (by omega), if_neg (by omega), if_neg (by omega), if_pos (by omega), if_neg (by omega), if_pos rfl]
        · rw [if_neg (by omega), if_neg (by omega), if_neg (by omega), if_pos (by omega), if_neg (by omega), if_neg (by omega), if_pos rfl]
        · rw [if_neg (by omega), if_neg (by omega), if_pos (by omega), if_neg (by omega), if_neg (by omega), if_neg (by omega), if_pos rfl]
        · rw [if_neg (by omega), if_pos (by omega), if_neg (by omega), if_neg (by omega), if_neg (by omega), if_neg (by omega), if_pos rfl]
        · rw [if_pos (by omega), if_neg (by omega), if_neg (by omega), if_neg (by omega), if_neg (by omega), if_neg (by omega)]
          exact s4
      · rw [if_neg hin, if_neg (by omega), if_neg (by omega), if_neg (by omega), if_neg (by omega), if_neg (by omega), if_neg (by omega), mr lo (b + 3) _ (by omega)]
        exact s7 i w (by omega) hw
  · rw [if_neg hm, if_neg hm]
    exact h
/-! days that go by, on both sides -/
theorem bc_bits : ∀ n : Nat, n < 64 → sp_bc (n : Int) = mf_bitsN (n : Int) 12 := by decide +kernel
theorem bc_bits' {x : Int} (h : 0 ≤ x ∧ x ≤ 63) : sp_bc x = mf_bitsN x 12 := by
  have := bc_bits x.toNat (by omega)
  rw [show ((x.toNat : Nat) : Int) = x by omega] at this
  exact this
theorem hv_or : ∀ x : Fin 64, ∀ e : Fin 6, 0 ≤ hz_ior (x.val : Int) (hz_ishl 1 (e.val : Int)) ∧ hz_ior (x.val : Int) (hz_ishl 1 (e.val : Int)) ≤ 63 := by decide +kernel
theorem hv_or' {x e : Int} (h : 0 ≤ x ∧ x ≤ 63) (he : 0 ≤ e ∧ e < 6) : 0 ≤ hz_ior x (hz_ishl 1 e) ∧ hz_ior x (hz_ishl 1 e) ≤ 63 := by
  have := hv_or ⟨x.toNat, by omega⟩ ⟨e.toNat, by omega⟩
  dsimp only at this
  rw [show ((x.toNat : Nat) : Int) = x by omega, show ((e.toNat : Nat) : Int) = e by omega] at this
  exact this
theorem hv_and {x m : Int} (h : 0 ≤ x ∧ x ≤ 63) : 0 ≤ hz_iand x m ∧ hz_iand x m ≤ 63 := by
  have := hz_iand_lel (x := x) (m := m) (by omega)
  omega
theorem draw_eq {x : Int} (h : 0 ≤ x ∧ x ≤ 65535) : sp_draw x = (25173 * x + 13849) % 65536 := by
  unfold sp_draw
  rw [hz_iand_n (by omega) (by decide)]
  have e : (65535 : Int).toNat = 2 ^ 16 - 1 := by decide
  rw [e, Nat.and_two_pow_sub_one_eq_mod]
  omega
theorem sp_shift_r (b : Nat) : ∀ (n a : Nat) (t : hy_T) (r j : Nat), r ≠ b + 3 → sp_shift b t a n r j = t r j
  | 0, a, t, r, j, h => rfl
  | n + 1, a, t, r, j, h => by
    simp only [sp_shift]
    rw [sp_shift_r b n (a + 1) _ r j h, hy_up_ne (by omega)]
theorem sp_shift_v (b : Nat) : ∀ (n a : Nat) (t : hy_T) (j : Nat), sp_shift b t a n (b + 3) j = if a ≤ j ∧ j < a + n then t (b + 3) (j + 6) else t (b + 3) j
  | 0, a, t, j => by
    rw [if_neg (by omega)]
    rfl
  | n + 1, a, t, j => by
    simp only [sp_shift]
    rw [sp_shift_v b n (a + 1)]
    simp only [hy_up, true_and]
    by_cases h1 : a + 1 ≤ j ∧ j < a + 1 + n
    · rw [if_pos h1, if_neg (by omega), if_pos (by omega)]
    · rw [if_neg h1]
      by_cases h2 : j = a
      · rw [if_pos h2, if_pos (by omega), h2]
      · rw [if_neg h2, if_neg (by omega)]
theorem me_shN_v : ∀ (n k : Nat) (t : hy_T) (w j : Nat), w < 6 → me_shN n k t (85 + w) j = if k ≤ j ∧ j < k + n then t (85 + w) (j + 1) else t (85 + w) j
  | 0, k, t, w, j, hw => by
    rw [if_neg (by omega)]
    rfl
  | n + 1, k, t, w, j, hw => by
    simp only [me_shN]
    rw [me_shN_v n (k + 1) _ w j hw, me_sh1_v t k (by omega) (by omega), me_sh1_v t k (by omega) (by omega)]
    by_cases h1 : k + 1 ≤ j ∧ j < k + 1 + n
    · rw [if_pos h1, if_neg (by omega), if_pos (by omega)]
    · rw [if_neg h1]
      by_cases h2 : j = k
      · rw [if_pos h2, if_pos (by omega), h2]
      · rw [if_neg h2, if_neg (by omega)]
theorem me_sh1_r (t : hy_T) (k r j : Nat) (h : r < 85 ∨ 90 < r) : me_sh1 t k r j = t r j := by
  unfold me_sh1
  rw [hy_up_ne (by omega), hy_up_ne (by omega), hy_up_ne (by omega), hy_up_ne (by omega), hy_up_ne (by omega), hy_up_ne (by omega)]
theorem me_shN_r : ∀ (n k : Nat) (t : hy_T) (r j : Nat), (r < 85 ∨ 90 < r) → me_shN n k t r j = t r j
  | 0, k, t, r, j, h => rfl
  | n + 1, k, t, r, j, h => by
    simp only [me_shN]
    rw [me_shN_r n (k + 1) _ r j h, me_sh1_r t k r j h]
/-- the bounds of what empires have, and that treaties speak of plain colours -/
def fh (u : hy_T) : Prop := ∀ j : Nat, j < 48 → (0 ≤ u 62 j ∧ u 62 j ≤ 63) ∧ (mf_plain u ((j / 4 : Nat) : Int) = false → u 62 j = 0)
def ft (u : hy_T) : Prop := ∀ i : Nat, (i : Int) < u 59 34 → mf_plain u (u 85 i) = true
def fd_L (t u : hy_T) : Prop := ∀ V V' : Nat → Int, (∀ j, j < 10 → V j = V' j) → mb_amt u V' 98 10 = lc_amt t V 98 10
def fd_S (b : Nat) (t u : hy_T) : Prop := fs_S b t u ∧ (t b 6 = u 59 59 ∧ t b 7 = u 59 60) ∧ (t b 6 = -2 ↔ u 59 58 = 0)
def fd_A (b : Nat) (t u : hy_T) : Prop := fd_S b t u ∧ (md_ok u ∧ fd_L t u) ∧ fh u ∧ ft u
theorem mf_plain_F {t t1 : hy_T} (h0 : t1 59 0 = t 59 0) (h6 : ∀ j, t1 60 j = t 60 j) (c : Int) : mf_plain t1 c = mf_plain t c := by
  unfold mf_plain
  rw [h0, h6]
theorem mixed_plain {u : hy_T} {c : Int} (h : mf_plain u c = true) : mf_mixed u c = false := by
  unfold mf_plain at h
  unfold mf_mixed
  revert h
  cases sp_told (u 59 0) c
  · simp
  · simp only [Bool.true_and, decide_eq_true_eq]
    intro h
    rw [h]
    decide
theorem fd_chance {b : Nat} {t u : hy_T} (h : fd_A b t u) {i : Nat} (hi : (i : Int) < t b 3) : sp_chance b t i = mb_br u i := by
  obtain ⟨⟨⟨⟨⟨s1, s2, s3⟩, s4, s5⟩, s6, s7⟩, -⟩, ⟨⟨k1, -⟩, hL⟩, hh, ht⟩ := h
  have hr := k1.2.2.2 i (by omega)
  obtain ⟨w1, w2, w3, w4, w5⟩ := hr
  have p : ∀ w : Nat, w < 6 → sp_part b t i w = u (85 + w) i := fun w hw => by
    unfold sp_part
    rw [if_pos (by omega), show (6 * (i : Int) + (w : Int)).toNat = 6 * i + w by omega]
    exact s7 i w hi hw
  have p0 : sp_part b t i 0 = u 85 i := p 0 (by decide)
  have p1 : sp_part b t i 1 = u 86 i := p 1 (by decide)
  have p2 : sp_part b t i 2 = u 87 i := p 2 (by decide)
  have p5 : sp_part b t i 5 = u 90 i := p 5 (by decide)
  have hlow := lw_in' w2
  unfold sp_chance mb_br
  rw [p0, p1, p2, p5, s4]
  refine (hL _ _ (fun j hj => ?_)).symm
  unfold mq_V
  rw [mixed_plain (ht i (by omega)), if_neg (by decide)]
  have eb : sp_bc (sp_hav (t (b + 1)) (u 85 i) (sp_lowN (u 86 i) 4 0)) = mf_bitsN (u 62 (4 * u 85 i + sp_lowN (u 86 i) 4 0).toNat) 12 := by
    unfold sp_hav
    rw [if_pos ⟨w1, hlow⟩, s6 _ (by omega)]
    exact bc_bits' (hh _ (by omega)).1
  rw [eb]
  rfl
theorem fd_x {b : Nat} (hb : b = 33 ∨ b = 41) {t u : hy_T} (h : fd_A b t u) : fd_A b (hy_up t b 5 (sp_draw (t b 5))) (md_x u) := by
  obtain ⟨⟨⟨⟨⟨s1, s2, s3⟩, s4, s5⟩, s6, s7⟩, s8, s9⟩, ⟨⟨k1, k2⟩, hL⟩, hh, ht⟩ := h
  have x1 := (md_x_s k1).1
  have cb : ∀ j, j ≠ 5 → hy_up t b 5 (sp_draw (t b 5)) b j = t b j := fun j hj => by simp [hy_up, hj]
  have mb : ∀ j, j ≠ 1 → md_x u 59 j = u 59 j := fun j hj => by simp [md_x, hy_up, hj]
  have mr : ∀ r j, r ≠ 59 → md_x u r j = u r j := fun r j hr => by unfold md_x; rw [hy_up_ne (by omega)]
  refine ⟨⟨⟨⟨⟨?_, ?_, ?_⟩, ?_, ?_⟩, fun j hj => ?_, fun i w hi hw => ?_⟩, ⟨?_, ?_⟩, ?_⟩, ⟨⟨x1, by rw [mb 58 (by decide), mb 34 (by decide)]; exact k2⟩, fun V V' hV => ?_⟩, fun j hj => ?_, fun i hi => ?_⟩
  · rw [cb 3 (by decide), mb 34 (by decide)]; exact s1
  · rw [cb 3 (by decide)]; exact s2
  · rw [cb 3 (by decide)]; exact s3
  · rw [cb 4 (by decide), mb 2 (by decide)]; exact s4
  · show hy_up t b 5 (sp_draw (t b 5)) b 5 = (25173 * u 59 1 + 13849) % 65536
    rw [show hy_up t b 5 (sp_draw (t b 5)) b 5 = sp_draw (t b 5) by simp [hy_up], draw_eq (by rw [s5]; exact k1.2.2.1), s5]
  · rw [hy_up_ne (by omega), mr 62 j (by decide)]; exact s6 j hj
  · rw [hy_up_ne (by omega), mr _ i (by omega)]
    rw [cb 3 (by decide)] at hi
    exact s7 i w hi hw
  · rw [cb 6 (by decide), mb 59 (by decide)]; exact s8.1
  · rw [cb 7 (by decide), mb 60 (by decide)]; exact s8.2
  · rw [cb 6 (by decide), mb 58 (by decide)]; exact s9
  · have F : hy_F (fun r j => r == b && j == 5) t (hy_up t b 5 (sp_draw (t b 5))) := hy_F.rf.up (by simp)
    have G : hy_F (fun r j => r == 59 && j == 1) u (md_x u) := hy_F.rf.up rfl
    rw [lc_same_amt (lc_same_of F (fun r j q => by revert q; simp only [lawX, Bool.or_eq_true, Bool.and_eq_true, beq_iff_eq, Bool.and_eq_false_iff, beq_eq_false_iff_ne]; omega)), mb_amt_F G (fun r j q => by revert q; simp only [mlawX, Bool.or_eq_true, Bool.and_eq_true, beq_iff_eq, Bool.and_eq_false_iff, beq_eq_false_iff_ne]; omega)]
    exact hL V V' hV
  · rw [mf_plain_F (mb 0 (by decide)) (fun j => mr 60 j (by decide)), mr 62 j (by decide)]; exact hh j hj
  · rw [mf_plain_F (mb 0 (by decide)) (fun j => mr 60 j (by decide)), mr 85 i (by decide)]
    rw [mb 34 (by decide)] at hi
    exact ht i hi
theorem fd_end {b : Nat} (hb : b = 33 ∨ b = 41) {t u : hy_T} (h : fd_A b t u) {i : Nat} (hi : (i : Int) < t b 3) : fd_A b (sp_broken b t i) (me_end u i) ∧ sp_broken b t i b 3 = t b 3 - 1 := by
  obtain ⟨⟨⟨⟨⟨s1, s2, s3⟩, s4, s5⟩, s6, s7⟩, ⟨s8, s8b⟩, s9⟩, ⟨⟨k1, k2, k3⟩, hL⟩, hh, ht⟩ := h
  have hiu : (i : Int) < u 59 34 := by omega
  obtain ⟨w1, w2, w3, w4, w5⟩ := k1.2.2.2 i hiu
  obtain ⟨m1, m2, m3, m4⟩ := me_end_s k1 hiu ⟨k2, by omega⟩
  have hpl := ht i hiu
  -- the class
  have cf : ∀ r j, ¬ (r = b ∧ (j = 6 ∨ j = 7)) → sp_first b t i r j = t r j := fun r j hr => sp_first_G b t i r j (by
    simp only [Bool.and_eq_false_iff, Bool.or_eq_false_iff, beq_eq_false_iff_ne]
    omega)
  have p : ∀ w : Nat, w < 6 → sp_part b (sp_first b t i) i w = u (85 + w) i := fun w hw => by
    unfold sp_part
    rw [cf b 3 (by omega), if_pos (by omega), show (6 * (i : Int) + (w : Int)).toNat = 6 * i + w by omega, cf (b + 3) _ (by omega)]
    exact s7 i w hi hw
  have p0 : sp_part b (sp_first b t i) i 0 = u 85 i := p 0 (by decide)
  have p1 : sp_part b (sp_first b t i) i 1 = u 86 i := p 1 (by decide)
  have p2 : sp_part b (sp_first b t i) i 2 = u 87 i := p 2 (by decide)
  have p3 : sp_part b (sp_first b t i) i 3 = u 88 i := p 3 (by decide)
  have eb : sp_broken b t i = hy_up (sp_shift b (sp_moveN b (sp_first b t i) (u 85 i) (u 86 i) (u 88 i) (u 87 i) 4) (6 * (i : Int)).toNat (6 * (t b 3 - 1) - 6 * (i : Int)).toNat) b 3 (t b 3 - 1) := by
    unfold sp_broken
    dsimp only
    rw [p0, p1, p2, p3]
  have mvr : ∀ r j, r ≠ b + 1 → sp_moveN b (sp_first b t i) (u 85 i) (u 86 i) (u 88 i) (u 87 i) 4 r j = sp_first b t i r j := fun r j hr => sp_moveN_F b _ _ _ _ _ 4 r j (by simpa using hr)
  have cb : ∀ j, j ≠ 3 → sp_broken b t i b j = sp_first b t i b j := fun j hj => by
    rw [eb, show ∀ T : hy_T, hy_up T b 3 (t b 3 - 1) b j = T b j from fun T => by simp [hy_up, hj], sp_shift_r b _ _ _ b j (by omega), mvr b j (by omega)]
  have cb3 : sp_broken b t i b 3 = t b 3 - 1 := by rw [eb]; simp [hy_up]
  have c1 : ∀ j, sp_broken b t i (b + 1) j = if fs_in (u 85 i) (u 86 i) 4 j then hz_ior (hz_iand (t (b + 1) j) (hz_ixor (hz_ishl 1 (u 88 i)) (-1))) (hz_ishl 1 (u 87 i)) else t (b + 1) j := fun j => by
    rw [eb, hy_up_ne (by omega), sp_shift_r b _ _ _ (b + 1) j (by omega), mv_v b _ w1 4 (by decide) j, cf (b + 1) j (by omega), if_neg (show ¬ u 88 i = -1 by omega)]
  have c3 : ∀ j, sp_broken b t i (b + 3) j = if 6 * i ≤ j ∧ (j : Int) < 6 * (t b 3 - 1) then t (b + 3) (j + 6) else t (b + 3) j := fun j => by
    rw [eb, hy_up_ne (by omega), sp_shift_v, mvr (b + 3) _ (by omega), mvr (b + 3) _ (by omega), cf (b + 3) _ (by omega), cf (b + 3) _ (by omega)]
    by_cases hj : 6 * i ≤ j ∧ (j : Int) < 6 * (t b 3 - 1)
    · rw [if_pos hj, if_pos (by omega)]
    · rw [if_neg hj, if_neg (by omega)]
  -- the model
  have e0r : ∀ r j, ¬ (r = 59 ∧ (j = 58 ∨ j = 59 ∨ j = 60)) → me_e1 u i r j = u r j := fun r j hr => me_e1_F u i r j (by
    simp only [Bool.and_eq_false_iff, Bool.or_eq_false_iff, beq_eq_false_iff_ne]
    omega)
  have e2r : ∀ r j, r ≠ 62 → me_e2 (me_e1 u i) i r j = me_e1 u i r j := fun r j hr => by unfold me_e2; exact ch_r _ _ _ _ _ 4 r j hr
  have e3r : ∀ r j, r ≠ 62 → me_e3 (me_e2 (me_e1 u i) i) i r j = me_e1 u i r j := fun r j hr => by
    unfold me_e3
    rw [ch_r _ _ _ _ _ 4 r j hr]
    exact e2r r j hr
  have mr : ∀ r j, (r < 85 ∨ 90 < r) → r ≠ 62 → r ≠ 59 → me_end u i r j = u r j := fun r j h1 h2 h3 => by
    unfold me_end me_pre me_e4
    rw [me_shN_r _ _ _ r j h1, hy_up_ne (by omega), e3r r j h2, e0r r j (by omega)]
  have m59 : ∀ j, j ≠ 34 → me_end u i 59 j = me_e1 u i 59 j := fun j hj => by
    unfold me_end me_pre me_e4
    rw [me_shN_r _ _ _ 59 j (by decide), show ∀ (T : hy_T) (v : Int), hy_up T 59 34 v 59 j = T 59 j from fun T v => by simp [hy_up, hj], e3r 59 j (by decide)]
  have m62 : ∀ j, me_end u i 62 j = if fs_in (u 85 i) (u 86 i) 4 j then hz_ior (hz_iand (u 62 j) (hz_ixor (hz_ishl 1 (u 88 i)) (-1))) (hz_ishl 1 (u 87 i)) else u 62 j := fun j => by
    unfold me_end me_pre me_e4
    rw [me_shN_r _ _ _ 62 j (by decide), hy_up_ne (by decide)]
    unfold me_e3
    rw [e2r 85 i (by decide), e2r 86 i (by decide), e2r 87 i (by decide), e0r 85 i (by omega), e0r 86 i (by omega), e0r 87 i (by omega), ch_v _ w1 4 j, if_neg (show ¬ (1 : Int) = 0 by decide)]
    unfold me_e2
    rw [e0r 85 i (by omega), e0r 86 i (by omega), e0r 88 i (by omega), ch_v _ w1 4 j, if_pos rfl, e0r 62 j (by omega)]
    by_cases hf : fs_in (u 85 i) (u 86 i) 4 j
    · rw [if_pos hf, if_pos hf, if_pos hf]
    · rw [if_neg hf, if_neg hf, if_neg hf]
  have m85 : ∀ w j : Nat, w < 6 → me_end u i (85 + w) j = if i ≤ j ∧ (j : Int) < u 59 34 - 1 then u (85 + w) (j + 1) else u (85 + w) j := fun w j hw => by
    unfold me_end me_pre me_e4
    rw [me_shN_v _ _ _ w j hw, hy_up_ne (by omega), hy_up_ne (by omega), e3r _ _ (by omega), e3r _ _ (by omega), e0r _ _ (by omega), e0r _ _ (by omega)]
    by_cases hj : i ≤ j ∧ (j : Int) < u 59 34 - 1
    · rw [if_pos hj, if_pos (by omega)]
    · rw [if_neg hj, if_neg (by omega)]
  have pf : ∀ c, mf_plain (me_end u i) c = mf_plain u c := fun c => mf_plain_F (by rw [m59 0 (by decide)]; exact e0r 59 0 (by omega)) (fun j => mr 60 j (by decide) (by decide) (by decide)) c
  have hfh : fh (me_end u i) := fun j hj => by
    rw [pf, m62 j]
    by_cases hf : fs_in (u 85 i) (u 86 i) 4 j
    · rw [if_pos hf]
      refine ⟨hv_or' (hv_and (hh j hj).1) w3, fun q => ?_⟩
      exfalso
      have e4 : ((j / 4 : Nat) : Int) = u 85 i := by have := hf.1; omega
      rw [e4, hpl] at q
      cases q
    · rw [if_neg hf]
      exact hh j hj
  have c6 : sp_first b t i b 6 = if t b 6 = -2 then t b 4 else t b 6 := by
    unfold sp_first
    split
    · dsimp only
      simp [hy_up]
    · rfl
  have c7 : sp_first b t i b 7 = if t b 6 = -2 then u 87 i else t b 7 := by
    unfold sp_first
    split
    · dsimp only
      have : sp_part b (hy_up t b 6 (t b 4)) i 2 = u 87 i := by
        unfold sp_part
        rw [show hy_up t b 6 (t b 4) b 3 = t b 3 by simp [hy_up], if_pos (by omega), hy_up_ne (by omega), show (6 * (i : Int) + 2).toNat = 6 * i + 2 by omega]
        exact s7 i 2 hi (by decide)
      rw [this]
      simp [hy_up]
    · rfl
  have d59 : me_e1 u i 59 59 = if u 59 58 = 0 then u 59 2 else u 59 59 := by
    unfold me_e1 me_e0
    split <;> simp [hy_up]
  have d60 : me_e1 u i 59 60 = if u 59 58 = 0 then u 87 i else u 59 60 := by
    unfold me_e1 me_e0
    split <;> simp [hy_up]
  refine ⟨⟨⟨⟨⟨⟨?_, ?_, ?_⟩, ?_, ?_⟩, fun j hj => ?_, fun j w hj hw => ?_⟩, ⟨?_, ?_⟩, ?_⟩, ⟨⟨m2, by omega, by omega⟩, fun V V' hV => ?_⟩, hfh, fun j hj => ?_⟩, cb3⟩
  · rw [cb3, m3, s1]
  · rw [cb3]; omega
  · rw [cb3]; omega
  · rw [cb 4 (by decide), cf b 4 (by omega), m59 2 (by decide), e0r 59 2 (by decide)]; exact s4
  · rw [cb 5 (by decide), cf b 5 (by omega), m59 1 (by decide), e0r 59 1 (by decide)]; exact s5
  · rw [c1 j, m62 j, s6 j hj]
  · rw [cb3] at hj
    rw [c3, m85 w j hw]
    by_cases hij : i ≤ j
    · rw [if_pos (by omega), if_pos (by omega), show 6 * j + w + 6 = 6 * (j + 1) + w by omega]
      exact s7 (j + 1) w (by omega) hw
    · rw [if_neg (by omega), if_neg (by omega)]
      exact s7 j w (by omega) hw
  · rw [cb 6 (by decide), c6, m59 59 (by decide), d59]
    by_cases h6 : t b 6 = -2
    · rw [if_pos h6, if_pos (s9.mp h6)]; exact s4
    · rw [if_neg h6, if_neg (fun c => h6 (s9.mpr c))]; exact s8
  · rw [cb 7 (by decide), c7, m59 60 (by decide), d60]
    by_cases h6 : t b 6 = -2
    · rw [if_pos h6, if_pos (s9.mp h6)]
    · rw [if_neg h6, if_neg (fun c => h6 (s9.mpr c))]; exact s8b
  · rw [cb 6 (by decide), c6, m4]
    have hd := k1.2.1
    constructor
    · intro c
      split at c
      · omega
      · next q => exact absurd c q
    · intro c
      omega
  · rw [lc_same_amt (lc_same_of (sp_broken_F b t i) (fun r j q => by revert q; simp only [lawX, dyX, Bool.or_eq_true, Bool.and_eq_true, beq_iff_eq, Bool.or_eq_false_iff, Bool.and_eq_false_iff, beq_eq_false_iff_ne]; omega)), mb_amt_F m1 (fun r j q => by revert q; simp only [mlawX, enX, hvX, mftX, Bool.or_eq_true, Bool.and_eq_true, beq_iff_eq, Bool.or_eq_false_iff, Bool.and_eq_false_iff, beq_eq_false_iff_ne, decide_eq_true_eq, decide_eq_false_iff_not]; omega)]
    exact hL V V' hV
  · rw [m3] at hj
    rw [mf_plain_F (by rw [m59 0 (by decide)]; exact e0r 59 0 (by decide)) (fun j => mr 60 j (by decide) (by decide) (by decide)), m85 0 j (by decide)]
    split
    · exact ht (j + 1) (by omega)
    · exact ht j (by omega)
theorem fd_turn {b : Nat} (hb : b = 33 ∨ b = 41) : ∀ (n M : Nat) {t u : hy_T} (i : Nat), fd_A b t u → (i : Int) + n = t b 3 → n < M → fd_A b (sp_dayN b n t i) (md_turnN M u i)
  | n, 0, t, u, i, h, hi, hM => by omega
  | 0, M + 1, t, u, i, h, hi, hM => by
    simp only [sp_dayN, md_turnN]
    rw [if_neg (by have := h.1.1.1.1.1; omega)]
    exact h
  | n + 1, M + 1, t, u, i, h, hi, hM => by
    have hx := fd_x hb h
    have e3 : hy_up t b 5 (sp_draw (t b 5)) b 3 = t b 3 := by simp [hy_up]
    have hc := fd_chance hx (i := i) (by rw [e3]; omega)
    have e5 := hx.1.1.1.2.2
    simp only [sp_dayN, md_turnN]
    rw [if_pos (show (i : Int) < u 59 34 by have := h.1.1.1.1.1; omega), hc, e5]
    by_cases hq : md_x u 59 1 % 10 < mb_br (md_x u) i
    · rw [if_pos hq, if_pos hq]
      obtain ⟨h2, h3⟩ := fd_end hb hx (i := i) (by rw [e3]; omega)
      exact fd_turn hb n M i h2 (by rw [h3, e3]; omega) (by omega)
    · rw [if_neg hq, if_neg hq]
      have := fd_turn hb n M (i + 1) hx (by rw [e3]; push_cast; omega) (by omega)
      rw [show ((i + 1 : Nat) : Int) = (i : Int) + 1 by push_cast; rfl] at this
      exact this
theorem fd_day {b : Nat} (hb : b = 33 ∨ b = 41) {t u : hy_T} (h : fd_A b t u) (hd : t b 4 < 9999) : fd_A b (hy_up (sp_dayN b (t b 3).toNat t 0) b 4 (t b 4 + 1)) (md_day u) := by
  have h3 := h.1.1.1.1
  have h0 := fd_turn hb (t b 3).toNat 17 0 h (by omega) (by omega)
  have e4 : sp_dayN b (t b 3).toNat t ((0 : Nat) : Int) b 4 = t b 4 := by
    have a := h0.1.1.1.2.1
    have c := (md_turnN_s 17 0 h.2.1.1).2.2
    rw [a, c]
    exact h.1.1.1.2.1.symm
  unfold md_day
  revert h0 e4
  rw [show ((0 : Nat) : Int) = 0 from rfl]
  generalize sp_dayN b (t b 3).toNat t 0 = T
  generalize md_turnN 17 u 0 = U
  intro h0 e4
  obtain ⟨⟨⟨⟨⟨s1, s2, s3⟩, s4, s5⟩, s6, s7⟩, s8, s9⟩, ⟨⟨k1, k2⟩, hL⟩, hh, ht⟩ := h0
  have cb : ∀ j, j ≠ 4 → hy_up T b 4 (t b 4 + 1) b j = T b j := fun j hj => by simp [hy_up, hj]
  have mb : ∀ j, j ≠ 2 → hy_up U 59 2 (U 59 2 + 1) 59 j = U 59 j := fun j hj => by simp [hy_up, hj]
  have mr : ∀ r j, r ≠ 59 → hy_up U 59 2 (U 59 2 + 1) r j = U r j := fun r j hr => by rw [hy_up_ne (by omega)]
  refine ⟨⟨⟨⟨⟨?_, ?_, ?_⟩, ?_, ?_⟩, fun j hj => ?_, fun i w hi hw => ?_⟩, ⟨?_, ?_⟩, ?_⟩, ⟨⟨tr_ok_of (mb 34 (by decide)) ?_ ?_ (fun i hi q => tr_row_e (fun r h1 h2 => mr r i (by omega)) q) k1, by rw [mb 58 (by decide), mb 34 (by decide)]; exact k2⟩, fun V V' hV => ?_⟩, fun j hj => ?_, fun i hi => ?_⟩
  · rw [cb 3 (by decide), mb 34 (by decide)]; exact s1
  · rw [cb 3 (by decide)]; exact s2
  · rw [cb 3 (by decide)]; exact s3
  · show hy_up T b 4 (t b 4 + 1) b 4 = U 59 2 + 1
    rw [show hy_up T b 4 (t b 4 + 1) b 4 = t b 4 + 1 by simp [hy_up], ← s4, e4]
  · rw [cb 5 (by decide), mb 1 (by decide)]; exact s5
  · rw [hy_up_ne (by omega), mr 62 j (by decide)]; exact s6 j hj
  · rw [hy_up_ne (by omega), mr _ i (by omega)]
    rw [cb 3 (by decide)] at hi
    exact s7 i w hi hw
  · rw [cb 6 (by decide), mb 59 (by decide)]; exact s8.1
  · rw [cb 7 (by decide), mb 60 (by decide)]; exact s8.2
  · rw [cb 6 (by decide), mb 58 (by decide)]; exact s9
  · show 0 ≤ U 59 2 + 1 ∧ U 59 2 + 1 ≤ 9999
    have := k1.2.1
    omega
  · rw [mb 1 (by decide)]; exact k1.2.2.1
  · have F : hy_F (fun r j => r == b && j == 4) T (hy_up T b 4 (t b 4 + 1)) := hy_F.rf.up (by simp)
    have G : hy_F (fun r j => r == 59 && j == 2) U (hy_up U 59 2 (U 59 2 + 1)) := hy_F.rf.up rfl
    rw [lc_same_amt (lc_same_of F (fun r j q => by revert q; simp only [lawX, Bool.or_eq_true, Bool.and_eq_true, beq_iff_eq, Bool.and_eq_false_iff, beq_eq_false_iff_ne]; omega)), mb_amt_F G (fun r j q => by revert q; simp only [mlawX, Bool.or_eq_true, Bool.and_eq_true, beq_iff_eq, Bool.and_eq_false_iff, beq_eq_false_iff_ne]; omega)]
    exact hL V V' hV
  · rw [mf_plain_F (mb 0 (by decide)) (fun j => mr 60 j (by decide)), mr 62 j (by decide)]; exact hh j hj
  · rw [mf_plain_F (mb 0 (by decide)) (fun j => mr 60 j (by decide)), mr 85 i (by decide)]
    rw [mb 34 (by decide)] at hi
    exact ht i hi
theorem fd_daysN {b : Nat} (hb : b = 33 ∨ b = 41) : ∀ (n : Nat) {t u : hy_T}, fd_A b t u → fd_A b (sp_daysN b n t) (md_daysN n u)
  | 0, t, u, h => h
  | n + 1, t, u, h => by
    simp only [sp_daysN, md_daysN]
    rw [h.1.1.1.2.1]
    by_cases hd : u 59 2 < 9999
    · rw [if_pos hd, if_pos hd]
      have := fd_day hb h (by rw [h.1.1.1.2.1]; exact hd)
      rw [h.1.1.1.2.1] at this
      exact fd_daysN hb n this
    · rw [if_neg hd, if_neg hd]
      exact h
/-- as many days as can: the states stay alike -/
theorem fd_days {b : Nat} (hb : b = 33 ∨ b = 41) {t u : hy_T} (h : fs_S b t u) (ht : tr_ok u) (hL : fd_L t u) (hh : fh u) (hf : ft u) (n : Int) : fd_A b (sp_days b t n) (md_days u n) := by
  unfold sp_days md_days
  refine fd_daysN hb _ ?_
  obtain ⟨⟨⟨s1, s2, s3⟩, s4, s5⟩, s6, s7⟩ := h
  have cb : ∀ j, j ≠ 6 → j ≠ 7 → hy_up (hy_up t b 6 (-2)) b 7 (-2) b j = t b j := fun j h6 h7 => by simp [hy_up, h6, h7]
  have mb : ∀ j, j ≠ 58 → j ≠ 59 → j ≠ 60 → md_t0 u 59 j = u 59 j := fun j h1 h2 h3 => by simp [md_t0, hy_up, h1, h2, h3]
  have mr : ∀ r j, r ≠ 59 → md_t0 u r j = u r j := fun r j hr => by unfold md_t0; rw [hy_up_ne (by omega), hy_up_ne (by omega), hy_up_ne (by omega)]
  refine ⟨⟨⟨⟨⟨?_, ?_, ?_⟩, ?_, ?_⟩, fun j hj => ?_, fun i w hi hw => ?_⟩, ⟨?_, ?_⟩, ?_⟩, ⟨(md_t0_s ht).1, fun V V' hV => ?_⟩, fun j hj => ?_, fun i hi => ?_⟩
  · rw [cb 3 (by decide) (by decide), mb 34 (by decide) (by decide) (by decide)]; exact s1
  · rw [cb 3 (by decide) (by decide)]; exact s2
  · rw [cb 3 (by decide) (by decide)]; exact s3
  · rw [cb 4 (by decide) (by decide), mb 2 (by decide) (by decide) (by decide)]; exact s4
  · rw [cb 5 (by decide) (by decide), mb 1 (by decide) (by decide) (by decide)]; exact s5
  · rw [hy_up_ne (by omega), hy_up_ne (by omega), mr 62 j (by decide)]; exact s6 j hj
  · rw [hy_up_ne (by omega), hy_up_ne (by omega), mr _ i (by omega)]
    rw [cb 3 (by decide) (by decide)] at hi
    exact s7 i w hi hw
  · simp [md_t0, hy_up]
  · simp [md_t0, hy_up]
  · simp [md_t0, hy_up]
  · have F : hy_F (fun r j => r == b && (j == 6 || j == 7)) t (hy_up (hy_up t b 6 (-2)) b 7 (-2)) := (hy_F.rf.up (by simp)).up (by simp)
    have G := (md_t0_s ht).2
    rw [lc_same_amt (lc_same_of F (fun r j q => by revert q; simp only [lawX, Bool.or_eq_true, Bool.and_eq_true, beq_iff_eq, Bool.and_eq_false_iff, Bool.or_eq_false_iff, beq_eq_false_iff_ne]; omega)), mb_amt_F G dsX_law]
    exact hL V V' hV
  · rw [mf_plain_F (mb 0 (by decide) (by decide) (by decide)) (fun j => mr 60 j (by decide)), mr 62 j (by decide)]; exact hh j hj
  · rw [mf_plain_F (mb 0 (by decide) (by decide) (by decide)) (fun j => mr 60 j (by decide)), mr 85 i (by decide)]
    rw [mb 34 (by decide) (by decide) (by decide)] at hi
    exact hf i hi
/-! the full relation of the two sides -/
theorem ff {XW XM Y : Nat → Nat → Bool} {t t1 t2 : hy_T} (F : hy_F XW t t1) (F2 : hy_F XM t1 t2) (a : frees XW Y) (b : frees XM Y) : ∀ r j, Y r j = true → t2 r j = t r j := fun r j q => (F2 r j (b r j q)).trans (F r j (a r j q))
abbrev fr_tY : Nat → Nat → Bool := fun r j => (r == 3 && j == 1) || r == 4 || (r == 59 && j == 9) || r == 65
abbrev fr_pY : Nat → Nat → Bool := fun r j => (r == 5 && (j == 2 || j == 3)) || r == 6 || r == 7 || (r == 59 && j == 0) || r == 60 || r == 61
abbrev fr_gY : Nat → Nat → Bool := fun r _ => r == 9 || r == 63 || r == 10 || r == 96
abbrev fl_Y : Nat → Nat → Bool := fun r j => lawX r j || mlawX r j
abbrev fsC (b : Nat) : Nat → Nat → Bool := fun r j => r == b + 1 || r == b + 3 || (r == b && (j == 3 || j == 4 || j == 5))
abbrev fsM : Nat → Nat → Bool := fun r j => r == 62 || r == 85 || r == 86 || r == 87 || r == 88 || r == 89 || r == 90 || (r == 59 && (j == 1 || j == 2 || j == 34))
abbrev fr_nY : Nat → Nat → Bool := fun r j => fsC 33 r j || fsM r j || r == 35 || r == 64 || (r == 59 && j == 0) || r == 60
abbrev fr_kY : Nat → Nat → Bool := fun r j => (r == 2 && j == 9) || (r == 37 && (j == 3 || j == 4 || j == 5)) || r == 38 || r == 39 || r == 40 || (r == 59 && (j == 0 || j == 54 || j == 55 || j == 56 || j == 57)) || r == 93 || r == 94 || r == 95 || r == 60
def fr_t (t : hy_T) : Prop := t 3 1 = t 59 9 ∧ ∀ j : Nat, j < 260 → t 4 j = hz_iand (t 65 j) 255
def fr_p (t : hy_T) : Prop := p3_rel t ∧ ∀ c : Nat, c < 12 → hz_b (t 5 3) c = true → t 6 c = t 60 c ∧ t 7 c = t 61 c
def fr_g (t : hy_T) : Prop := (∀ j : Nat, j < 64 → t 9 j = t 63 j) ∧ ∀ j : Nat, j < 64 → t 10 j = t 96 j
def fr_n (t : hy_T) : Prop := fs_S 33 t t ∧ (fh t ∧ ft t) ∧ ∀ j : Nat, j < 64 → t 35 j = t 64 j
/-- what is kept on both sides -/
def fr_kk (t : hy_T) : Prop := ((t 37 3 = t 59 54 ∧ 0 ≤ t 37 3 ∧ t 37 3 ≤ 16) ∧ t 37 4 = t 59 55 ∧ t 37 5 = t 59 56) ∧ (∀ j : Nat, j < 48 → t 38 j = t 93 j ∧ (0 ≤ t 93 j ∧ t 93 j ≤ 63) ∧ (mf_plain t ((j / 4 : Nat) : Int) = false → t 93 j = 0)) ∧ (∀ i w : Nat, (i : Int) < t 37 3 → w < 6 → t 40 (6 * i + w) = t 94 (6 * i + w)) ∧ (∀ j : Nat, j < 64 → t 39 j = t 95 j) ∧ ∀ i : Nat, (i : Int) < t 37 3 → mf_plain t (t 94 (6 * i)) = true
def fr_k (t : hy_T) : Prop := t 2 9 = t 59 57 ∧ (t 2 9 ≠ 0 → fr_kk t)
def fr (t : hy_T) : Prop := (fr_t t ∧ fr_p t) ∧ (fr_g t ∧ fl_law t) ∧ fr_n t ∧ fr_k t
theorem fr_t_F {t t1 : hy_T} (h : fr_t t) (hY : ∀ r j, fr_tY r j = true → t1 r j = t r j) : fr_t t1 := by
  refine ⟨by rw [hY 3 1 rfl, hY 59 9 rfl]; exact h.1, fun j hj => ?_⟩
  rw [hY 4 j rfl, hY 65 j rfl]
  exact h.2 j hj
theorem fr_p_F {t t1 : hy_T} (h : fr_p t) (hY : ∀ r j, fr_pY r j = true → t1 r j = t r j) : fr_p t1 := by
  refine ⟨p3_relF t t1 h.1 (fun r j q => hY r j (by revert q; simp only [p3_Y, fr_pY, Bool.or_eq_true, Bool.and_eq_true, beq_iff_eq]; omega)), fun c hc => ?_⟩
  rw [hY 5 3 rfl, hY 6 c rfl, hY 7 c rfl, hY 60 c rfl, hY 61 c rfl]
  exact h.2 c hc
theorem fr_g_F {t t1 : hy_T} (h : fr_g t) (hY : ∀ r j, fr_gY r j = true → t1 r j = t r j) : fr_g t1 :=
  ⟨fun j hj => by rw [hY 9 j rfl, hY 63 j rfl]; exact h.1 j hj, fun j hj => by rw [hY 10 j rfl, hY 96 j rfl]; exact h.2 j hj⟩
theorem fs_S_of {b : Nat} {T U t u : hy_T} (h : fs_S b T U) (hc : ∀ r j, fsC b r j = true → t r j = T r j) (hm : ∀ r j, fsM r j = true → u r j = U r j) : fs_S b t u := by
  obtain ⟨⟨⟨s1, s2, s3⟩, s4, s5⟩, s6, s7⟩ := h
  have c3 : t b 3 = T b 3 := hc b 3 (by simp)
  refine ⟨⟨⟨by rw [c3, hm 59 34 rfl]; exact s1, by rw [c3]; exact s2, by rw [c3]; exact s3⟩, by rw [hc b 4 (by simp), hm 59 2 rfl]; exact s4, by rw [hc b 5 (by simp), hm 59 1 rfl]; exact s5⟩, fun j hj => by rw [hc (b + 1) j (by simp), hm 62 j rfl]; exact s6 j hj, fun i w hi hw => ?_⟩
  rw [c3] at hi
  have hw6 : w = 0 ∨ w = 1 ∨ w = 2 ∨ w = 3 ∨ w = 4 ∨ w = 5 := by omega
  rw [hc (b + 3) _ (by simp), hm (85 + w) i (by rcases hw6 with rfl | rfl | rfl | rfl | rfl | rfl <;> rfl)]
  exact s7 i w hi hw
theorem fh_F {t t1 : hy_T} (h : fh t) (e : ∀ j, t1 62 j = t 62 j) (e0 : t1 59 0 = t 59 0) (e60 : ∀ j, t1 60 j = t 60 j) : fh t1 := fun j hj => by rw [mf_plain_F e0 e60, e]; exact h j hj
theorem ft_F {t t1 : hy_T} (h : ft t) (e34 : t1 59 34 = t 59 34) (e85 : ∀ j, t1 85 j = t 85 j) (e0 : t1 59 0 = t 59 0) (e60 : ∀ j, t1 60 j = t 60 j) : ft t1 := fun i hi => by
  rw [mf_plain_F e0 e60, e85]
  rw [e34] at hi
  exact h i hi
theorem fr_n_F {t t1 : hy_T} (h : fr_n t) (hY : ∀ r j, fr_nY r j = true → t1 r j = t r j) : fr_n t1 :=
  ⟨fs_S_of h.1 (fun r j q => hY r j (by revert q; simp only [fsC, fsM, fr_nY, Bool.or_eq_true, Bool.and_eq_true, beq_iff_eq]; omega)) (fun r j q => hY r j (by revert q; simp only [fsC, fsM, fr_nY, Bool.or_eq_true, Bool.and_eq_true, beq_iff_eq]; omega)),
   ⟨fh_F h.2.1.1 (fun j => hY 62 j rfl) (hY 59 0 rfl) (fun j => hY 60 j rfl), ft_F h.2.1.2 (hY 59 34 rfl) (fun j => hY 85 j rfl) (hY 59 0 rfl) (fun j => hY 60 j rfl)⟩, fun j hj => by rw [hY 35 j rfl, hY 64 j rfl]; exact h.2.2 j hj⟩
theorem fr_kk_F {t t1 : hy_T} (h : fr_kk t) (hY : ∀ r j, fr_kY r j = true → t1 r j = t r j) : fr_kk t1 := by
  obtain ⟨⟨⟨s1, s2, s3⟩, s4, s5⟩, s6, s7, s8, s9⟩ := h
  have c3 : t1 37 3 = t 37 3 := hY 37 3 rfl
  refine ⟨⟨⟨by rw [c3, hY 59 54 rfl]; exact s1, by rw [c3]; exact s2, by rw [c3]; exact s3⟩, by rw [hY 37 4 rfl, hY 59 55 rfl]; exact s4, by rw [hY 37 5 rfl, hY 59 56 rfl]; exact s5⟩, fun j hj => by rw [mf_plain_F (hY 59 0 rfl) (fun j => hY 60 j rfl), hY 38 j rfl, hY 93 j rfl]; exact s6 j hj, fun i w hi hw => ?_, fun j hj => by rw [hY 39 j rfl, hY 95 j rfl]; exact s8 j hj, fun i hi => ?_⟩
  · rw [c3] at hi
    rw [hY 40 _ rfl, hY 94 _ rfl]
    exact s7 i w hi hw
  · rw [c3] at hi
    rw [mf_plain_F (hY 59 0 rfl) (fun j => hY 60 j rfl), hY 94 _ rfl]
    exact s9 i hi
theorem fr_k_F {t t1 : hy_T} (h : fr_k t) (hY : ∀ r j, fr_kY r j = true → t1 r j = t r j) : fr_k t1 := by
  refine ⟨by rw [hY 2 9 rfl, hY 59 57 rfl]; exact h.1, fun q => ?_⟩
  rw [hY 2 9 rfl] at q
  exact fr_kk_F (h.2 q) hY
abbrev fr_Y : Nat → Nat → Bool := fun r j => fr_tY r j || fr_pY r j || fr_gY r j || fl_Y r j || fr_nY r j || fr_kY r j
theorem fr_F (t t1 : hy_T) (h : fr t) (hY : ∀ r j, fr_Y r j = true → t1 r j = t r j) : fr t1 :=
  ⟨⟨fr_t_F h.1.1 (fun r j q => hY r j (by simp only [fr_Y, q]; simp)), fr_p_F h.1.2 (fun r j q => hY r j (by simp only [fr_Y, q]; simp))⟩, ⟨fr_g_F h.2.1.1 (fun r j q => hY r j (by simp only [fr_Y, q]; simp)), fl_law_F h.2.1.2 (fun r j q => hY r j (by simp only [fr_Y, fl_Y, q]; simp))⟩, fr_n_F h.2.2.1 (fun r j q => hY r j (by simp only [fr_Y, q]; simp)), fr_k_F h.2.2.2 (fun r j q => hY r j (by simp only [fr_Y, q]; simp))⟩
/-! tapes -/
theorem fr_len {XW XM : Nat → Nat → Bool} {t t1 t2 : hy_T} (h : fr_t t) (F : hy_F XW t t1) (F2 : hy_F XM t1 t2) (a4 : ∀ j, XW 4 j = false) (b65 : ∀ j, XW 65 j = false) (c4 : ∀ j, XM 4 j = false) (d65 : ∀ j, XM 65 j = false) (h5 : t2 3 1 = t2 59 9) : fr_t t2 :=
  ⟨h5, fun j hj => by rw [F2 4 j (c4 j), F2 65 j (d65 j), F 4 j (a4 j), F 65 j (b65 j)]; exact h.2 j hj⟩
theorem fr_feed {t t1 t2 : hy_T} {a b c d e : Int} (k : cK t) (h : fr t) (F : hy_F taX t t1) (F2 : hy_F feX t1 t2) (e2 : t1 = if t 3 1 ≤ 240 then wf_feed t a b c d e else t) (e4 : t2 = if t1 59 9 ≤ 240 then mf_feed t1 a b c d e else t1) : fr t2 := by
  have x := F 59 9 rfl
  have h0 : t 3 1 = t 59 9 := h.1.1.1
  have hl := k.tp.l
  refine ⟨⟨?_, (fr_p_F h.1.2 (ff F F2 (Y := fr_pY) (fun r j q => by revert q; simp only [fr_tY, fr_pY, fr_gY, fl_Y, fr_nY, fr_kY, fsC, fsM, lawX, eX, lX, pX, fX, snX, brX, wyX, paX, trX, asX, gdX, lnX, lkX, lpX, lwcX, tyX, jyX, mkX, dzX, cpX, taX, glX, t1X, spX, dgX, kpX, mlawX, mvX, meX, mlX, mfaX, stX, hvX, pwX, btX, sgX, mlsX, jdX, tdX, dsX, enX, mftX, ldrX, wmX, maX, lwX, lrX, mrX, feX, ngX, trsX, dysX, gnX, t9X, spmX, kpmX, udX, Bool.or_eq_true, Bool.and_eq_true, decide_eq_true_eq, decide_eq_false_iff_not, beq_iff_eq, Bool.or_eq_false_iff, Bool.and_eq_false_iff, beq_eq_false_iff_ne]; omega) (fun r j q => by revert q; simp only [fr_tY, fr_pY, fr_gY, fl_Y, fr_nY, fr_kY, fsC, fsM, lawX, eX, lX, pX, fX, snX, brX, wyX, paX, trX, asX, gdX, lnX, lkX, lpX, lwcX, tyX, jyX, mkX, dzX, cpX, taX, glX, t1X, spX, dgX, kpX, mlawX, mvX, meX, mlX, mfaX, stX, hvX, pwX, btX, sgX, mlsX, jdX, tdX, dsX, enX, mftX, ldrX, wmX, maX, lwX, lrX, mrX, feX, ngX, trsX, dysX, gnX, t9X, spmX, kpmX, udX, Bool.or_eq_true, Bool.and_eq_true, decide_eq_true_eq, decide_eq_false_iff_not, beq_iff_eq, Bool.or_eq_false_iff, Bool.and_eq_false_iff, beq_eq_false_iff_ne]; omega)))⟩, ⟨(fr_g_F h.2.1.1 (ff F F2 (Y := fr_gY) (fun r j q => by revert q; simp only [fr_tY, fr_pY, fr_gY, fl_Y, fr_nY, fr_kY, fsC, fsM, lawX, eX, lX, pX, fX, snX, brX, wyX, paX, trX, asX, gdX, lnX, lkX, lpX, lwcX, tyX, jyX, mkX, dzX, cpX, taX, glX, t1X, spX, dgX, kpX, mlawX, mvX, meX, mlX, mfaX, stX, hvX, pwX, btX, sgX, mlsX, jdX, tdX, dsX, enX, mftX, ldrX, wmX, maX, lwX, lrX, mrX, feX, ngX, trsX, dysX, gnX, t9X, spmX, kpmX, udX, Bool.or_eq_true, Bool.and_eq_true, decide_eq_true_eq, decide_eq_false_iff_not, beq_iff_eq, Bool.or_eq_false_iff, Bool.and_eq_false_iff, beq_eq_false_iff_ne]; omega) (fun r j q => by revert q; simp only [fr_tY, fr_pY, fr_gY, fl_Y, fr_nY, fr_kY, fsC, fsM, lawX, eX, lX, pX, fX, snX, brX, wyX, paX, trX, asX, gdX, lnX, lkX, lpX, lwcX, tyX, jyX, mkX, dzX, cpX, taX, glX, t1X, spX, dgX, kpX, mlawX, mvX, meX, mlX, mfaX, stX, hvX, pwX, btX, sgX, mlsX, jdX, tdX, dsX, enX, mftX, ldrX, wmX, maX, lwX, lrX, mrX, feX, ngX, trsX, dysX, gnX, t9X, spmX, kpmX, udX, Bool.or_eq_true, Bool.and_eq_true, decide_eq_true_eq, decide_eq_false_iff_not, beq_iff_eq, Bool.or_eq_false_iff, Bool.and_eq_false_iff, beq_eq_false_iff_ne]; omega))), (fl_law_F h.2.1.2 (ff F F2 (Y := fl_Y) (fun r j q => by revert q; simp only [fr_tY, fr_pY, fr_gY, fl_Y, fr_nY, fr_kY, fsC, fsM, lawX, eX, lX, pX, fX, snX, brX, wyX, paX, trX, asX, gdX, lnX, lkX, lpX, lwcX, tyX, jyX, mkX, dzX, cpX, taX, glX, t1X, spX, dgX, kpX, mlawX, mvX, meX, mlX, mfaX, stX, hvX, pwX, btX, sgX, mlsX, jdX, tdX, dsX, enX, mftX, ldrX, wmX, maX, lwX, lrX, mrX, feX, ngX, trsX, dysX, gnX, t9X, spmX, kpmX, udX, Bool.or_eq_true, Bool.and_eq_true, decide_eq_true_eq, decide_eq_false_iff_not, beq_iff_eq, Bool.or_eq_false_iff, Bool.and_eq_false_iff, beq_eq_false_iff_ne]; omega) (fun r j q => by revert q; simp only [fr_tY, fr_pY, fr_gY, fl_Y, fr_nY, fr_kY, fsC, fsM, lawX, eX, lX, pX, fX, snX, brX, wyX, paX, trX, asX, gdX, lnX, lkX, lpX, lwcX, tyX, jyX, mkX, dzX, cpX, taX, glX, t1X, spX, dgX, kpX, mlawX, mvX, meX, mlX, mfaX, stX, hvX, pwX, btX, sgX, mlsX, jdX, tdX, dsX, enX, mftX, ldrX, wmX, maX, lwX, lrX, mrX, feX, ngX, trsX, dysX, gnX, t9X, spmX, kpmX, udX, Bool.or_eq_true, Bool.and_eq_true, decide_eq_true_eq, decide_eq_false_iff_not, beq_iff_eq, Bool.or_eq_false_iff, Bool.and_eq_false_iff, beq_eq_false_iff_ne]; omega)))⟩, (fr_n_F h.2.2.1 (ff F F2 (Y := fr_nY) (fun r j q => by revert q; simp only [fr_tY, fr_pY, fr_gY, fl_Y, fr_nY, fr_kY, fsC, fsM, lawX, eX, lX, pX, fX, snX, brX, wyX, paX, trX, asX, gdX, lnX, lkX, lpX, lwcX, tyX, jyX, mkX, dzX, cpX, taX, glX, t1X, spX, dgX, kpX, mlawX, mvX, meX, mlX, mfaX, stX, hvX, pwX, btX, sgX, mlsX, jdX, tdX, dsX, enX, mftX, ldrX, wmX, maX, lwX, lrX, mrX, feX, ngX, trsX, dysX, gnX, t9X, spmX, kpmX, udX, Bool.or_eq_true, Bool.and_eq_true, decide_eq_true_eq, decide_eq_false_iff_not, beq_iff_eq, Bool.or_eq_false_iff, Bool.and_eq_false_iff, beq_eq_false_iff_ne]; omega) (fun r j q => by revert q; simp only [fr_tY, fr_pY, fr_gY, fl_Y, fr_nY, fr_kY, fsC, fsM, lawX, eX, lX, pX, fX, snX, brX, wyX, paX, trX, asX, gdX, lnX, lkX, lpX, lwcX, tyX, jyX, mkX, dzX, cpX, taX, glX, t1X, spX, dgX, kpX, mlawX, mvX, meX, mlX, mfaX, stX, hvX, pwX, btX, sgX, mlsX, jdX, tdX, dsX, enX, mftX, ldrX, wmX, maX, lwX, lrX, mrX, feX, ngX, trsX, dysX, gnX, t9X, spmX, kpmX, udX, Bool.or_eq_true, Bool.and_eq_true, decide_eq_true_eq, decide_eq_false_iff_not, beq_iff_eq, Bool.or_eq_false_iff, Bool.and_eq_false_iff, beq_eq_false_iff_ne]; omega))), (fr_k_F h.2.2.2 (ff F F2 (Y := fr_kY) (fun r j q => by revert q; simp only [fr_tY, fr_pY, fr_gY, fl_Y, fr_nY, fr_kY, fsC, fsM, lawX, eX, lX, pX, fX, snX, brX, wyX, paX, trX, asX, gdX, lnX, lkX, lpX, lwcX, tyX, jyX, mkX, dzX, cpX, taX, glX, t1X, spX, dgX, kpX, mlawX, mvX, meX, mlX, mfaX, stX, hvX, pwX, btX, sgX, mlsX, jdX, tdX, dsX, enX, mftX, ldrX, wmX, maX, lwX, lrX, mrX, feX, ngX, trsX, dysX, gnX, t9X, spmX, kpmX, udX, Bool.or_eq_true, Bool.and_eq_true, decide_eq_true_eq, decide_eq_false_iff_not, beq_iff_eq, Bool.or_eq_false_iff, Bool.and_eq_false_iff, beq_eq_false_iff_ne]; omega) (fun r j q => by revert q; simp only [fr_tY, fr_pY, fr_gY, fl_Y, fr_nY, fr_kY, fsC, fsM, lawX, eX, lX, pX, fX, snX, brX, wyX, paX, trX, asX, gdX, lnX, lkX, lpX, lwcX, tyX, jyX, mkX, dzX, cpX, taX, glX, t1X, spX, dgX, kpX, mlawX, mvX, meX, mlX, mfaX, stX, hvX, pwX, btX, sgX, mlsX, jdX, tdX, dsX, enX, mftX, ldrX, wmX, maX, lwX, lrX, mrX, feX, ngX, trsX, dysX, gnX, t9X, spmX, kpmX, udX, Bool.or_eq_true, Bool.and_eq_true, decide_eq_true_eq, decide_eq_false_iff_not, beq_iff_eq, Bool.or_eq_false_iff, Bool.and_eq_false_iff, beq_eq_false_iff_ne]; omega)))⟩
  by_cases hq : t 3 1 ≤ 240
  · rw [if_pos hq] at e2
    rw [if_pos (by omega)] at e4
    have b0 : p30_b t t1 := ⟨by omega, fun j hj => by rw [F 65 j rfl]; exact h.1.1.2 j hj⟩
    have b1 := p30_20 b0 ⟨hl.1, hq⟩ a b c d e
    rw [← e2, ← e4] at b1
    exact ⟨by rw [F2 3 1 rfl]; exact b1.1, fun j hj => by rw [F2 4 j rfl]; exact b1.2 j hj⟩
  · rw [if_neg hq] at e2
    rw [if_neg (by omega)] at e4
    rw [e4, e2]
    exact h.1.1
theorem fr_check {t t1 t2 : hy_T} {n : Int} (h : fr t) (F : hy_F t1X t t1) (F2 : hy_F t9X t1 t2) (e1 : t1 = if (0 ≤ n ∧ n ≤ 8) ∧ 4 * n ≤ t 3 1 then hy_up t 3 1 0 else t) (e2 : t2 = if (0 ≤ n ∧ n ≤ 8) ∧ 4 * n ≤ t1 59 9 then hy_up t1 59 9 0 else t1) : fr t2 :=
  ⟨⟨fr_len h.1.1 F F2 (fun _ => rfl) (fun _ => rfl) (fun _ => rfl) (fun _ => rfl) (p5_check (t := t) h.1.1.1 F F2 e1 e2), (fr_p_F h.1.2 (ff F F2 (Y := fr_pY) (fun r j q => by revert q; simp only [fr_tY, fr_pY, fr_gY, fl_Y, fr_nY, fr_kY, fsC, fsM, lawX, eX, lX, pX, fX, snX, brX, wyX, paX, trX, asX, gdX, lnX, lkX, lpX, lwcX, tyX, jyX, mkX, dzX, cpX, taX, glX, t1X, spX, dgX, kpX, mlawX, mvX, meX, mlX, mfaX, stX, hvX, pwX, btX, sgX, mlsX, jdX, tdX, dsX, enX, mftX, ldrX, wmX, maX, lwX, lrX, mrX, feX, ngX, trsX, dysX, gnX, t9X, spmX, kpmX, udX, Bool.or_eq_true, Bool.and_eq_true, decide_eq_true_eq, decide_eq_false_iff_not, beq_iff_eq, Bool.or_eq_false_iff, Bool.and_eq_false_iff, beq_eq_false_iff_ne]; omega) (fun r j q => by revert q; simp only [fr_tY, fr_pY, fr_gY, fl_Y, fr_nY, fr_kY, fsC, fsM, lawX, eX, lX, pX, fX, snX, brX, wyX, paX, trX, asX, gdX, lnX, lkX, lpX, lwcX, tyX, jyX, mkX, dzX, cpX, taX, glX, t1X, spX, dgX, kpX, mlawX, mvX, meX, mlX, mfaX, stX, hvX, pwX, btX, sgX, mlsX, jdX, tdX, dsX, enX, mftX, ldrX, wmX, maX, lwX, lrX, mrX, feX, ngX, trsX, dysX, gnX, t9X, spmX, kpmX, udX, Bool.or_eq_true, Bool.and_eq_true, decide_eq_true_eq, decide_eq_false_iff_not, beq_iff_eq, Bool.or_eq_false_iff, Bool.and_eq_false_iff, beq_eq_false_iff_ne]; omega)))⟩, ⟨(fr_g_F h.2.1.1 (ff F F2 (Y := fr_gY) (fun r j q => by revert q; simp only [fr_tY, fr_pY, fr_gY, fl_Y, fr_nY, fr_kY, fsC, fsM, lawX, eX, lX, pX, fX, snX, brX, wyX, paX, trX, asX, gdX, lnX, lkX, lpX, lwcX, tyX, jyX, mkX, dzX, cpX, taX, glX, t1X, spX, dgX, kpX, mlawX, mvX, meX, mlX, mfaX, stX, hvX, pwX, btX, sgX, mlsX, jdX, tdX, dsX, enX, mftX, ldrX, wmX, maX, lwX, lrX, mrX, feX, ngX, trsX, dysX, gnX, t9X, spmX, kpmX, udX, Bool.or_eq_true, Bool.and_eq_true, decide_eq_true_eq, decide_eq_false_iff_not, beq_iff_eq, Bool.or_eq_false_iff, Bool.and_eq_false_iff, beq_eq_false_iff_ne]; omega) (fun r j q => by revert q; simp only [fr_tY, fr_pY, fr_gY, fl_Y, fr_nY, fr_kY, fsC, fsM, lawX, eX, lX, pX, fX, snX, brX, wyX, paX, trX, asX, gdX, lnX, lkX, lpX, lwcX, tyX, jyX, mkX, dzX, cpX, taX, glX, t1X, spX, dgX, kpX, mlawX, mvX, meX, mlX, mfaX, stX, hvX, pwX, btX, sgX, mlsX, jdX, tdX, dsX, enX, mftX, ldrX, wmX, maX, lwX, lrX, mrX, feX, ngX, trsX, dysX, gnX, t9X, spmX, kpmX, udX, Bool.or_eq_true, Bool.and_eq_true, decide_eq_true_eq, decide_eq_false_iff_not, beq_iff_eq, Bool.or_eq_false_iff, Bool.and_eq_false_iff, beq_eq_false_iff_ne]; omega))), (fl_law_F h.2.1.2 (ff F F2 (Y := fl_Y) (fun r j q => by revert q; simp only [fr_tY, fr_pY, fr_gY, fl_Y, fr_nY, fr_kY, fsC, fsM, lawX, eX, lX, pX, fX, snX, brX, wyX, paX, trX, asX, gdX, lnX, lkX, lpX, lwcX, tyX, jyX, mkX, dzX, cpX, taX, glX, t1X, spX, dgX, kpX, mlawX, mvX, meX, mlX, mfaX, stX, hvX, pwX, btX, sgX, mlsX, jdX, tdX, dsX, enX, mftX, ldrX, wmX, maX, lwX, lrX, mrX, feX, ngX, trsX, dysX, gnX, t9X, spmX, kpmX, udX, Bool.or_eq_true, Bool.and_eq_true, decide_eq_true_eq, decide_eq_false_iff_not, beq_iff_eq, Bool.or_eq_false_iff, Bool.and_eq_false_iff, beq_eq_false_iff_ne]; omega) (fun r j q => by revert q; simp only [fr_tY, fr_pY, fr_gY, fl_Y, fr_nY, fr_kY, fsC, fsM, lawX, eX, lX, pX, fX, snX, brX, wyX, paX, trX, asX, gdX, lnX, lkX, lpX, lwcX, tyX, jyX, mkX, dzX, cpX, taX, glX, t1X, spX, dgX, kpX, mlawX, mvX, meX, mlX, mfaX, stX, hvX, pwX, btX, sgX, mlsX, jdX, tdX, dsX, enX, mftX, ldrX, wmX, maX, lwX, lrX, mrX, feX, ngX, trsX, dysX, gnX, t9X, spmX, kpmX, udX, Bool.or_eq_true, Bool.and_eq_true, decide_eq_true_eq, decide_eq_false_iff_not, beq_iff_eq, Bool.or_eq_false_iff, Bool.and_eq_false_iff, beq_eq_false_iff_ne]; omega)))⟩, (fr_n_F h.2.2.1 (ff F F2 (Y := fr_nY) (fun r j q => by revert q; simp only [fr_tY, fr_pY, fr_gY, fl_Y, fr_nY, fr_kY, fsC, fsM, lawX, eX, lX, pX, fX, snX, brX, wyX, paX, trX, asX, gdX, lnX, lkX, lpX, lwcX, tyX, jyX, mkX, dzX, cpX, taX, glX, t1X, spX, dgX, kpX, mlawX, mvX, meX, mlX, mfaX, stX, hvX, pwX, btX, sgX, mlsX, jdX, tdX, dsX, enX, mftX, ldrX, wmX, maX, lwX, lrX, mrX, feX, ngX, trsX, dysX, gnX, t9X, spmX, kpmX, udX, Bool.or_eq_true, Bool.and_eq_true, decide_eq_true_eq, decide_eq_false_iff_not, beq_iff_eq, Bool.or_eq_false_iff, Bool.and_eq_false_iff, beq_eq_false_iff_ne]; omega) (fun r j q => by revert q; simp only [fr_tY, fr_pY, fr_gY, fl_Y, fr_nY, fr_kY, fsC, fsM, lawX, eX, lX, pX, fX, snX, brX, wyX, paX, trX, asX, gdX, lnX, lkX, lpX, lwcX, tyX, jyX, mkX, dzX, cpX, taX, glX, t1X, spX, dgX, kpX, mlawX, mvX, meX, mlX, mfaX, stX, hvX, pwX, btX, sgX, mlsX, jdX, tdX, dsX, enX, mftX, ldrX, wmX, maX, lwX, lrX, mrX, feX, ngX, trsX, dysX, gnX, t9X, spmX, kpmX, udX, Bool.or_eq_true, Bool.and_eq_true, decide_eq_true_eq, decide_eq_false_iff_not, beq_iff_eq, Bool.or_eq_false_iff, Bool.and_eq_false_iff, beq_eq_false_iff_ne]; omega))), (fr_k_F h.2.2.2 (ff F F2 (Y := fr_kY) (fun r j q => by revert q; simp only [fr_tY, fr_pY, fr_gY, fl_Y, fr_nY, fr_kY, fsC, fsM, lawX, eX, lX, pX, fX, snX, brX, wyX, paX, trX, asX, gdX, lnX, lkX, lpX, lwcX, tyX, jyX, mkX, dzX, cpX, taX, glX, t1X, spX, dgX, kpX, mlawX, mvX, meX, mlX, mfaX, stX, hvX, pwX, btX, sgX, mlsX, jdX, tdX, dsX, enX, mftX, ldrX, wmX, maX, lwX, lrX, mrX, feX, ngX, trsX, dysX, gnX, t9X, spmX, kpmX, udX, Bool.or_eq_true, Bool.and_eq_true, decide_eq_true_eq, decide_eq_false_iff_not, beq_iff_eq, Bool.or_eq_false_iff, Bool.and_eq_false_iff, beq_eq_false_iff_ne]; omega) (fun r j q => by revert q; simp only [fr_tY, fr_pY, fr_gY, fl_Y, fr_nY, fr_kY, fsC, fsM, lawX, eX, lX, pX, fX, snX, brX, wyX, paX, trX, asX, gdX, lnX, lkX, lpX, lwcX, tyX, jyX, mkX, dzX, cpX, taX, glX, t1X, spX, dgX, kpX, mlawX, mvX, meX, mlX, mfaX, stX, hvX, pwX, btX, sgX, mlsX, jdX, tdX, dsX, enX, mftX, ldrX, wmX, maX, lwX, lrX, mrX, feX, ngX, trsX, dysX, gnX, t9X, spmX, kpmX, udX, Bool.or_eq_true, Bool.and_eq_true, decide_eq_true_eq, decide_eq_false_iff_not, beq_iff_eq, Bool.or_eq_false_iff, Bool.and_eq_false_iff, beq_eq_false_iff_ne]; omega)))⟩
theorem fr_parted {t t1 t2 : hy_T} {m w : Int} (hR : hy_R w) (h : fr t) (F : hy_F t1X t t1) (F2 : hy_F t9X t1 t2) (e1 : t1 = if wf_partok t m w then hy_up t 3 1 0 else t) (e2 : t2 = if mf_ptc t1 m w then hy_up t1 59 9 0 else t1) : fr t2 :=
  ⟨⟨fr_len h.1.1 F F2 (fun _ => rfl) (fun _ => rfl) (fun _ => rfl) (fun _ => rfl) (p5_parted (t := t) hR h.1.1.1 F F2 e1 e2), (fr_p_F h.1.2 (ff F F2 (Y := fr_pY) (fun r j q => by revert q; simp only [fr_tY, fr_pY, fr_gY, fl_Y, fr_nY, fr_kY, fsC, fsM, lawX, eX, lX, pX, fX, snX, brX, wyX, paX, trX, asX, gdX, lnX, lkX, lpX, lwcX, tyX, jyX, mkX, dzX, cpX, taX, glX, t1X, spX, dgX, kpX, mlawX, mvX, meX, mlX, mfaX, stX, hvX, pwX, btX, sgX, mlsX, jdX, tdX, dsX, enX, mftX, ldrX, wmX, maX, lwX, lrX, mrX, feX, ngX, trsX, dysX, gnX, t9X, spmX, kpmX, udX, Bool.or_eq_true, Bool.and_eq_true, decide_eq_true_eq, decide_eq_false_iff_not, beq_iff_eq, Bool.or_eq_false_iff, Bool.and_eq_false_iff, beq_eq_false_iff_ne]; omega) (fun r j q => by revert q; simp only [fr_tY, fr_pY, fr_gY, fl_Y, fr_nY, fr_kY, fsC, fsM, lawX, eX, lX, pX, fX, snX, brX, wyX, paX, trX, asX, gdX, lnX, lkX, lpX, lwcX, tyX, jyX, mkX, dzX, cpX, taX, glX, t1X, spX, dgX, kpX, mlawX, mvX, meX, mlX, mfaX, stX, hvX, pwX, btX, sgX, mlsX, jdX, tdX, dsX, enX, mftX, ldrX, wmX, maX, lwX, lrX, mrX, feX, ngX, trsX, dysX, gnX, t9X, spmX, kpmX, udX, Bool.or_eq_true, Bool.and_eq_true, decide_eq_true_eq, decide_eq_false_iff_not, beq_iff_eq, Bool.or_eq_false_iff, Bool.and_eq_false_iff, beq_eq_false_iff_ne]; omega)))⟩, ⟨(fr_g_F h.2.1.1 (ff F F2 (Y := fr_gY) (fun r j q => by revert q; simp only [fr_tY, fr_pY, fr_gY, fl_Y, fr_nY, fr_kY, fsC, fsM, lawX, eX, lX, pX, fX, snX, brX, wyX, paX, trX, asX, gdX, lnX, lkX, lpX, lwcX, tyX, jyX, mkX, dzX, cpX, taX, glX, t1X, spX, dgX, kpX, mlawX, mvX, meX, mlX, mfaX, stX, hvX, pwX, btX, sgX, mlsX, jdX, tdX, dsX, enX, mftX, ldrX, wmX, maX, lwX, lrX, mrX, feX, ngX, trsX, dysX, gnX, t9X, spmX, kpmX, udX, Bool.or_eq_true, Bool.and_eq_true, decide_eq_true_eq, decide_eq_false_iff_not, beq_iff_eq, Bool.or_eq_false_iff, Bool.and_eq_false_iff, beq_eq_false_iff_ne]; omega) (fun r j q => by revert q; simp only [fr_tY, fr_pY, fr_gY, fl_Y, fr_nY, fr_kY, fsC, fsM, lawX, eX, lX, pX, fX, snX, brX, wyX, paX, trX, asX, gdX, lnX, lkX, lpX, lwcX, tyX, jyX, mkX, dzX, cpX, taX, glX, t1X, spX, dgX, kpX, mlawX, mvX, meX, mlX, mfaX, stX, hvX, pwX, btX, sgX, mlsX, jdX, tdX, dsX, enX, mftX, ldrX, wmX, maX, lwX, lrX, mrX, feX, ngX, trsX, dysX, gnX, t9X, spmX, kpmX, udX, Bool.or_eq_true, Bool.and_eq_true, decide_eq_true_eq, decide_eq_false_iff_not, beq_iff_eq, Bool.or_eq_false_iff, Bool.and_eq_false_iff, beq_eq_false_iff_ne]; omega))), (fl_law_F h.2.1.2 (ff F F2 (Y := fl_Y) (fun r j q => by revert q; simp only [fr_tY, fr_pY, fr_gY, fl_Y, fr_nY, fr_kY, fsC, fsM, lawX, eX, lX, pX, fX, snX, brX, wyX, paX, trX, asX, gdX, lnX, lkX, lpX, lwcX, tyX, jyX, mkX, dzX, cpX, taX, glX, t1X, spX, dgX, kpX, mlawX, mvX, meX, mlX, mfaX, stX, hvX, pwX, btX, sgX, mlsX, jdX, tdX, dsX, enX, mftX, ldrX, wmX, maX, lwX, lrX, mrX, feX, ngX, trsX, dysX, gnX, t9X, spmX, kpmX, udX, Bool.or_eq_true, Bool.and_eq_true, decide_eq_true_eq, decide_eq_false_iff_not, beq_iff_eq, Bool.or_eq_false_iff, Bool.and_eq_false_iff, beq_eq_false_iff_ne]; omega) (fun r j q => by revert q; simp only [fr_tY, fr_pY, fr_gY, fl_Y, fr_nY, fr_kY, fsC, fsM, lawX, eX, lX, pX, fX, snX, brX, wyX, paX, trX, asX, gdX, lnX, lkX, lpX, lwcX, tyX, jyX, mkX, dzX, cpX, taX, glX, t1X, spX, dgX, kpX, mlawX, mvX, meX, mlX, mfaX, stX, hvX, pwX, btX, sgX, mlsX, jdX, tdX, dsX, enX, mftX, ldrX, wmX, maX, lwX, lrX, mrX, feX, ngX, trsX, dysX, gnX, t9X, spmX, kpmX, udX, Bool.or_eq_true, Bool.and_eq_true, decide_eq_true_eq, decide_eq_false_iff_not, beq_iff_eq, Bool.or_eq_false_iff, Bool.and_eq_false_iff, beq_eq_false_iff_ne]; omega)))⟩, (fr_n_F h.2.2.1 (ff F F2 (Y := fr_nY) (fun r j q => by revert q; simp only [fr_tY, fr_pY, fr_gY, fl_Y, fr_nY, fr_kY, fsC, fsM, lawX, eX, lX, pX, fX, snX, brX, wyX, paX, trX, asX, gdX, lnX, lkX, lpX, lwcX, tyX, jyX, mkX, dzX, cpX, taX, glX, t1X, spX, dgX, kpX, mlawX, mvX, meX, mlX, mfaX, stX, hvX, pwX, btX, sgX, mlsX, jdX, tdX, dsX, enX, mftX, ldrX, wmX, maX, lwX, lrX, mrX, feX, ngX, trsX, dysX, gnX, t9X, spmX, kpmX, udX, Bool.or_eq_true, Bool.and_eq_true, decide_eq_true_eq, decide_eq_false_iff_not, beq_iff_eq, Bool.or_eq_false_iff, Bool.and_eq_false_iff, beq_eq_false_iff_ne]; omega) (fun r j q => by revert q; simp only [fr_tY, fr_pY, fr_gY, fl_Y, fr_nY, fr_kY, fsC, fsM, lawX, eX, lX, pX, fX, snX, brX, wyX, paX, trX, asX, gdX, lnX, lkX, lpX, lwcX, tyX, jyX, mkX, dzX, cpX, taX, glX, t1X, spX, dgX, kpX, mlawX, mvX, meX, mlX, mfaX, stX, hvX, pwX, btX, sgX, mlsX, jdX, tdX, dsX, enX, mftX, ldrX, wmX, maX, lwX, lrX, mrX, feX, ngX, trsX, dysX, gnX, t9X, spmX, kpmX, udX, Bool.or_eq_true, Bool.and_eq_true, decide_eq_true_eq, decide_eq_false_iff_not, beq_iff_eq, Bool.or_eq_false_iff, Bool.and_eq_false_iff, beq_eq_false_iff_ne]; omega))), (fr_k_F h.2.2.2 (ff F F2 (Y := fr_kY) (fun r j q => by revert q; simp only [fr_tY, fr_pY, fr_gY, fl_Y, fr_nY, fr_kY, fsC, fsM, lawX, eX, lX, pX, fX, snX, brX, wyX, paX, trX, asX, gdX, lnX, lkX, lpX, lwcX, tyX, jyX, mkX, dzX, cpX, taX, glX, t1X, spX, dgX, kpX, mlawX, mvX, meX, mlX, mfaX, stX, hvX, pwX, btX, sgX, mlsX, jdX, tdX, dsX, enX, mftX, ldrX, wmX, maX, lwX, lrX, mrX, feX, ngX, trsX, dysX, gnX, t9X, spmX, kpmX, udX, Bool.or_eq_true, Bool.and_eq_true, decide_eq_true_eq, decide_eq_false_iff_not, beq_iff_eq, Bool.or_eq_false_iff, Bool.and_eq_false_iff, beq_eq_false_iff_ne]; omega) (fun r j q => by revert q; simp only [fr_tY, fr_pY, fr_gY, fl_Y, fr_nY, fr_kY, fsC, fsM, lawX, eX, lX, pX, fX, snX, brX, wyX, paX, trX, asX, gdX, lnX, lkX, lpX, lwcX, tyX, jyX, mkX, dzX, cpX, taX, glX, t1X, spX, dgX, kpX, mlawX, mvX, meX, mlX, mfaX, stX, hvX, pwX, btX, sgX, mlsX, jdX, tdX, dsX, enX, mftX, ldrX, wmX, maX, lwX, lrX, mrX, feX, ngX, trsX, dysX, gnX, t9X, spmX, kpmX, udX, Bool.or_eq_true, Bool.and_eq_true, decide_eq_true_eq, decide_eq_false_iff_not, beq_iff_eq, Bool.or_eq_false_iff, Bool.and_eq_false_iff, beq_eq_false_iff_ne]; omega)))⟩
theorem fr_spies {t t1 t2 : hy_T} {n w : Int} (h : fr t) (F : hy_F spX t t1) (F2 : hy_F spmX t1 t2) (c : t1 3 1 = if wf_spyok t n w then 0 else t 3 1) (e2 : t2 59 9 = if ms_spc t1 n w then 0 else t1 59 9) : fr t2 :=
  ⟨⟨fr_len h.1.1 F F2 (fun _ => rfl) (fun _ => rfl) (fun _ => rfl) (fun _ => rfl) (p5_spies (t := t) h.1.1.1 F F2 c e2), (fr_p_F h.1.2 (ff F F2 (Y := fr_pY) (fun r j q => by revert q; simp only [fr_tY, fr_pY, fr_gY, fl_Y, fr_nY, fr_kY, fsC, fsM, lawX, eX, lX, pX, fX, snX, brX, wyX, paX, trX, asX, gdX, lnX, lkX, lpX, lwcX, tyX, jyX, mkX, dzX, cpX, taX, glX, t1X, spX, dgX, kpX, mlawX, mvX, meX, mlX, mfaX, stX, hvX, pwX, btX, sgX, mlsX, jdX, tdX, dsX, enX, mftX, ldrX, wmX, maX, lwX, lrX, mrX, feX, ngX, trsX, dysX, gnX, t9X, spmX, kpmX, udX, Bool.or_eq_true, Bool.and_eq_true, decide_eq_true_eq, decide_eq_false_iff_not, beq_iff_eq, Bool.or_eq_false_iff, Bool.and_eq_false_iff, beq_eq_false_iff_ne]; omega) (fun r j q => by revert q; simp only [fr_tY, fr_pY, fr_gY, fl_Y, fr_nY, fr_kY, fsC, fsM, lawX, eX, lX, pX, fX, snX, brX, wyX, paX, trX, asX, gdX, lnX, lkX, lpX, lwcX, tyX, jyX, mkX, dzX, cpX, taX, glX, t1X, spX, dgX, kpX, mlawX, mvX, meX, mlX, mfaX, stX, hvX, pwX, btX, sgX, mlsX, jdX, tdX, dsX, enX, mftX, ldrX, wmX, maX, lwX, lrX, mrX, feX, ngX, trsX, dysX, gnX, t9X, spmX, kpmX, udX, Bool.or_eq_true, Bool.and_eq_true, decide_eq_true_eq, decide_eq_false_iff_not, beq_iff_eq, Bool.or_eq_false_iff, Bool.and_eq_false_iff, beq_eq_false_iff_ne]; omega)))⟩, ⟨(fr_g_F h.2.1.1 (ff F F2 (Y := fr_gY) (fun r j q => by revert q; simp only [fr_tY, fr_pY, fr_gY, fl_Y, fr_nY, fr_kY, fsC, fsM, lawX, eX, lX, pX, fX, snX, brX, wyX, paX, trX, asX, gdX, lnX, lkX, lpX, lwcX, tyX, jyX, mkX, dzX, cpX, taX, glX, t1X, spX, dgX, kpX, mlawX, mvX, meX, mlX, mfaX, stX, hvX, pwX, btX, sgX, mlsX, jdX, tdX, dsX, enX, mftX, ldrX, wmX, maX, lwX, lrX, mrX, feX, ngX, trsX, dysX, gnX, t9X, spmX, kpmX, udX, Bool.or_eq_true, Bool.and_eq_true, decide_eq_true_eq, decide_eq_false_iff_not, beq_iff_eq, Bool.or_eq_false_iff, Bool.and_eq_false_iff, beq_eq_false_iff_ne]; omega) (fun r j q => by revert q; simp only [fr_tY, fr_pY, fr_gY, fl_Y, fr_nY, fr_kY, fsC, fsM, lawX, eX, lX, pX, fX, snX, brX, wyX, paX, trX, asX, gdX, lnX, lkX, lpX, lwcX, tyX, jyX, mkX, dzX, cpX, taX, glX, t1X, spX, dgX, kpX, mlawX, mvX, meX, mlX, mfaX, stX, hvX, pwX, btX, sgX, mlsX, jdX, tdX, dsX, enX, mftX, ldrX, wmX, maX, lwX, lrX, mrX, feX, ngX, trsX, dysX, gnX, t9X, spmX, kpmX, udX, Bool.or_eq_true, Bool.and_eq_true, decide_eq_true_eq, decide_eq_false_iff_not, beq_iff_eq, Bool.or_eq_false_iff, Bool.and_eq_false_iff, beq_eq_false_iff_ne]; omega))), (fl_law_F h.2.1.2 (ff F F2 (Y := fl_Y) (fun r j q => by revert q; simp only [fr_tY, fr_pY, fr_gY, fl_Y, fr_nY, fr_kY, fsC, fsM, lawX, eX, lX, pX, fX, snX, brX, wyX, paX, trX, asX, gdX, lnX, lkX, lpX, lwcX, tyX, jyX, mkX, dzX, cpX, taX, glX, t1X, spX, dgX, kpX, mlawX, mvX, meX, mlX, mfaX, stX, hvX, pwX, btX, sgX, mlsX, jdX, tdX, dsX, enX, mftX, ldrX, wmX, maX, lwX, lrX, mrX, feX, ngX, trsX, dysX, gnX, t9X, spmX, kpmX, udX, Bool.or_eq_true, Bool.and_eq_true, decide_eq_true_eq, decide_eq_false_iff_not, beq_iff_eq, Bool.or_eq_false_iff, Bool.and_eq_false_iff, beq_eq_false_iff_ne]; omega) (fun r j q => by revert q; simp only [fr_tY, fr_pY, fr_gY, fl_Y, fr_nY, fr_kY, fsC, fsM, lawX, eX, lX, pX, fX, snX, brX, wyX, paX, trX, asX, gdX, lnX, lkX, lpX, lwcX, tyX, jyX, mkX, dzX, cpX, taX, glX, t1X, spX, dgX, kpX, mlawX, mvX, meX, mlX, mfaX, stX, hvX, pwX, btX, sgX, mlsX, jdX, tdX, dsX, enX, mftX, ldrX, wmX, maX, lwX, lrX, mrX, feX, ngX, trsX, dysX, gnX, t9X, spmX, kpmX, udX, Bool.or_eq_true, Bool.and_eq_true, decide_eq_true_eq, decide_eq_false_iff_not, beq_iff_eq, Bool.or_eq_false_iff, Bool.and_eq_false_iff, beq_eq_false_iff_ne]; omega)))⟩, (fr_n_F h.2.2.1 (ff F F2 (Y := fr_nY) (fun r j q => by revert q; simp only [fr_tY, fr_pY, fr_gY, fl_Y, fr_nY, fr_kY, fsC, fsM, lawX, eX, lX, pX, fX, snX, brX, wyX, paX, trX, asX, gdX, lnX, lkX, lpX, lwcX, tyX, jyX, mkX, dzX, cpX, taX, glX, t1X, spX, dgX, kpX, mlawX, mvX, meX, mlX, mfaX, stX, hvX, pwX, btX, sgX, mlsX, jdX, tdX, dsX, enX, mftX, ldrX, wmX, maX, lwX, lrX, mrX, feX, ngX, trsX, dysX, gnX, t9X, spmX, kpmX, udX, Bool.or_eq_true, Bool.and_eq_true, decide_eq_true_eq, decide_eq_false_iff_not, beq_iff_eq, Bool.or_eq_false_iff, Bool.and_eq_false_iff, beq_eq_false_iff_ne]; omega) (fun r j q => by revert q; simp only [fr_tY, fr_pY, fr_gY, fl_Y, fr_nY, fr_kY, fsC, fsM, lawX, eX, lX, pX, fX, snX, brX, wyX, paX, trX, asX, gdX, lnX, lkX, lpX, lwcX, tyX, jyX, mkX, dzX, cpX, taX, glX, t1X, spX, dgX, kpX, mlawX, mvX, meX, mlX, mfaX, stX, hvX, pwX, btX, sgX, mlsX, jdX, tdX, dsX, enX, mftX, ldrX, wmX, maX, lwX, lrX, mrX, feX, ngX, trsX, dysX, gnX, t9X, spmX, kpmX, udX, Bool.or_eq_true, Bool.and_eq_true, decide_eq_true_eq, decide_eq_false_iff_not, beq_iff_eq, Bool.or_eq_false_iff, Bool.and_eq_false_iff, beq_eq_false_iff_ne]; omega))), (fr_k_F h.2.2.2 (ff F F2 (Y := fr_kY) (fun r j q => by revert q; simp only [fr_tY, fr_pY, fr_gY, fl_Y, fr_nY, fr_kY, fsC, fsM, lawX, eX, lX, pX, fX, snX, brX, wyX, paX, trX, asX, gdX, lnX, lkX, lpX, lwcX, tyX, jyX, mkX, dzX, cpX, taX, glX, t1X, spX, dgX, kpX, mlawX, mvX, meX, mlX, mfaX, stX, hvX, pwX, btX, sgX, mlsX, jdX, tdX, dsX, enX, mftX, ldrX, wmX, maX, lwX, lrX, mrX, feX, ngX, trsX, dysX, gnX, t9X, spmX, kpmX, udX, Bool.or_eq_true, Bool.and_eq_true, decide_eq_true_eq, decide_eq_false_iff_not, beq_iff_eq, Bool.or_eq_false_iff, Bool.and_eq_false_iff, beq_eq_false_iff_ne]; omega) (fun r j q => by revert q; simp only [fr_tY, fr_pY, fr_gY, fl_Y, fr_nY, fr_kY, fsC, fsM, lawX, eX, lX, pX, fX, snX, brX, wyX, paX, trX, asX, gdX, lnX, lkX, lpX, lwcX, tyX, jyX, mkX, dzX, cpX, taX, glX, t1X, spX, dgX, kpX, mlawX, mvX, meX, mlX, mfaX, stX, hvX, pwX, btX, sgX, mlsX, jdX, tdX, dsX, enX, mftX, ldrX, wmX, maX, lwX, lrX, mrX, feX, ngX, trsX, dysX, gnX, t9X, spmX, kpmX, udX, Bool.or_eq_true, Bool.and_eq_true, decide_eq_true_eq, decide_eq_false_iff_not, beq_iff_eq, Bool.or_eq_false_iff, Bool.and_eq_false_iff, beq_eq_false_iff_ne]; omega)))⟩
theorem fr_judged {t t1 t2 : hy_T} {n : Int} (h : fr t) (F : hy_F jyX t t1) (F2 : hy_F jdX t1 t2) (c : t1 3 1 = if 1 ≤ n ∧ n ≤ 120 ∧ n ≤ t 3 1 then 0 else t 3 1) (e2 : t2 59 9 = if ml_ntc t1 n then 0 else t1 59 9) : fr t2 :=
  ⟨⟨fr_len h.1.1 F F2 (fun _ => rfl) (fun _ => rfl) (fun _ => rfl) (fun _ => rfl) (p5_lines (t := t) h.1.1.1 F F2 rfl rfl c e2), (fr_p_F h.1.2 (ff F F2 (Y := fr_pY) (fun r j q => by revert q; simp only [fr_tY, fr_pY, fr_gY, fl_Y, fr_nY, fr_kY, fsC, fsM, lawX, eX, lX, pX, fX, snX, brX, wyX, paX, trX, asX, gdX, lnX, lkX, lpX, lwcX, tyX, jyX, mkX, dzX, cpX, taX, glX, t1X, spX, dgX, kpX, mlawX, mvX, meX, mlX, mfaX, stX, hvX, pwX, btX, sgX, mlsX, jdX, tdX, dsX, enX, mftX, ldrX, wmX, maX, lwX, lrX, mrX, feX, ngX, trsX, dysX, gnX, t9X, spmX, kpmX, udX, Bool.or_eq_true, Bool.and_eq_true, decide_eq_true_eq, decide_eq_false_iff_not, beq_iff_eq, Bool.or_eq_false_iff, Bool.and_eq_false_iff, beq_eq_false_iff_ne]; omega) (fun r j q => by revert q; simp only [fr_tY, fr_pY, fr_gY, fl_Y, fr_nY, fr_kY, fsC, fsM, lawX, eX, lX, pX, fX, snX, brX, wyX, paX, trX, asX, gdX, lnX, lkX, lpX, lwcX, tyX, jyX, mkX, dzX, cpX, taX, glX, t1X, spX, dgX, kpX, mlawX, mvX, meX, mlX, mfaX, stX, hvX, pwX, btX, sgX, mlsX, jdX, tdX, dsX, enX, mftX, ldrX, wmX, maX, lwX, lrX, mrX, feX, ngX, trsX, dysX, gnX, t9X, spmX, kpmX, udX, Bool.or_eq_true, Bool.and_eq_true, decide_eq_true_eq, decide_eq_false_iff_not, beq_iff_eq, Bool.or_eq_false_iff, Bool.and_eq_false_iff, beq_eq_false_iff_ne]; omega)))⟩, ⟨(fr_g_F h.2.1.1 (ff F F2 (Y := fr_gY) (fun r j q => by revert q; simp only [fr_tY, fr_pY, fr_gY, fl_Y, fr_nY, fr_kY, fsC, fsM, lawX, eX, lX, pX, fX, snX, brX, wyX, paX, trX, asX, gdX, lnX, lkX, lpX, lwcX, tyX, jyX, mkX, dzX, cpX, taX, glX, t1X, spX, dgX, kpX, mlawX, mvX, meX, mlX, mfaX, stX, hvX, pwX, btX, sgX, mlsX, jdX, tdX, dsX, enX, mftX, ldrX, wmX, maX, lwX, lrX, mrX, feX, ngX, trsX, dysX, gnX, t9X, spmX, kpmX, udX, Bool.or_eq_true, Bool.and_eq_true, decide_eq_true_eq, decide_eq_false_iff_not, beq_iff_eq, Bool.or_eq_false_iff, Bool.and_eq_false_iff, beq_eq_false_iff_ne]; omega) (fun r j q => by revert q; simp only [fr_tY, fr_pY, fr_gY, fl_Y, fr_nY, fr_kY, fsC, fsM, lawX, eX, lX, pX, fX, snX, brX, wyX, paX, trX, asX, gdX, lnX, lkX, lpX, lwcX, tyX, jyX, mkX, dzX, cpX, taX, glX, t1X, spX, dgX, kpX, mlawX, mvX, meX, mlX, mfaX, stX, hvX, pwX, btX, sgX, mlsX, jdX, tdX, dsX, enX, mftX, ldrX, wmX, maX, lwX, lrX, mrX, feX, ngX, trsX, dysX, gnX, t9X, spmX, kpmX, udX, Bool.or_eq_true, Bool.and_eq_true, decide_eq_true_eq, decide_eq_false_iff_not, beq_iff_eq, Bool.or_eq_false_iff, Bool.and_eq_false_iff, beq_eq_false_iff_ne]; omega))), (fl_law_F h.2.1.2 (ff F F2 (Y := fl_Y) (fun r j q => by revert q; simp only [fr_tY, fr_pY, fr_gY, fl_Y, fr_nY, fr_kY, fsC, fsM, lawX, eX, lX, pX, fX, snX, brX, wyX, paX, trX, asX, gdX, lnX, lkX, lpX, lwcX, tyX, jyX, mkX, dzX, cpX, taX, glX, t1X, spX, dgX, kpX, mlawX, mvX, meX, mlX, mfaX, stX, hvX, pwX, btX, sgX, mlsX, jdX, tdX, dsX, enX, mftX, ldrX, wmX, maX, lwX, lrX, mrX, feX, ngX, trsX, dysX, gnX, t9X, spmX, kpmX, udX, Bool.or_eq_true, Bool.and_eq_true, decide_eq_true_eq, decide_eq_false_iff_not, beq_iff_eq, Bool.or_eq_false_iff, Bool.and_eq_false_iff, beq_eq_false_iff_ne]; omega) (fun r j q => by revert q; simp only [fr_tY, fr_pY, fr_gY, fl_Y, fr_nY, fr_kY, fsC, fsM, lawX, eX, lX, pX, fX, snX, brX, wyX, paX, trX, asX, gdX, lnX, lkX, lpX, lwcX, tyX, jyX, mkX, dzX, cpX, taX, glX, t1X, spX, dgX, kpX, mlawX, mvX, meX, mlX, mfaX, stX, hvX, pwX, btX, sgX, mlsX, jdX, tdX, dsX, enX, mftX, ldrX, wmX, maX, lwX, lrX, mrX, feX, ngX, trsX, dysX, gnX, t9X, spmX, kpmX, udX, Bool.or_eq_true, Bool.and_eq_true, decide_eq_true_eq, decide_eq_false_iff_not, beq_iff_eq, Bool.or_eq_false_iff, Bool.and_eq_false_iff, beq_eq_false_iff_ne]; omega)))⟩, (fr_n_F h.2.2.1 (ff F F2 (Y := fr_nY) (fun r j q => by revert q; simp only [fr_tY, fr_pY, fr_gY, fl_Y, fr_nY, fr_kY, fsC, fsM, lawX, eX, lX, pX, fX, snX, brX, wyX, paX, trX, asX, gdX, lnX, lkX, lpX, lwcX, tyX, jyX, mkX, dzX, cpX, taX, glX, t1X, spX, dgX, kpX, mlawX, mvX, meX, mlX, mfaX, stX, hvX, pwX, btX, sgX, mlsX, jdX, tdX, dsX, enX, mftX, ldrX, wmX, maX, lwX, lrX, mrX, feX, ngX, trsX, dysX, gnX, t9X, spmX, kpmX, udX, Bool.or_eq_true, Bool.and_eq_true, decide_eq_true_eq, decide_eq_false_iff_not, beq_iff_eq, Bool.or_eq_false_iff, Bool.and_eq_false_iff, beq_eq_false_iff_ne]; omega) (fun r j q => by revert q; simp only [fr_tY, fr_pY, fr_gY, fl_Y, fr_nY, fr_kY, fsC, fsM, lawX, eX, lX, pX, fX, snX, brX, wyX, paX, trX, asX, gdX, lnX, lkX, lpX, lwcX, tyX, jyX, mkX, dzX, cpX, taX, glX, t1X, spX, dgX, kpX, mlawX, mvX, meX, mlX, mfaX, stX, hvX, pwX, btX, sgX, mlsX, jdX, tdX, dsX, enX, mftX, ldrX, wmX, maX, lwX, lrX, mrX, feX, ngX, trsX, dysX, gnX, t9X, spmX, kpmX, udX, Bool.or_eq_true, Bool.and_eq_true, decide_eq_true_eq, decide_eq_false_iff_not, beq_iff_eq, Bool.or_eq_false_iff, Bool.and_eq_false_iff, beq_eq_false_iff_ne]; omega))), (fr_k_F h.2.2.2 (ff F F2 (Y := fr_kY) (fun r j q => by revert q; simp only [fr_tY, fr_pY, fr_gY, fl_Y, fr_nY, fr_kY, fsC, fsM, lawX, eX, lX, pX, fX, snX, brX, wyX, paX, trX, asX, gdX, lnX, lkX, lpX, lwcX, tyX, jyX, mkX, dzX, cpX, taX, glX, t1X, spX, dgX, kpX, mlawX, mvX, meX, mlX, mfaX, stX, hvX, pwX, btX, sgX, mlsX, jdX, tdX, dsX, enX, mftX, ldrX, wmX, maX, lwX, lrX, mrX, feX, ngX, trsX, dysX, gnX, t9X, spmX, kpmX, udX, Bool.or_eq_true, Bool.and_eq_true, decide_eq_true_eq, decide_eq_false_iff_not, beq_iff_eq, Bool.or_eq_false_iff, Bool.and_eq_false_iff, beq_eq_false_iff_ne]; omega) (fun r j q => by revert q; simp only [fr_tY, fr_pY, fr_gY, fl_Y, fr_nY, fr_kY, fsC, fsM, lawX, eX, lX, pX, fX, snX, brX, wyX, paX, trX, asX, gdX, lnX, lkX, lpX, lwcX, tyX, jyX, mkX, dzX, cpX, taX, glX, t1X, spX, dgX, kpX, mlawX, mvX, meX, mlX, mfaX, stX, hvX, pwX, btX, sgX, mlsX, jdX, tdX, dsX, enX, mftX, ldrX, wmX, maX, lwX, lrX, mrX, feX, ngX, trsX, dysX, gnX, t9X, spmX, kpmX, udX, Bool.or_eq_true, Bool.and_eq_true, decide_eq_true_eq, decide_eq_false_iff_not, beq_iff_eq, Bool.or_eq_false_iff, Bool.and_eq_false_iff, beq_eq_false_iff_ne]; omega)))⟩
/-! the law, the land -/
theorem fr_law {t t1 t2 : hy_T} {n : Int} {r1 r2 : Option Int} (k : cK t) (h : fr t) (F : hy_F lwcX t t1) (F2 : hy_F lwX t1 t2) (q1 : r1 = some (wf_law t n).1 ∧ t1 = (wf_law t n).2) (q2 : t2 59 9 = if al_nc t1 n then 0 else t1 59 9) (q3 : if al_nc t1 n then al_Q t1 (al_law (al_B t1 n) n t1) r2 t2 else r2 = some (-1) ∧ t2 = t1) : r2 = r1 ∧ fr t2 := by
  obtain ⟨e, hl⟩ := fl_op k h.2.1.2 h.1.1.1 h.1.1.2 F F2 q1 q3
  exact ⟨e, ⟨fr_len h.1.1 F F2 (fun _ => rfl) (fun _ => rfl) (fun _ => rfl) (fun _ => rfl) (p5_law (t := t) h.1.1.1 F F2 q1.2 q2), (fr_p_F h.1.2 (ff F F2 (Y := fr_pY) (fun r j q => by revert q; simp only [fr_tY, fr_pY, fr_gY, fl_Y, fr_nY, fr_kY, fsC, fsM, lawX, eX, lX, pX, fX, snX, brX, wyX, paX, trX, asX, gdX, lnX, lkX, lpX, lwcX, tyX, jyX, mkX, dzX, cpX, taX, glX, t1X, spX, dgX, kpX, mlawX, mvX, meX, mlX, mfaX, stX, hvX, pwX, btX, sgX, mlsX, jdX, tdX, dsX, enX, mftX, ldrX, wmX, maX, lwX, lrX, mrX, feX, ngX, trsX, dysX, gnX, t9X, spmX, kpmX, udX, Bool.or_eq_true, Bool.and_eq_true, decide_eq_true_eq, decide_eq_false_iff_not, beq_iff_eq, Bool.or_eq_false_iff, Bool.and_eq_false_iff, beq_eq_false_iff_ne]; omega) (fun r j q => by revert q; simp only [fr_tY, fr_pY, fr_gY, fl_Y, fr_nY, fr_kY, fsC, fsM, lawX, eX, lX, pX, fX, snX, brX, wyX, paX, trX, asX, gdX, lnX, lkX, lpX, lwcX, tyX, jyX, mkX, dzX, cpX, taX, glX, t1X, spX, dgX, kpX, mlawX, mvX, meX, mlX, mfaX, stX, hvX, pwX, btX, sgX, mlsX, jdX, tdX, dsX, enX, mftX, ldrX, wmX, maX, lwX, lrX, mrX, feX, ngX, trsX, dysX, gnX, t9X, spmX, kpmX, udX, Bool.or_eq_true, Bool.and_eq_true, decide_eq_true_eq, decide_eq_false_iff_not, beq_iff_eq, Bool.or_eq_false_iff, Bool.and_eq_false_iff, beq_eq_false_iff_ne]; omega)))⟩, ⟨(fr_g_F h.2.1.1 (ff F F2 (Y := fr_gY) (fun r j q => by revert q; simp only [fr_tY, fr_pY, fr_gY, fl_Y, fr_nY, fr_kY, fsC, fsM, lawX, eX, lX, pX, fX, snX, brX, wyX, paX, trX, asX, gdX, lnX, lkX, lpX, lwcX, tyX, jyX, mkX, dzX, cpX, taX, glX, t1X, spX, dgX, kpX, mlawX, mvX, meX, mlX, mfaX, stX, hvX, pwX, btX, sgX, mlsX, jdX, tdX, dsX, enX, mftX, ldrX, wmX, maX, lwX, lrX, mrX, feX, ngX, trsX, dysX, gnX, t9X, spmX, kpmX, udX, Bool.or_eq_true, Bool.and_eq_true, decide_eq_true_eq, decide_eq_false_iff_not, beq_iff_eq, Bool.or_eq_false_iff, Bool.and_eq_false_iff, beq_eq_false_iff_ne]; omega) (fun r j q => by revert q; simp only [fr_tY, fr_pY, fr_gY, fl_Y, fr_nY, fr_kY, fsC, fsM, lawX, eX, lX, pX, fX, snX, brX, wyX, paX, trX, asX, gdX, lnX, lkX, lpX, lwcX, tyX, jyX, mkX, dzX, cpX, taX, glX, t1X, spX, dgX, kpX, mlawX, mvX, meX, mlX, mfaX, stX, hvX, pwX, btX, sgX, mlsX, jdX, tdX, dsX, enX, mftX, ldrX, wmX, maX, lwX, lrX, mrX, feX, ngX, trsX, dysX, gnX, t9X, spmX, kpmX, udX, Bool.or_eq_true, Bool.and_eq_true, decide_eq_true_eq, decide_eq_false_iff_not, beq_iff_eq, Bool.or_eq_false_iff, Bool.and_eq_false_iff, beq_eq_false_iff_ne]; omega))), hl⟩, (fr_n_F h.2.2.1 (ff F F2 (Y := fr_nY) (fun r j q => by revert q; simp only [fr_tY, fr_pY, fr_gY, fl_Y, fr_nY, fr_kY, fsC, fsM, lawX, eX, lX, pX, fX, snX, brX, wyX, paX, trX, asX, gdX, lnX, lkX, lpX, lwcX, tyX, jyX, mkX, dzX, cpX, taX, glX, t1X, spX, dgX, kpX, mlawX, mvX, meX, mlX, mfaX, stX, hvX, pwX, btX, sgX, mlsX, jdX, tdX, dsX, enX, mftX, ldrX, wmX, maX, lwX, lrX, mrX, feX, ngX, trsX, dysX, gnX, t9X, spmX, kpmX, udX, Bool.or_eq_true, Bool.and_eq_true, decide_eq_true_eq, decide_eq_false_iff_not, beq_iff_eq, Bool.or_eq_false_iff, Bool.and_eq_false_iff, beq_eq_false_iff_ne]; omega) (fun r j q => by revert q; simp only [fr_tY, fr_pY, fr_gY, fl_Y, fr_nY, fr_kY, fsC, fsM, lawX, eX, lX, pX, fX, snX, brX, wyX, paX, trX, asX, gdX, lnX, lkX, lpX, lwcX, tyX, jyX, mkX, dzX, cpX, taX, glX, t1X, spX, dgX, kpX, mlawX, mvX, meX, mlX, mfaX, stX, hvX, pwX, btX, sgX, mlsX, jdX, tdX, dsX, enX, mftX, ldrX, wmX, maX, lwX, lrX, mrX, feX, ngX, trsX, dysX, gnX, t9X, spmX, kpmX, udX, Bool.or_eq_true, Bool.and_eq_true, decide_eq_true_eq, decide_eq_false_iff_not, beq_iff_eq, Bool.or_eq_false_iff, Bool.and_eq_false_iff, beq_eq_false_iff_ne]; omega))), (fr_k_F h.2.2.2 (ff F F2 (Y := fr_kY) (fun r j q => by revert q; simp only [fr_tY, fr_pY, fr_gY, fl_Y, fr_nY, fr_kY, fsC, fsM, lawX, eX, lX, pX, fX, snX, brX, wyX, paX, trX, asX, gdX, lnX, lkX, lpX, lwcX, tyX, jyX, mkX, dzX, cpX, taX, glX, t1X, spX, dgX, kpX, mlawX, mvX, meX, mlX, mfaX, stX, hvX, pwX, btX, sgX, mlsX, jdX, tdX, dsX, enX, mftX, ldrX, wmX, maX, lwX, lrX, mrX, feX, ngX, trsX, dysX, gnX, t9X, spmX, kpmX, udX, Bool.or_eq_true, Bool.and_eq_true, decide_eq_true_eq, decide_eq_false_iff_not, beq_iff_eq, Bool.or_eq_false_iff, Bool.and_eq_false_iff, beq_eq_false_iff_ne]; omega) (fun r j q => by revert q; simp only [fr_tY, fr_pY, fr_gY, fl_Y, fr_nY, fr_kY, fsC, fsM, lawX, eX, lX, pX, fX, snX, brX, wyX, paX, trX, asX, gdX, lnX, lkX, lpX, lwcX, tyX, jyX, mkX, dzX, cpX, taX, glX, t1X, spX, dgX, kpX, mlawX, mvX, meX, mlX, mfaX, stX, hvX, pwX, btX, sgX, mlsX, jdX, tdX, dsX, enX, mftX, ldrX, wmX, maX, lwX, lrX, mrX, feX, ngX, trsX, dysX, gnX, t9X, spmX, kpmX, udX, Bool.or_eq_true, Bool.and_eq_true, decide_eq_true_eq, decide_eq_false_iff_not, beq_iff_eq, Bool.or_eq_false_iff, Bool.and_eq_false_iff, beq_eq_false_iff_ne]; omega)))⟩
theorem ti_all9 {t u : hy_T} (h : p7_B t u) (htp : tp_ok t) (hnl : nl_ok u) (n : Int) (hn : 1 ≤ n ∧ n ≤ 160 ∧ n ≤ t 3 1) (h9 : ∀ j : Nat, j < 64 → t 9 j = u 63 j) : ∀ j : Nat, j < 64 → (wf_land t n).2 9 j = (if (ld_read u n).1 = true then ld_cpN (ld_read u n).2 64 else (ld_read u n).2) 63 j := by
  have hR := ti_land h htp.l.2 n hn
  have g9 : ∀ j, tp_finish (gd_rowsN t n 8) 9 j = t 9 j := fun j => by
    have e : tp_finish (gd_rowsN t n 8) 9 j = gd_rowsN t n 8 9 j := by
      unfold tp_finish tp_fail
      split
      · split
        · rw [hy_up_ne (by decide)]
        · rfl
      · rfl
    rw [e]
    exact (gd_rowsN_s htp n 8).2 9 j rfl
  have F63 : ∀ j, (ld_read u n).2 63 j = u 63 j := fun j => (ld_read_s hnl (n := n) (by omega)).2 63 j rfl
  unfold wf_land gd_read
  rw [if_pos hn]
  revert hR F63 g9
  unfold ld_read
  generalize tp_finish (gd_rowsN t n 8) = T
  generalize ld_end (ld_rowsN 7 1 (ld_row (ld_t0 u n) 0)) = p
  intro hR g9 F63
  unfold ti_R at hR
  dsimp only at F63 ⊢
  by_cases hp : p.1 = true
  · rw [if_pos hp] at hR
    rw [if_pos hp, if_pos hR.1.1.1]
    have e34 : hy_cp T 10 9 64 3 4 = 0 := by
      unfold hy_cp
      rw [if_neg (by decide)]
      exact hR.1.1.1
    rw [if_pos e34]
    intro j hj
    show hy_up (hy_cp T 10 9 64) 3 1 0 9 j = _
    rw [ld_cpN_v _ 64 j, if_pos hj, hy_up_ne (by decide), hy_up_ne (by decide)]
    unfold hy_cp
    rw [if_pos ⟨rfl, hj⟩]
    exact hR.2.2 j hj
  · rw [if_neg hp] at hR
    rw [if_neg hp, if_neg hR.1.1, if_neg hR.1.1]
    intro j hj
    show hy_up T 3 1 0 9 j = hy_up p.2 59 9 0 63 j
    rw [F63 j, hy_up_ne (by decide), g9 j, h9 j hj]
theorem fr_land {t t1 t2 : hy_T} {n : Int} {r1 r2 : Option Int} (k : cK t) (k1 : mK t1) (h : fr t) (F : hy_F glX t t1) (F2 : hy_F ngX t1 t2) (q1 : r1 = some (wf_land t n).1 ∧ t1 = (wf_land t n).2) (q2 : (t2 59 9 = if ld_ntc t1 n then 0 else t1 59 9) ∧ r2 = some (if ld_ntc t1 n then (if (ld_read t1 n).1 = true then ld_cntN (ld_read t1 n).2 64 else (ld_read t1 n).2 59 12) else -1) ∧ t2 = if ld_ntc t1 n then (if (ld_read t1 n).1 = true then ld_cpN (ld_read t1 n).2 64 else (ld_read t1 n).2) else t1) : r2 = r1 ∧ fr t2 := by
  have hB : p7_B t t1 := ⟨⟨by rw [F 59 9 rfl]; exact h.1.1.1, by rw [F 59 0 rfl]; exact h.1.2.1.1.1⟩, fun j hj => by rw [F 65 j rfl]; exact h.1.1.2 j hj, fun j hj => by rw [F 96 j rfl]; exact h.2.1.1.2 j hj⟩
  have x : t1 59 9 = t 59 9 := F 59 9 rfl
  have h0 : t 3 1 = t 59 9 := h.1.1.1
  have h5 := p5_land k (show p5_rel t from h.1.1.1) F F2 q1.2 q2.1
  have fin : fr_g t2 → fr t2 := fun hg => ⟨⟨fr_len h.1.1 F F2 (fun _ => rfl) (fun _ => rfl) (fun _ => rfl) (fun _ => rfl) h5, (fr_p_F h.1.2 (ff F F2 (Y := fr_pY) (fun r j q => by revert q; simp only [fr_tY, fr_pY, fr_gY, fl_Y, fr_nY, fr_kY, fsC, fsM, lawX, eX, lX, pX, fX, snX, brX, wyX, paX, trX, asX, gdX, lnX, lkX, lpX, lwcX, tyX, jyX, mkX, dzX, cpX, taX, glX, t1X, spX, dgX, kpX, mlawX, mvX, meX, mlX, mfaX, stX, hvX, pwX, btX, sgX, mlsX, jdX, tdX, dsX, enX, mftX, ldrX, wmX, maX, lwX, lrX, mrX, feX, ngX, trsX, dysX, gnX, t9X, spmX, kpmX, udX, Bool.or_eq_true, Bool.and_eq_true, decide_eq_true_eq, decide_eq_false_iff_not, beq_iff_eq, Bool.or_eq_false_iff, Bool.and_eq_false_iff, beq_eq_false_iff_ne]; omega) (fun r j q => by revert q; simp only [fr_tY, fr_pY, fr_gY, fl_Y, fr_nY, fr_kY, fsC, fsM, lawX, eX, lX, pX, fX, snX, brX, wyX, paX, trX, asX, gdX, lnX, lkX, lpX, lwcX, tyX, jyX, mkX, dzX, cpX, taX, glX, t1X, spX, dgX, kpX, mlawX, mvX, meX, mlX, mfaX, stX, hvX, pwX, btX, sgX, mlsX, jdX, tdX, dsX, enX, mftX, ldrX, wmX, maX, lwX, lrX, mrX, feX, ngX, trsX, dysX, gnX, t9X, spmX, kpmX, udX, Bool.or_eq_true, Bool.and_eq_true, decide_eq_true_eq, decide_eq_false_iff_not, beq_iff_eq, Bool.or_eq_false_iff, Bool.and_eq_false_iff, beq_eq_false_iff_ne]; omega)))⟩, ⟨hg, (fl_law_F h.2.1.2 (ff F F2 (Y := fl_Y) (fun r j q => by revert q; simp only [fr_tY, fr_pY, fr_gY, fl_Y, fr_nY, fr_kY, fsC, fsM, lawX, eX, lX, pX, fX, snX, brX, wyX, paX, trX, asX, gdX, lnX, lkX, lpX, lwcX, tyX, jyX, mkX, dzX, cpX, taX, glX, t1X, spX, dgX, kpX, mlawX, mvX, meX, mlX, mfaX, stX, hvX, pwX, btX, sgX, mlsX, jdX, tdX, dsX, enX, mftX, ldrX, wmX, maX, lwX, lrX, mrX, feX, ngX, trsX, dysX, gnX, t9X, spmX, kpmX, udX, Bool.or_eq_true, Bool.and_eq_true, decide_eq_true_eq, decide_eq_false_iff_not, beq_iff_eq, Bool.or_eq_false_iff, Bool.and_eq_false_iff, beq_eq_false_iff_ne]; omega) (fun r j q => by revert q; simp only [fr_tY, fr_pY, fr_gY, fl_Y, fr_nY, fr_kY, fsC, fsM, lawX, eX, lX, pX, fX, snX, brX, wyX, paX, trX, asX, gdX, lnX, lkX, lpX, lwcX, tyX, jyX, mkX, dzX, cpX, taX, glX, t1X, spX, dgX, kpX, mlawX, mvX, meX, mlX, mfaX, stX, hvX, pwX, btX, sgX, mlsX, jdX, tdX, dsX, enX, mftX, ldrX, wmX, maX, lwX, lrX, mrX, feX, ngX, trsX, dysX, gnX, t9X, spmX, kpmX, udX, Bool.or_eq_true, Bool.and_eq_true, decide_eq_true_eq, decide_eq_false_iff_not, beq_iff_eq, Bool.or_eq_false_iff, Bool.and_eq_false_iff, beq_eq_false_iff_ne]; omega)))⟩, (fr_n_F h.2.2.1 (ff F F2 (Y := fr_nY) (fun r j q => by revert q; simp only [fr_tY, fr_pY, fr_gY, fl_Y, fr_nY, fr_kY, fsC, fsM, lawX, eX, lX, pX, fX, snX, brX, wyX, paX, trX, asX, gdX, lnX, lkX, lpX, lwcX, tyX, jyX, mkX, dzX, cpX, taX, glX, t1X, spX, dgX, kpX, mlawX, mvX, meX, mlX, mfaX, stX, hvX, pwX, btX, sgX, mlsX, jdX, tdX, dsX, enX, mftX, ldrX, wmX, maX, lwX, lrX, mrX, feX, ngX, trsX, dysX, gnX, t9X, spmX, kpmX, udX, Bool.or_eq_true, Bool.and_eq_true, decide_eq_true_eq, decide_eq_false_iff_not, beq_iff_eq, Bool.or_eq_false_iff, Bool.and_eq_false_iff, beq_eq_false_iff_ne]; omega) (fun r j q => by revert q; simp only [fr_tY, fr_pY, fr_gY, fl_Y, fr_nY, fr_kY, fsC, fsM, lawX, eX, lX, pX, fX, snX, brX, wyX, paX, trX, asX, gdX, lnX, lkX, lpX, lwcX, tyX, jyX, mkX, dzX, cpX, taX, glX, t1X, spX, dgX, kpX, mlawX, mvX, meX, mlX, mfaX, stX, hvX, pwX, btX, sgX, mlsX, jdX, tdX, dsX, enX, mftX, ldrX, wmX, maX, lwX, lrX, mrX, feX, ngX, trsX, dysX, gnX, t9X, spmX, kpmX, udX, Bool.or_eq_true, Bool.and_eq_true, decide_eq_true_eq, decide_eq_false_iff_not, beq_iff_eq, Bool.or_eq_false_iff, Bool.and_eq_false_iff, beq_eq_false_iff_ne]; omega))), (fr_k_F h.2.2.2 (ff F F2 (Y := fr_kY) (fun r j q => by revert q; simp only [fr_tY, fr_pY, fr_gY, fl_Y, fr_nY, fr_kY, fsC, fsM, lawX, eX, lX, pX, fX, snX, brX, wyX, paX, trX, asX, gdX, lnX, lkX, lpX, lwcX, tyX, jyX, mkX, dzX, cpX, taX, glX, t1X, spX, dgX, kpX, mlawX, mvX, meX, mlX, mfaX, stX, hvX, pwX, btX, sgX, mlsX, jdX, tdX, dsX, enX, mftX, ldrX, wmX, maX, lwX, lrX, mrX, feX, ngX, trsX, dysX, gnX, t9X, spmX, kpmX, udX, Bool.or_eq_true, Bool.and_eq_true, decide_eq_true_eq, decide_eq_false_iff_not, beq_iff_eq, Bool.or_eq_false_iff, Bool.and_eq_false_iff, beq_eq_false_iff_ne]; omega) (fun r j q => by revert q; simp only [fr_tY, fr_pY, fr_gY, fl_Y, fr_nY, fr_kY, fsC, fsM, lawX, eX, lX, pX, fX, snX, brX, wyX, paX, trX, asX, gdX, lnX, lkX, lpX, lwcX, tyX, jyX, mkX, dzX, cpX, taX, glX, t1X, spX, dgX, kpX, mlawX, mvX, meX, mlX, mfaX, stX, hvX, pwX, btX, sgX, mlsX, jdX, tdX, dsX, enX, mftX, ldrX, wmX, maX, lwX, lrX, mrX, feX, ngX, trsX, dysX, gnX, t9X, spmX, kpmX, udX, Bool.or_eq_true, Bool.and_eq_true, decide_eq_true_eq, decide_eq_false_iff_not, beq_iff_eq, Bool.or_eq_false_iff, Bool.and_eq_false_iff, beq_eq_false_iff_ne]; omega)))⟩
  obtain ⟨-, q3, q4⟩ := q2
  by_cases hn : 1 ≤ n ∧ n ≤ 160 ∧ n ≤ t 3 1
  · obtain ⟨e1, e2⟩ := ti_all hB k.tp.l.2 n hn
    have e9 := ti_all9 hB k.tp k1.nl n hn (fun j hj => by rw [F 63 j rfl]; exact h.2.1.1.1 j hj)
    have hc : ld_ntc t1 n := ⟨⟨hn.1, hn.2.1⟩, by omega⟩
    rw [if_pos hc] at q3 q4
    refine ⟨by rw [q3, q1.1, e1], fin ⟨fun j hj => ?_, fun j hj => ?_⟩⟩
    · rw [F2 9 j rfl, q4, q1.2]
      rw [q1.2] at e9
      exact e9 j hj
    · rw [F2 10 j rfl, q4, q1.2]
      rw [q1.2] at e2
      exact e2 j hj
  · have hc : ¬ ld_ntc t1 n := fun q => hn ⟨q.1.1, q.1.2, by have := q.2; omega⟩
    have e1 : wf_land t n = (-1, t) := if_neg hn
    rw [if_neg hc] at q3 q4
    rw [e1] at q1
    refine ⟨by rw [q3, q1.1], ?_⟩
    rw [q4, q1.2]
    exact h
/-! colours -/
theorem fr_plain {t u : hy_T} (h : p3_rel t) (e0 : u 59 0 = t 59 0) (e6 : ∀ j, u 60 j = t 60 j) (c : Int) : wf_plain t c = mf_plain u c := (p3_plain h c).trans (mf_plain_F e0 e6 c).symm
theorem fr_tell {t t1 t2 : hy_T} {a b c : Int} (h : fr t) (hq : sp_tellable (t 5 2) a b c = true) (F : hy_F (fun r _ => r == 5 || r == 6 || r == 7) t t1) (F2 : hy_F (fun r j => r == 60 || r == 61 || (r == 59 && j == 0)) t1 t2) (e1 : t1 = sp_tellC t a b c) (e2 : t2 = sp_tellM t1 a b c) : fr t2 := by
  have p3 := p3_tell h.1.2.1 hq e1 e2
  have hq2 := hq
  simp only [sp_tellable, sp_told, Bool.and_eq_true, Bool.or_eq_true, decide_eq_true_eq] at hq2
  have ha := hq2.1.1
  have x60 : ∀ j : Nat, t2 60 j = if j = a.toNat then b else t 60 j := fun j => by
    rw [e2]
    unfold sp_tellM
    rw [hy_up_ne (by decide)]
    simp only [hy_up, true_and]
    split
    · rfl
    · rw [if_neg (by omega)]
      exact F 60 j rfl
  have x61 : ∀ j : Nat, t2 61 j = if j = a.toNat then c else t 61 j := fun j => by
    rw [e2]
    unfold sp_tellM
    simp only [hy_up, true_and]
    split
    · rfl
    · rw [if_neg (by omega), if_neg (by omega)]
      exact F 61 j rfl
  have pl : ∀ x : Int, mf_plain t x = true → mf_plain t2 x = true := fun x hx => by
    have w := (p3_plain h.1.2.1 x).trans hx
    have hx0 : sp_told (t 5 2) x = true := by
      unfold wf_plain at w
      rw [Bool.and_eq_true] at w
      exact w.1
    have hin := sp_told_in hx0
    have hne : x ≠ a := fun e => by
      have h2 := hq2.1.2
      rw [e] at hx0
      unfold sp_told at hx0
      rw [decide_eq_true ha, Bool.true_and] at h2 hx0
      rw [hx0] at h2
      simp at h2
    unfold mf_plain at hx ⊢
    rw [Bool.and_eq_true] at hx
    rw [x60, if_neg (by omega), hx.2, Bool.and_true]
    have y0 : t2 59 0 = hz_ior (t1 59 0) (hz_ishl 1 a) := by rw [e2]; rfl
    have y1 : t1 59 0 = t 5 2 := (F 59 0 rfl).trans h.1.2.1.1.1.symm
    unfold sp_told
    rw [y0, y1, decide_eq_true hin, Bool.true_and]
    have z := (bit_set h.1.2.1.1.2.1 ha).2 x.toNat (by omega)
    rw [show ((x.toNat : Nat) : Int) = x by omega] at z
    rw [z]
    unfold sp_told at hx0
    rw [decide_eq_true hin, Bool.true_and] at hx0
    rw [hx0, Bool.true_or]
  have npl : ∀ x : Int, mf_plain t2 x = false → mf_plain t x = false := fun x hx => by
    cases e : mf_plain t x with
    | false => rfl
    | true => rw [pl x e] at hx; cases hx
  have x53 : t2 5 3 = if b = -1 ∧ c = -1 then t 5 3 else hz_ior (t 5 3) (hz_ishl 1 a) := by
    rw [F2 5 3 rfl, e1]
    unfold sp_tellC
    split <;> rfl
  have nm : hz_b (t 5 3) a = false := by
    have h2 := hq2.1.2
    rw [decide_eq_true ha, Bool.true_and] at h2
    have u2 := (h.1.2.1.2 a.toNat (by omega)).2
    rw [show ((a.toNat : Nat) : Int) = a by omega] at u2
    cases e : hz_b (t 5 3) a with
    | false => rfl
    | true => rw [u2 e] at h2; simp at h2
  refine ⟨⟨(fr_t_F h.1.1 (ff F F2 (Y := fr_tY) (fun r j q => by revert q; simp only [fr_tY, fr_pY, fr_gY, fl_Y, fr_nY, fr_kY, fsC, fsM, lawX, eX, lX, pX, fX, snX, brX, wyX, paX, trX, asX, gdX, lnX, lkX, lpX, lwcX, tyX, jyX, mkX, dzX, cpX, taX, glX, t1X, spX, dgX, kpX, mlawX, mvX, meX, mlX, mfaX, stX, hvX, pwX, btX, sgX, mlsX, jdX, tdX, dsX, enX, mftX, ldrX, wmX, maX, lwX, lrX, mrX, feX, ngX, trsX, dysX, gnX, t9X, spmX, kpmX, udX, Bool.or_eq_true, Bool.and_eq_true, decide_eq_true_eq, decide_eq_false_iff_not, beq_iff_eq, Bool.or_eq_false_iff, Bool.and_eq_false_iff, beq_eq_false_iff_ne]; omega) (fun r j q => by revert q; simp only [fr_tY, fr_pY, fr_gY, fl_Y, fr_nY, fr_kY, fsC, fsM, lawX, eX, lX, pX, fX, snX, brX, wyX, paX, trX, asX, gdX, lnX, lkX, lpX, lwcX, tyX, jyX, mkX, dzX, cpX, taX, glX, t1X, spX, dgX, kpX, mlawX, mvX, meX, mlX, mfaX, stX, hvX, pwX, btX, sgX, mlsX, jdX, tdX, dsX, enX, mftX, ldrX, wmX, maX, lwX, lrX, mrX, feX, ngX, trsX, dysX, gnX, t9X, spmX, kpmX, udX, Bool.or_eq_true, Bool.and_eq_true, decide_eq_true_eq, decide_eq_false_iff_not, beq_iff_eq, Bool.or_eq_false_iff, Bool.and_eq_false_iff, beq_eq_false_iff_ne]; omega))), p3, fun x hx hm => ?_⟩, ⟨(fr_g_F h.2.1.1 (ff F F2 (Y := fr_gY) (fun r j q => by revert q; simp only [fr_tY, fr_pY, fr_gY, fl_Y, fr_nY, fr_kY, fsC, fsM, lawX, eX, lX, pX, fX, snX, brX, wyX, paX, trX, asX, gdX, lnX, lkX, lpX, lwcX, tyX, jyX, mkX, dzX, cpX, taX, glX, t1X, spX, dgX, kpX, mlawX, mvX, meX, mlX, mfaX, stX, hvX, pwX, btX, sgX, mlsX, jdX, tdX, dsX, enX, mftX, ldrX, wmX, maX, lwX, lrX, mrX, feX, ngX, trsX, dysX, gnX, t9X, spmX, kpmX, udX, Bool.or_eq_true, Bool.and_eq_true, decide_eq_true_eq, decide_eq_false_iff_not, beq_iff_eq, Bool.or_eq_false_iff, Bool.and_eq_false_iff, beq_eq_false_iff_ne]; omega) (fun r j q => by revert q; simp only [fr_tY, fr_pY, fr_gY, fl_Y, fr_nY, fr_kY, fsC, fsM, lawX, eX, lX, pX, fX, snX, brX, wyX, paX, trX, asX, gdX, lnX, lkX, lpX, lwcX, tyX, jyX, mkX, dzX, cpX, taX, glX, t1X, spX, dgX, kpX, mlawX, mvX, meX, mlX, mfaX, stX, hvX, pwX, btX, sgX, mlsX, jdX, tdX, dsX, enX, mftX, ldrX, wmX, maX, lwX, lrX, mrX, feX, ngX, trsX, dysX, gnX, t9X, spmX, kpmX, udX, Bool.or_eq_true, Bool.and_eq_true, decide_eq_true_eq, decide_eq_false_iff_not, beq_iff_eq, Bool.or_eq_false_iff, Bool.and_eq_false_iff, beq_eq_false_iff_ne]; omega))), (fl_law_F h.2.1.2 (ff F F2 (Y := fl_Y) (fun r j q => by revert q; simp only [fr_tY, fr_pY, fr_gY, fl_Y, fr_nY, fr_kY, fsC, fsM, lawX, eX, lX, pX, fX, snX, brX, wyX, paX, trX, asX, gdX, lnX, lkX, lpX, lwcX, tyX, jyX, mkX, dzX, cpX, taX, glX, t1X, spX, dgX, kpX, mlawX, mvX, meX, mlX, mfaX, stX, hvX, pwX, btX, sgX, mlsX, jdX, tdX, dsX, enX, mftX, ldrX, wmX, maX, lwX, lrX, mrX, feX, ngX, trsX, dysX, gnX, t9X, spmX, kpmX, udX, Bool.or_eq_true, Bool.and_eq_true, decide_eq_true_eq, decide_eq_false_iff_not, beq_iff_eq, Bool.or_eq_false_iff, Bool.and_eq_false_iff, beq_eq_false_iff_ne]; omega) (fun r j q => by revert q; simp only [fr_tY, fr_pY, fr_gY, fl_Y, fr_nY, fr_kY, fsC, fsM, lawX, eX, lX, pX, fX, snX, brX, wyX, paX, trX, asX, gdX, lnX, lkX, lpX, lwcX, tyX, jyX, mkX, dzX, cpX, taX, glX, t1X, spX, dgX, kpX, mlawX, mvX, meX, mlX, mfaX, stX, hvX, pwX, btX, sgX, mlsX, jdX, tdX, dsX, enX, mftX, ldrX, wmX, maX, lwX, lrX, mrX, feX, ngX, trsX, dysX, gnX, t9X, spmX, kpmX, udX, Bool.or_eq_true, Bool.and_eq_true, decide_eq_true_eq, decide_eq_false_iff_not, beq_iff_eq, Bool.or_eq_false_iff, Bool.and_eq_false_iff, beq_eq_false_iff_ne]; omega)))⟩, ⟨fs_S_of h.2.2.1.1 (ff F F2 (Y := fsC 33) (fun r j q => by revert q; simp only [fr_tY, fr_pY, fr_gY, fl_Y, fr_nY, fr_kY, fsC, fsM, lawX, eX, lX, pX, fX, snX, brX, wyX, paX, trX, asX, gdX, lnX, lkX, lpX, lwcX, tyX, jyX, mkX, dzX, cpX, taX, glX, t1X, spX, dgX, kpX, mlawX, mvX, meX, mlX, mfaX, stX, hvX, pwX, btX, sgX, mlsX, jdX, tdX, dsX, enX, mftX, ldrX, wmX, maX, lwX, lrX, mrX, feX, ngX, trsX, dysX, gnX, t9X, spmX, kpmX, udX, Bool.or_eq_true, Bool.and_eq_true, decide_eq_true_eq, decide_eq_false_iff_not, beq_iff_eq, Bool.or_eq_false_iff, Bool.and_eq_false_iff, beq_eq_false_iff_ne]; omega) (fun r j q => by revert q; simp only [fr_tY, fr_pY, fr_gY, fl_Y, fr_nY, fr_kY, fsC, fsM, lawX, eX, lX, pX, fX, snX, brX, wyX, paX, trX, asX, gdX, lnX, lkX, lpX, lwcX, tyX, jyX, mkX, dzX, cpX, taX, glX, t1X, spX, dgX, kpX, mlawX, mvX, meX, mlX, mfaX, stX, hvX, pwX, btX, sgX, mlsX, jdX, tdX, dsX, enX, mftX, ldrX, wmX, maX, lwX, lrX, mrX, feX, ngX, trsX, dysX, gnX, t9X, spmX, kpmX, udX, Bool.or_eq_true, Bool.and_eq_true, decide_eq_true_eq, decide_eq_false_iff_not, beq_iff_eq, Bool.or_eq_false_iff, Bool.and_eq_false_iff, beq_eq_false_iff_ne]; omega)) (ff F F2 (Y := fsM) (fun r j q => by revert q; simp only [fr_tY, fr_pY, fr_gY, fl_Y, fr_nY, fr_kY, fsC, fsM, lawX, eX, lX, pX, fX, snX, brX, wyX, paX, trX, asX, gdX, lnX, lkX, lpX, lwcX, tyX, jyX, mkX, dzX, cpX, taX, glX, t1X, spX, dgX, kpX, mlawX, mvX, meX, mlX, mfaX, stX, hvX, pwX, btX, sgX, mlsX, jdX, tdX, dsX, enX, mftX, ldrX, wmX, maX, lwX, lrX, mrX, feX, ngX, trsX, dysX, gnX, t9X, spmX, kpmX, udX, Bool.or_eq_true, Bool.and_eq_true, decide_eq_true_eq, decide_eq_false_iff_not, beq_iff_eq, Bool.or_eq_false_iff, Bool.and_eq_false_iff, beq_eq_false_iff_ne]; omega) (fun r j q => by revert q; simp only [fr_tY, fr_pY, fr_gY, fl_Y, fr_nY, fr_kY, fsC, fsM, lawX, eX, lX, pX, fX, snX, brX, wyX, paX, trX, asX, gdX, lnX, lkX, lpX, lwcX, tyX, jyX, mkX, dzX, cpX, taX, glX, t1X, spX, dgX, kpX, mlawX, mvX, meX, mlX, mfaX, stX, hvX, pwX, btX, sgX, mlsX, jdX, tdX, dsX, enX, mftX, ldrX, wmX, maX, lwX, lrX, mrX, feX, ngX, trsX, dysX, gnX, t9X, spmX, kpmX, udX, Bool.or_eq_true, Bool.and_eq_true, decide_eq_true_eq, decide_eq_false_iff_not, beq_iff_eq, Bool.or_eq_false_iff, Bool.and_eq_false_iff, beq_eq_false_iff_ne]; omega)), ⟨fun j hj => ?_, fun i hi => ?_⟩, fun j hj => ?_⟩, ?_⟩
  · rw [x60, x61]
    have y6 : t2 6 x = if b = -1 ∧ c = -1 then t 6 x else if x = a.toNat then b else t 6 x := by
      rw [F2 6 x rfl, e1]
      unfold sp_tellC
      split
      · rfl
      · rw [hy_up_ne (by decide), hy_up_ne (by decide), hy_up_ne (by decide)]
        simp only [hy_up, true_and]
    have y7 : t2 7 x = if b = -1 ∧ c = -1 then t 7 x else if x = a.toNat then c else t 7 x := by
      rw [F2 7 x rfl, e1]
      unfold sp_tellC
      split
      · rfl
      · rw [hy_up_ne (by decide), hy_up_ne (by decide)]
        simp only [hy_up, true_and]
        split
        · rfl
        · rw [if_neg (by omega)]
    rw [y6, y7]
    by_cases hp : b = -1 ∧ c = -1
    · rw [if_pos hp] at x53
      rw [if_pos hp, if_pos hp]
      rw [x53] at hm
      have hne : x ≠ a.toNat := fun e => by
        rw [e, show ((a.toNat : Nat) : Int) = a by omega, nm] at hm
        cases hm
      rw [if_neg hne, if_neg hne]
      exact h.1.2.2 x hx hm
    · rw [if_neg hp, if_neg hp]
      by_cases hxa : x = a.toNat
      · rw [if_pos hxa, if_pos hxa, if_pos hxa, if_pos hxa]
        exact ⟨rfl, rfl⟩
      · rw [if_neg hp] at x53
        rw [if_neg hxa, if_neg hxa, if_neg hxa, if_neg hxa]
        rw [x53, (bit_set h.1.2.1.1.2.2 ha).2 x hx, decide_eq_false (show ¬ a.toNat = x by omega), Bool.or_false] at hm
        exact h.1.2.2 x hx hm
  · have := h.2.2.1.2.1.1 j hj
    rw [show t2 62 j = t 62 j from (F2 62 j rfl).trans (F 62 j rfl)]
    exact ⟨this.1, fun q => this.2 (npl _ q)⟩
  · have e34 : t2 59 34 = t 59 34 := (F2 59 34 rfl).trans (F 59 34 rfl)
    rw [e34] at hi
    rw [show t2 85 i = t 85 i from (F2 85 i rfl).trans (F 85 i rfl)]
    exact pl _ (h.2.2.1.2.1.2 i hi)
  · rw [F2 35 j rfl, F2 64 j rfl, F 35 j rfl, F 64 j rfl]
    exact h.2.2.1.2.2 j hj
  · have e29 : t2 2 9 = t 2 9 := (F2 2 9 rfl).trans (F 2 9 rfl)
    refine ⟨by rw [e29, F2 59 57 rfl, F 59 57 rfl]; exact h.2.2.2.1, fun q => ?_⟩
    rw [e29] at q
    obtain ⟨⟨⟨s1, s2, s3⟩, s4, s5⟩, s6, s7, s8, s9⟩ := h.2.2.2.2 q
    have c3 : t2 37 3 = t 37 3 := (F2 37 3 rfl).trans (F 37 3 rfl)
    refine ⟨⟨⟨by rw [c3, F2 59 54 rfl, F 59 54 rfl]; exact s1, by rw [c3]; exact s2, by rw [c3]; exact s3⟩, by rw [F2 37 4 rfl, F2 59 55 rfl, F 37 4 rfl, F 59 55 rfl]; exact s4, by rw [F2 37 5 rfl, F2 59 56 rfl, F 37 5 rfl, F 59 56 rfl]; exact s5⟩, fun j hj => by rw [F2 38 j rfl, F2 93 j rfl, F 38 j rfl, F 93 j rfl]; exact ⟨(s6 j hj).1, (s6 j hj).2.1, fun q => (s6 j hj).2.2 (npl _ q)⟩, fun i w hi hw => ?_, fun j hj => by rw [F2 39 j rfl, F2 95 j rfl, F 39 j rfl, F 95 j rfl]; exact s8 j hj, fun i hi => ?_⟩
    · rw [c3] at hi
      rw [F2 40 _ rfl, F2 94 _ rfl, F 40 _ rfl, F 94 _ rfl]
      exact s7 i w hi hw
    · rw [c3] at hi
      rw [F2 94 _ rfl, F 94 _ rfl]
      exact pl _ (s9 i hi)
/-! havers, owners, seed -/
theorem fr_have {t t1 t2 : hy_T} {a b c : Int} {r1 r2 : Option Int} (h : fr t) (F : hy_F (fun r _ => r == 34) t t1) (F2 : hy_F (fun r _ => r == 62) t1 t2) (q1 : r1 = some (hy_b (wf_have t a b c)) ∧ t1 = if wf_have t a b c = true then sp_setH 33 t a b c else t) (q2 : r2 = some (hy_b (mf_have t1 a b c)) ∧ t2 = if mf_have t1 a b c = true then hy_up t1 62 (4 * a + b).toNat c else t1) : r2 = r1 ∧ fr t2 := by
  have e : mf_have t1 a b c = wf_have t a b c := by
    unfold mf_have wf_have
    rw [← fr_plain h.1.2.1 (F 59 0 rfl) (fun j => F 60 j rfl) a]
  rw [e] at q2
  refine ⟨by rw [q1.1, q2.1], ?_⟩
  by_cases hq : wf_have t a b c = true
  · obtain ⟨-, e1⟩ := q1
    obtain ⟨-, e2⟩ := q2
    rw [if_pos hq] at e1 e2
    have hq2 := hq
    simp only [wf_have, Bool.and_eq_true, decide_eq_true_eq] at hq2
    have hw : sp_told (t 5 2) a = true := hq2.1.1
    have ha := sp_told_in hw
    have x34 : ∀ j, t2 34 j = if j = (4 * a + b).toNat then c else t 34 j := fun j => by
      rw [F2 34 j rfl, e1]
      unfold sp_setH
      rw [if_pos ⟨ha, hq2.2.1⟩]
      simp only [hy_up, true_and]
    have x62 : ∀ j, t2 62 j = if j = (4 * a + b).toNat then c else t 62 j := fun j => by
      rw [e2]
      simp only [hy_up, true_and]
      rw [F 62 j rfl]
    obtain ⟨⟨⟨s, s4, s5⟩, s6, s7⟩, ⟨s8, s9⟩, s10⟩ := h.2.2.1
    refine ⟨⟨(fr_t_F h.1.1 (ff F F2 (Y := fr_tY) (fun r j q => by revert q; simp only [fr_tY, fr_pY, fr_gY, fl_Y, fr_nY, fr_kY, fsC, fsM, lawX, eX, lX, pX, fX, snX, brX, wyX, paX, trX, asX, gdX, lnX, lkX, lpX, lwcX, tyX, jyX, mkX, dzX, cpX, taX, glX, t1X, spX, dgX, kpX, mlawX, mvX, meX, mlX, mfaX, stX, hvX, pwX, btX, sgX, mlsX, jdX, tdX, dsX, enX, mftX, ldrX, wmX, maX, lwX, lrX, mrX, feX, ngX, trsX, dysX, gnX, t9X, spmX, kpmX, udX, Bool.or_eq_true, Bool.and_eq_true, decide_eq_true_eq, decide_eq_false_iff_not, beq_iff_eq, Bool.or_eq_false_iff, Bool.and_eq_false_iff, beq_eq_false_iff_ne]; omega) (fun r j q => by revert q; simp only [fr_tY, fr_pY, fr_gY, fl_Y, fr_nY, fr_kY, fsC, fsM, lawX, eX, lX, pX, fX, snX, brX, wyX, paX, trX, asX, gdX, lnX, lkX, lpX, lwcX, tyX, jyX, mkX, dzX, cpX, taX, glX, t1X, spX, dgX, kpX, mlawX, mvX, meX, mlX, mfaX, stX, hvX, pwX, btX, sgX, mlsX, jdX, tdX, dsX, enX, mftX, ldrX, wmX, maX, lwX, lrX, mrX, feX, ngX, trsX, dysX, gnX, t9X, spmX, kpmX, udX, Bool.or_eq_true, Bool.and_eq_true, decide_eq_true_eq, decide_eq_false_iff_not, beq_iff_eq, Bool.or_eq_false_iff, Bool.and_eq_false_iff, beq_eq_false_iff_ne]; omega))), (fr_p_F h.1.2 (ff F F2 (Y := fr_pY) (fun r j q => by revert q; simp only [fr_tY, fr_pY, fr_gY, fl_Y, fr_nY, fr_kY, fsC, fsM, lawX, eX, lX, pX, fX, snX, brX, wyX, paX, trX, asX, gdX, lnX, lkX, lpX, lwcX, tyX, jyX, mkX, dzX, cpX, taX, glX, t1X, spX, dgX, kpX, mlawX, mvX, meX, mlX, mfaX, stX, hvX, pwX, btX, sgX, mlsX, jdX, tdX, dsX, enX, mftX, ldrX, wmX, maX, lwX, lrX, mrX, feX, ngX, trsX, dysX, gnX, t9X, spmX, kpmX, udX, Bool.or_eq_true, Bool.and_eq_true, decide_eq_true_eq, decide_eq_false_iff_not, beq_iff_eq, Bool.or_eq_false_iff, Bool.and_eq_false_iff, beq_eq_false_iff_ne]; omega) (fun r j q => by revert q; simp only [fr_tY, fr_pY, fr_gY, fl_Y, fr_nY, fr_kY, fsC, fsM, lawX, eX, lX, pX, fX, snX, brX, wyX, paX, trX, asX, gdX, lnX, lkX, lpX, lwcX, tyX, jyX, mkX, dzX, cpX, taX, glX, t1X, spX, dgX, kpX, mlawX, mvX, meX, mlX, mfaX, stX, hvX, pwX, btX, sgX, mlsX, jdX, tdX, dsX, enX, mftX, ldrX, wmX, maX, lwX, lrX, mrX, feX, ngX, trsX, dysX, gnX, t9X, spmX, kpmX, udX, Bool.or_eq_true, Bool.and_eq_true, decide_eq_true_eq, decide_eq_false_iff_not, beq_iff_eq, Bool.or_eq_false_iff, Bool.and_eq_false_iff, beq_eq_false_iff_ne]; omega)))⟩, ⟨(fr_g_F h.2.1.1 (ff F F2 (Y := fr_gY) (fun r j q => by revert q; simp only [fr_tY, fr_pY, fr_gY, fl_Y, fr_nY, fr_kY, fsC, fsM, lawX, eX, lX, pX, fX, snX, brX, wyX, paX, trX, asX, gdX, lnX, lkX, lpX, lwcX, tyX, jyX, mkX, dzX, cpX, taX, glX, t1X, spX, dgX, kpX, mlawX, mvX, meX, mlX, mfaX, stX, hvX, pwX, btX, sgX, mlsX, jdX, tdX, dsX, enX, mftX, ldrX, wmX, maX, lwX, lrX, mrX, feX, ngX, trsX, dysX, gnX, t9X, spmX, kpmX, udX, Bool.or_eq_true, Bool.and_eq_true, decide_eq_true_eq, decide_eq_false_iff_not, beq_iff_eq, Bool.or_eq_false_iff, Bool.and_eq_false_iff, beq_eq_false_iff_ne]; omega) (fun r j q => by revert q; simp only [fr_tY, fr_pY, fr_gY, fl_Y, fr_nY, fr_kY, fsC, fsM, lawX, eX, lX, pX, fX, snX, brX, wyX, paX, trX, asX, gdX, lnX, lkX, lpX, lwcX, tyX, jyX, mkX, dzX, cpX, taX, glX, t1X, spX, dgX, kpX, mlawX, mvX, meX, mlX, mfaX, stX, hvX, pwX, btX, sgX, mlsX, jdX, tdX, dsX, enX, mftX, ldrX, wmX, maX, lwX, lrX, mrX, feX, ngX, trsX, dysX, gnX, t9X, spmX, kpmX, udX, Bool.or_eq_true, Bool.and_eq_true, decide_eq_true_eq, decide_eq_false_iff_not, beq_iff_eq, Bool.or_eq_false_iff, Bool.and_eq_false_iff, beq_eq_false_iff_ne]; omega))), (fl_law_F h.2.1.2 (ff F F2 (Y := fl_Y) (fun r j q => by revert q; simp only [fr_tY, fr_pY, fr_gY, fl_Y, fr_nY, fr_kY, fsC, fsM, lawX, eX, lX, pX, fX, snX, brX, wyX, paX, trX, asX, gdX, lnX, lkX, lpX, lwcX, tyX, jyX, mkX, dzX, cpX, taX, glX, t1X, spX, dgX, kpX, mlawX, mvX, meX, mlX, mfaX, stX, hvX, pwX, btX, sgX, mlsX, jdX, tdX, dsX, enX, mftX, ldrX, wmX, maX, lwX, lrX, mrX, feX, ngX, trsX, dysX, gnX, t9X, spmX, kpmX, udX, Bool.or_eq_true, Bool.and_eq_true, decide_eq_true_eq, decide_eq_false_iff_not, beq_iff_eq, Bool.or_eq_false_iff, Bool.and_eq_false_iff, beq_eq_false_iff_ne]; omega) (fun r j q => by revert q; simp only [fr_tY, fr_pY, fr_gY, fl_Y, fr_nY, fr_kY, fsC, fsM, lawX, eX, lX, pX, fX, snX, brX, wyX, paX, trX, asX, gdX, lnX, lkX, lpX, lwcX, tyX, jyX, mkX, dzX, cpX, taX, glX, t1X, spX, dgX, kpX, mlawX, mvX, meX, mlX, mfaX, stX, hvX, pwX, btX, sgX, mlsX, jdX, tdX, dsX, enX, mftX, ldrX, wmX, maX, lwX, lrX, mrX, feX, ngX, trsX, dysX, gnX, t9X, spmX, kpmX, udX, Bool.or_eq_true, Bool.and_eq_true, decide_eq_true_eq, decide_eq_false_iff_not, beq_iff_eq, Bool.or_eq_false_iff, Bool.and_eq_false_iff, beq_eq_false_iff_ne]; omega)))⟩, ⟨⟨⟨?_, ?_, ?_⟩, fun j hj => ?_, fun i w hi hw => ?_⟩, ⟨fun j hj => ?_, ?_⟩, fun j hj => ?_⟩, (fr_k_F h.2.2.2 (ff F F2 (Y := fr_kY) (fun r j q => by revert q; simp only [fr_tY, fr_pY, fr_gY, fl_Y, fr_nY, fr_kY, fsC, fsM, lawX, eX, lX, pX, fX, snX, brX, wyX, paX, trX, asX, gdX, lnX, lkX, lpX, lwcX, tyX, jyX, mkX, dzX, cpX, taX, glX, t1X, spX, dgX, kpX, mlawX, mvX, meX, mlX, mfaX, stX, hvX, pwX, btX, sgX, mlsX, jdX, tdX, dsX, enX, mftX, ldrX, wmX, maX, lwX, lrX, mrX, feX, ngX, trsX, dysX, gnX, t9X, spmX, kpmX, udX, Bool.or_eq_true, Bool.and_eq_true, decide_eq_true_eq, decide_eq_false_iff_not, beq_iff_eq, Bool.or_eq_false_iff, Bool.and_eq_false_iff, beq_eq_false_iff_ne]; omega) (fun r j q => by revert q; simp only [fr_tY, fr_pY, fr_gY, fl_Y, fr_nY, fr_kY, fsC, fsM, lawX, eX, lX, pX, fX, snX, brX, wyX, paX, trX, asX, gdX, lnX, lkX, lpX, lwcX, tyX, jyX, mkX, dzX, cpX, taX, glX, t1X, spX, dgX, kpX, mlawX, mvX, meX, mlX, mfaX, stX, hvX, pwX, btX, sgX, mlsX, jdX, tdX, dsX, enX, mftX, ldrX, wmX, maX, lwX, lrX, mrX, feX, ngX, trsX, dysX, gnX, t9X, spmX, kpmX, udX, Bool.or_eq_true, Bool.and_eq_true, decide_eq_true_eq, decide_eq_false_iff_not, beq_iff_eq, Bool.or_eq_false_iff, Bool.and_eq_false_iff, beq_eq_false_iff_ne]; omega)))⟩
    · rw [F2 33 3 rfl, F2 59 34 rfl, F 33 3 rfl, F 59 34 rfl]; exact s
    · rw [F2 33 4 rfl, F2 59 2 rfl, F 33 4 rfl, F 59 2 rfl]; exact s4
    · rw [F2 33 5 rfl, F2 59 1 rfl, F 33 5 rfl, F 59 1 rfl]; exact s5
    · show t2 34 j = t2 62 j
      rw [x34, x62, show t 34 j = t 62 j from s6 j hj]
    · rw [F2 33 3 rfl, F 33 3 rfl] at hi
      have hw6 : w = 0 ∨ w = 1 ∨ w = 2 ∨ w = 3 ∨ w = 4 ∨ w = 5 := by omega
      show t2 36 _ = _
      rw [F2 36 _ rfl, F 36 _ rfl, F2 (85 + w) i (by rcases hw6 with rfl | rfl | rfl | rfl | rfl | rfl <;> rfl), F (85 + w) i (by rcases hw6 with rfl | rfl | rfl | rfl | rfl | rfl <;> rfl)]
      exact s7 i w hi hw
    · rw [mf_plain_F ((F2 59 0 rfl).trans (F 59 0 rfl)) (fun j => (F2 60 j rfl).trans (F 60 j rfl)), x62]
      by_cases hj2 : j = (4 * a + b).toNat
      · rw [if_pos hj2]
        refine ⟨by omega, fun q => ?_⟩
        exfalso
        rw [show ((j / 4 : Nat) : Int) = a by omega, ← p3_plain h.1.2.1 a] at q
        unfold wf_plain at q
        rw [hq2.1.1, hq2.1.2] at q
        cases q
      · rw [if_neg hj2]
        exact s8 j hj
    · exact ft_F s9 ((F2 59 34 rfl).trans (F 59 34 rfl)) (fun j => (F2 85 j rfl).trans (F 85 j rfl)) ((F2 59 0 rfl).trans (F 59 0 rfl)) (fun j => (F2 60 j rfl).trans (F 60 j rfl))
    · rw [F2 35 j rfl, F2 64 j rfl, F 35 j rfl, F 64 j rfl]; exact s10 j hj
  · obtain ⟨-, e1⟩ := q1
    obtain ⟨-, e2⟩ := q2
    rw [if_neg hq] at e1 e2
    rw [e2, e1]
    exact h
theorem fr_owner {t t1 t2 : hy_T} {a b c : Int} (h : fr t) (F : hy_F (fun r _ => r == 35) t t1) (F2 : hy_F (fun r _ => r == 64) t1 t2) (e1 : t1 = if wf_owner a b c = true then hy_up t 35 (8 * b + a).toNat c else t) (e2 : t2 = if wf_owner a b c = true then hy_up t1 64 (8 * b + a).toNat c else t1) : fr t2 := by
  by_cases hq : wf_owner a b c = true
  · rw [if_pos hq] at e1 e2
    refine ⟨⟨(fr_t_F h.1.1 (ff F F2 (Y := fr_tY) (fun r j q => by revert q; simp only [fr_tY, fr_pY, fr_gY, fl_Y, fr_nY, fr_kY, fsC, fsM, lawX, eX, lX, pX, fX, snX, brX, wyX, paX, trX, asX, gdX, lnX, lkX, lpX, lwcX, tyX, jyX, mkX, dzX, cpX, taX, glX, t1X, spX, dgX, kpX, mlawX, mvX, meX, mlX, mfaX, stX, hvX, pwX, btX, sgX, mlsX, jdX, tdX, dsX, enX, mftX, ldrX, wmX, maX, lwX, lrX, mrX, feX, ngX, trsX, dysX, gnX, t9X, spmX, kpmX, udX, Bool.or_eq_true, Bool.and_eq_true, decide_eq_true_eq, decide_eq_false_iff_not, beq_iff_eq, Bool.or_eq_false_iff, Bool.and_eq_false_iff, beq_eq_false_iff_ne]; omega) (fun r j q => by revert q; simp only [fr_tY, fr_pY, fr_gY, fl_Y, fr_nY, fr_kY, fsC, fsM, lawX, eX, lX, pX, fX, snX, brX, wyX, paX, trX, asX, gdX, lnX, lkX, lpX, lwcX, tyX, jyX, mkX, dzX, cpX, taX, glX, t1X, spX, dgX, kpX, mlawX, mvX, meX, mlX, mfaX, stX, hvX, pwX, btX, sgX, mlsX, jdX, tdX, dsX, enX, mftX, ldrX, wmX, maX, lwX, lrX, mrX, feX, ngX, trsX, dysX, gnX, t9X, spmX, kpmX, udX, Bool.or_eq_true, Bool.and_eq_true, decide_eq_true_eq, decide_eq_false_iff_not, beq_iff_eq, Bool.or_eq_false_iff, Bool.and_eq_false_iff, beq_eq_false_iff_ne]; omega))), (fr_p_F h.1.2 (ff F F2 (Y := fr_pY) (fun r j q => by revert q; simp only [fr_tY, fr_pY, fr_gY, fl_Y, fr_nY, fr_kY, fsC, fsM, lawX, eX, lX, pX, fX, snX, brX, wyX, paX, trX, asX, gdX, lnX, lkX, lpX, lwcX, tyX, jyX, mkX, dzX, cpX, taX, glX, t1X, spX, dgX, kpX, mlawX, mvX, meX, mlX, mfaX, stX, hvX, pwX, btX, sgX, mlsX, jdX, tdX, dsX, enX, mftX, ldrX, wmX, maX, lwX, lrX, mrX, feX, ngX, trsX, dysX, gnX, t9X, spmX, kpmX, udX, Bool.or_eq_true, Bool.and_eq_true, decide_eq_true_eq, decide_eq_false_iff_not, beq_iff_eq, Bool.or_eq_false_iff, Bool.and_eq_false_iff, beq_eq_false_iff_ne]; omega) (fun r j q => by revert q; simp only [fr_tY, fr_pY, fr_gY, fl_Y, fr_nY, fr_kY, fsC, fsM, lawX, eX, lX, pX, fX, snX, brX, wyX, paX, trX, asX, gdX, lnX, lkX, lpX, lwcX, tyX, jyX, mkX, dzX, cpX, taX, glX, t1X, spX, dgX, kpX, mlawX, mvX, meX, mlX, mfaX, stX, hvX, pwX, btX, sgX, mlsX, jdX, tdX, dsX, enX, mftX, ldrX, wmX, maX, lwX, lrX, mrX, feX, ngX, trsX, dysX, gnX, t9X, spmX, kpmX, udX, Bool.or_eq_true, Bool.and_eq_true, decide_eq_true_eq, decide_eq_false_iff_not, beq_iff_eq, Bool.or_eq_false_iff, Bool.and_eq_false_iff, beq_eq_false_iff_ne]; omega)))⟩, ⟨(fr_g_F h.2.1.1 (ff F F2 (Y := fr_gY) (fun r j q => by revert q; simp only [fr_tY, fr_pY, fr_gY, fl_Y, fr_nY, fr_kY, fsC, fsM, lawX, eX, lX, pX, fX, snX, brX, wyX, paX, trX, asX, gdX, lnX, lkX, lpX, lwcX, tyX, jyX, mkX, dzX, cpX, taX, glX, t1X, spX, dgX, kpX, mlawX, mvX, meX, mlX, mfaX, stX, hvX, pwX, btX, sgX, mlsX, jdX, tdX, dsX, enX, mftX, ldrX, wmX, maX, lwX, lrX, mrX, feX, ngX, trsX, dysX, gnX, t9X, spmX, kpmX, udX, Bool.or_eq_true, Bool.and_eq_true, decide_eq_true_eq, decide_eq_false_iff_not, beq_iff_eq, Bool.or_eq_false_iff, Bool.and_eq_false_iff, beq_eq_false_iff_ne]; omega) (fun r j q => by revert q; simp only [fr_tY, fr_pY, fr_gY, fl_Y, fr_nY, fr_kY, fsC, fsM, lawX, eX, lX, pX, fX, snX, brX, wyX, paX, trX, asX, gdX, lnX, lkX, lpX, lwcX, tyX, jyX, mkX, dzX, cpX, taX, glX, t1X, spX, dgX, kpX, mlawX, mvX, meX, mlX, mfaX, stX, hvX, pwX, btX, sgX, mlsX, jdX, tdX, dsX, enX, mftX, ldrX, wmX, maX, lwX, lrX, mrX, feX, ngX, trsX, dysX, gnX, t9X, spmX, kpmX, udX, Bool.or_eq_true, Bool.and_eq_true, decide_eq_true_eq, decide_eq_false_iff_not, beq_iff_eq, Bool.or_eq_false_iff, Bool.and_eq_false_iff, beq_eq_false_iff_ne]; omega))), (fl_law_F h.2.1.2 (ff F F2 (Y := fl_Y) (fun r j q => by revert q; simp only [fr_tY, fr_pY, fr_gY, fl_Y, fr_nY, fr_kY, fsC, fsM, lawX, eX, lX, pX, fX, snX, brX, wyX, paX, trX, asX, gdX, lnX, lkX, lpX, lwcX, tyX, jyX, mkX, dzX, cpX, taX, glX, t1X, spX, dgX, kpX, mlawX, mvX, meX, mlX, mfaX, stX, hvX, pwX, btX, sgX, mlsX, jdX, tdX, dsX, enX, mftX, ldrX, wmX, maX, lwX, lrX, mrX, feX, ngX, trsX, dysX, gnX, t9X, spmX, kpmX, udX, Bool.or_eq_true, Bool.and_eq_true, decide_eq_true_eq, decide_eq_false_iff_not, beq_iff_eq, Bool.or_eq_false_iff, Bool.and_eq_false_iff, beq_eq_false_iff_ne]; omega) (fun r j q => by revert q; simp only [fr_tY, fr_pY, fr_gY, fl_Y, fr_nY, fr_kY, fsC, fsM, lawX, eX, lX, pX, fX, snX, brX, wyX, paX, trX, asX, gdX, lnX, lkX, lpX, lwcX, tyX, jyX, mkX, dzX, cpX, taX, glX, t1X, spX, dgX, kpX, mlawX, mvX, meX, mlX, mfaX, stX, hvX, pwX, btX, sgX, mlsX, jdX, tdX, dsX, enX, mftX, ldrX, wmX, maX, lwX, lrX, mrX, feX, ngX, trsX, dysX, gnX, t9X, spmX, kpmX, udX, Bool.or_eq_true, Bool.and_eq_true, decide_eq_true_eq, decide_eq_false_iff_not, beq_iff_eq, Bool.or_eq_false_iff, Bool.and_eq_false_iff, beq_eq_false_iff_ne]; omega)))⟩, ⟨fs_S_of h.2.2.1.1 (ff F F2 (Y := fsC 33) (fun r j q => by revert q; simp only [fr_tY, fr_pY, fr_gY, fl_Y, fr_nY, fr_kY, fsC, fsM, lawX, eX, lX, pX, fX, snX, brX, wyX, paX, trX, asX, gdX, lnX, lkX, lpX, lwcX, tyX, jyX, mkX, dzX, cpX, taX, glX, t1X, spX, dgX, kpX, mlawX, mvX, meX, mlX, mfaX, stX, hvX, pwX, btX, sgX, mlsX, jdX, tdX, dsX, enX, mftX, ldrX, wmX, maX, lwX, lrX, mrX, feX, ngX, trsX, dysX, gnX, t9X, spmX, kpmX, udX, Bool.or_eq_true, Bool.and_eq_true, decide_eq_true_eq, decide_eq_false_iff_not, beq_iff_eq, Bool.or_eq_false_iff, Bool.and_eq_false_iff, beq_eq_false_iff_ne]; omega) (fun r j q => by revert q; simp only [fr_tY, fr_pY, fr_gY, fl_Y, fr_nY, fr_kY, fsC, fsM, lawX, eX, lX, pX, fX, snX, brX, wyX, paX, trX, asX, gdX, lnX, lkX, lpX, lwcX, tyX, jyX, mkX, dzX, cpX, taX, glX, t1X, spX, dgX, kpX, mlawX, mvX, meX, mlX, mfaX, stX, hvX, pwX, btX, sgX, mlsX, jdX, tdX, dsX, enX, mftX, ldrX, wmX, maX, lwX, lrX, mrX, feX, ngX, trsX, dysX, gnX, t9X, spmX, kpmX, udX, Bool.or_eq_true, Bool.and_eq_true, decide_eq_true_eq, decide_eq_false_iff_not, beq_iff_eq, Bool.or_eq_false_iff, Bool.and_eq_false_iff, beq_eq_false_iff_ne]; omega)) (ff F F2 (Y := fsM) (fun r j q => by revert q; simp only [fr_tY, fr_pY, fr_gY, fl_Y, fr_nY, fr_kY, fsC, fsM, lawX, eX, lX, pX, fX, snX, brX, wyX, paX, trX, asX, gdX, lnX, lkX, lpX, lwcX, tyX, jyX, mkX, dzX, cpX, taX, glX, t1X, spX, dgX, kpX, mlawX, mvX, meX, mlX, mfaX, stX, hvX, pwX, btX, sgX, mlsX, jdX, tdX, dsX, enX, mftX, ldrX, wmX, maX, lwX, lrX, mrX, feX, ngX, trsX, dysX, gnX, t9X, spmX, kpmX, udX, Bool.or_eq_true, Bool.and_eq_true, decide_eq_true_eq, decide_eq_false_iff_not, beq_iff_eq, Bool.or_eq_false_iff, Bool.and_eq_false_iff, beq_eq_false_iff_ne]; omega) (fun r j q => by revert q; simp only [fr_tY, fr_pY, fr_gY, fl_Y, fr_nY, fr_kY, fsC, fsM, lawX, eX, lX, pX, fX, snX, brX, wyX, paX, trX, asX, gdX, lnX, lkX, lpX, lwcX, tyX, jyX, mkX, dzX, cpX, taX, glX, t1X, spX, dgX, kpX, mlawX, mvX, meX, mlX, mfaX, stX, hvX, pwX, btX, sgX, mlsX, jdX, tdX, dsX, enX, mftX, ldrX, wmX, maX, lwX, lrX, mrX, feX, ngX, trsX, dysX, gnX, t9X, spmX, kpmX, udX, Bool.or_eq_true, Bool.and_eq_true, decide_eq_true_eq, decide_eq_false_iff_not, beq_iff_eq, Bool.or_eq_false_iff, Bool.and_eq_false_iff, beq_eq_false_iff_ne]; omega)), ⟨fh_F h.2.2.1.2.1.1 (fun j => (F2 62 j rfl).trans (F 62 j rfl)) ((F2 59 0 rfl).trans (F 59 0 rfl)) (fun j => (F2 60 j rfl).trans (F 60 j rfl)), ft_F h.2.2.1.2.1.2 ((F2 59 34 rfl).trans (F 59 34 rfl)) (fun j => (F2 85 j rfl).trans (F 85 j rfl)) ((F2 59 0 rfl).trans (F 59 0 rfl)) (fun j => (F2 60 j rfl).trans (F 60 j rfl))⟩, fun j hj => ?_⟩, (fr_k_F h.2.2.2 (ff F F2 (Y := fr_kY) (fun r j q => by revert q; simp only [fr_tY, fr_pY, fr_gY, fl_Y, fr_nY, fr_kY, fsC, fsM, lawX, eX, lX, pX, fX, snX, brX, wyX, paX, trX, asX, gdX, lnX, lkX, lpX, lwcX, tyX, jyX, mkX, dzX, cpX, taX, glX, t1X, spX, dgX, kpX, mlawX, mvX, meX, mlX, mfaX, stX, hvX, pwX, btX, sgX, mlsX, jdX, tdX, dsX, enX, mftX, ldrX, wmX, maX, lwX, lrX, mrX, feX, ngX, trsX, dysX, gnX, t9X, spmX, kpmX, udX, Bool.or_eq_true, Bool.and_eq_true, decide_eq_true_eq, decide_eq_false_iff_not, beq_iff_eq, Bool.or_eq_false_iff, Bool.and_eq_false_iff, beq_eq_false_iff_ne]; omega) (fun r j q => by revert q; simp only [fr_tY, fr_pY, fr_gY, fl_Y, fr_nY, fr_kY, fsC, fsM, lawX, eX, lX, pX, fX, snX, brX, wyX, paX, trX, asX, gdX, lnX, lkX, lpX, lwcX, tyX, jyX, mkX, dzX, cpX, taX, glX, t1X, spX, dgX, kpX, mlawX, mvX, meX, mlX, mfaX, stX, hvX, pwX, btX, sgX, mlsX, jdX, tdX, dsX, enX, mftX, ldrX, wmX, maX, lwX, lrX, mrX, feX, ngX, trsX, dysX, gnX, t9X, spmX, kpmX, udX, Bool.or_eq_true, Bool.and_eq_true, decide_eq_true_eq, decide_eq_false_iff_not, beq_iff_eq, Bool.or_eq_false_iff, Bool.and_eq_false_iff, beq_eq_false_iff_ne]; omega)))⟩
    have x35 : t2 35 j = if j = (8 * b + a).toNat then c else t 35 j := by
      rw [F2 35 j rfl, e1]
      simp only [hy_up, true_and]
    have x64 : t2 64 j = if j = (8 * b + a).toNat then c else t 64 j := by
      rw [e2]
      simp only [hy_up, true_and]
      rw [F 64 j rfl]
    rw [x35, x64, h.2.2.1.2.2 j hj]
  · rw [if_neg hq] at e1 e2
    rw [e2, e1]
    exact h
theorem fr_seed {t t1 t2 : hy_T} {x : Int} (h : fr t) (F : hy_F (fun r j => r == 33 && j == 5) t t1) (F2 : hy_F (fun r j => r == 59 && j == 1) t1 t2) (e1 : t1 = if wf_seed x = true then hy_up t 33 5 x else t) (e2 : t2 = if wf_seed x = true then hy_up t1 59 1 x else t1) : fr t2 := by
  by_cases hq : wf_seed x = true
  · rw [if_pos hq] at e1 e2
    obtain ⟨⟨⟨s, s4, s5⟩, s6, s7⟩, ⟨s8, s9⟩, s10⟩ := h.2.2.1
    refine ⟨⟨(fr_t_F h.1.1 (ff F F2 (Y := fr_tY) (fun r j q => by revert q; simp only [fr_tY, fr_pY, fr_gY, fl_Y, fr_nY, fr_kY, fsC, fsM, lawX, eX, lX, pX, fX, snX, brX, wyX, paX, trX, asX, gdX, lnX, lkX, lpX, lwcX, tyX, jyX, mkX, dzX, cpX, taX, glX, t1X, spX, dgX, kpX, mlawX, mvX, meX, mlX, mfaX, stX, hvX, pwX, btX, sgX, mlsX, jdX, tdX, dsX, enX, mftX, ldrX, wmX, maX, lwX, lrX, mrX, feX, ngX, trsX, dysX, gnX, t9X, spmX, kpmX, udX, Bool.or_eq_true, Bool.and_eq_true, decide_eq_true_eq, decide_eq_false_iff_not, beq_iff_eq, Bool.or_eq_false_iff, Bool.and_eq_false_iff, beq_eq_false_iff_ne]; omega) (fun r j q => by revert q; simp only [fr_tY, fr_pY, fr_gY, fl_Y, fr_nY, fr_kY, fsC, fsM, lawX, eX, lX, pX, fX, snX, brX, wyX, paX, trX, asX, gdX, lnX, lkX, lpX, lwcX, tyX, jyX, mkX, dzX, cpX, taX, glX, t1X, spX, dgX, kpX, mlawX, mvX, meX, mlX, mfaX, stX, hvX, pwX, btX, sgX, mlsX, jdX, tdX, dsX, enX, mftX, ldrX, wmX, maX, lwX, lrX, mrX, feX, ngX, trsX, dysX, gnX, t9X, spmX, kpmX, udX, Bool.or_eq_true, Bool.and_eq_true, decide_eq_true_eq, decide_eq_false_iff_not, beq_iff_eq, Bool.or_eq_false_iff, Bool.and_eq_false_iff, beq_eq_false_iff_ne]; omega))), (fr_p_F h.1.2 (ff F F2 (Y := fr_pY) (fun r j q => by revert q; simp only [fr_tY, fr_pY, fr_gY, fl_Y, fr_nY, fr_kY, fsC, fsM, lawX, eX, lX, pX, fX, snX, brX, wyX, paX, trX, asX, gdX, lnX, lkX, lpX, lwcX, tyX, jyX, mkX, dzX, cpX, taX, glX, t1X, spX, dgX, kpX, mlawX, mvX, meX, mlX, mfaX, stX, hvX, pwX, btX, sgX, mlsX, jdX, tdX, dsX, enX, mftX, ldrX, wmX, maX, lwX, lrX, mrX, feX, ngX, trsX, dysX, gnX, t9X, spmX, kpmX, udX, Bool.or_eq_true, Bool.and_eq_true, decide_eq_true_eq, decide_eq_false_iff_not, beq_iff_eq, Bool.or_eq_false_iff, Bool.and_eq_false_iff, beq_eq_false_iff_ne]; omega) (fun r j q => by revert q; simp only [fr_tY, fr_pY, fr_gY, fl_Y, fr_nY, fr_kY, fsC, fsM, lawX, eX, lX, pX, fX, snX, brX, wyX, paX, trX, asX, gdX, lnX, lkX, lpX, lwcX, tyX, jyX, mkX, dzX, cpX, taX, glX, t1X, spX, dgX, kpX, mlawX, mvX, meX, mlX, mfaX, stX, hvX, pwX, btX, sgX, mlsX, jdX, tdX, dsX, enX, mftX, ldrX, wmX, maX, lwX, lrX, mrX, feX, ngX, trsX, dysX, gnX, t9X, spmX, kpmX, udX, Bool.or_eq_true, Bool.and_eq_true, decide_eq_true_eq, decide_eq_false_iff_not, beq_iff_eq, Bool.or_eq_false_iff, Bool.and_eq_false_iff, beq_eq_false_iff_ne]; omega)))⟩, ⟨(fr_g_F h.2.1.1 (ff F F2 (Y := fr_gY) (fun r j q => by revert q; simp only [fr_tY, fr_pY, fr_gY, fl_Y, fr_nY, fr_kY, fsC, fsM, lawX, eX, lX, pX, fX, snX, brX, wyX, paX, trX, asX, gdX, lnX, lkX, lpX, lwcX, tyX, jyX, mkX, dzX, cpX, taX, glX, t1X, spX, dgX, kpX, mlawX, mvX, meX, mlX, mfaX, stX, hvX, pwX, btX, sgX, mlsX, jdX, tdX, dsX, enX, mftX, ldrX, wmX, maX, lwX, lrX, mrX, feX, ngX, trsX, dysX, gnX, t9X, spmX, kpmX, udX, Bool.or_eq_true, Bool.and_eq_true, decide_eq_true_eq, decide_eq_false_iff_not, beq_iff_eq, Bool.or_eq_false_iff, Bool.and_eq_false_iff, beq_eq_false_iff_ne]; omega) (fun r j q => by revert q; simp only [fr_tY, fr_pY, fr_gY, fl_Y, fr_nY, fr_kY, fsC, fsM, lawX, eX, lX, pX, fX, snX, brX, wyX, paX, trX, asX, gdX, lnX, lkX, lpX, lwcX, tyX, jyX, mkX, dzX, cpX, taX, glX, t1X, spX, dgX, kpX, mlawX, mvX, meX, mlX, mfaX, stX, hvX, pwX, btX, sgX, mlsX, jdX, tdX, dsX, enX, mftX, ldrX, wmX, maX, lwX, lrX, mrX, feX, ngX, trsX, dysX, gnX, t9X, spmX, kpmX, udX, Bool.or_eq_true, Bool.and_eq_true, decide_eq_true_eq, decide_eq_false_iff_not, beq_iff_eq, Bool.or_eq_false_iff, Bool.and_eq_false_iff, beq_eq_false_iff_ne]; omega))), (fl_law_F h.2.1.2 (ff F F2 (Y := fl_Y) (fun r j q => by revert q; simp only [fr_tY, fr_pY, fr_gY, fl_Y, fr_nY, fr_kY, fsC, fsM, lawX, eX, lX, pX, fX, snX, brX, wyX, paX, trX, asX, gdX, lnX, lkX, lpX, lwcX, tyX, jyX, mkX, dzX, cpX, taX, glX, t1X, spX, dgX, kpX, mlawX, mvX, meX, mlX, mfaX, stX, hvX, pwX, btX, sgX, mlsX, jdX, tdX, dsX, enX, mftX, ldrX, wmX, maX, lwX, lrX, mrX, feX, ngX, trsX, dysX, gnX, t9X, spmX, kpmX, udX, Bool.or_eq_true, Bool.and_eq_true, decide_eq_true_eq, decide_eq_false_iff_not, beq_iff_eq, Bool.or_eq_false_iff, Bool.and_eq_false_iff, beq_eq_false_iff_ne]; omega) (fun r j q => by revert q; simp only [fr_tY, fr_pY, fr_gY, fl_Y, fr_nY, fr_kY, fsC, fsM, lawX, eX, lX, pX, fX, snX, brX, wyX, paX, trX, asX, gdX, lnX, lkX, lpX, lwcX, tyX, jyX, mkX, dzX, cpX, taX, glX, t1X, spX, dgX, kpX, mlawX, mvX, meX, mlX, mfaX, stX, hvX, pwX, btX, sgX, mlsX, jdX, tdX, dsX, enX, mftX, ldrX, wmX, maX, lwX, lrX, mrX, feX, ngX, trsX, dysX, gnX, t9X, spmX, kpmX, udX, Bool.or_eq_true, Bool.and_eq_true, decide_eq_true_eq, decide_eq_false_iff_not, beq_iff_eq, Bool.or_eq_false_iff, Bool.and_eq_false_iff, beq_eq_false_iff_ne]; omega)))⟩, ⟨⟨⟨?_, ?_, ?_⟩, fun j hj => ?_, fun i w hi hw => ?_⟩, ⟨fh_F s8 (fun j => (F2 62 j rfl).trans (F 62 j rfl)) ((F2 59 0 rfl).trans (F 59 0 rfl)) (fun j => (F2 60 j rfl).trans (F 60 j rfl)), ft_F s9 ((F2 59 34 rfl).trans (F 59 34 rfl)) (fun j => (F2 85 j rfl).trans (F 85 j rfl)) ((F2 59 0 rfl).trans (F 59 0 rfl)) (fun j => (F2 60 j rfl).trans (F 60 j rfl))⟩, fun j hj => ?_⟩, (fr_k_F h.2.2.2 (ff F F2 (Y := fr_kY) (fun r j q => by revert q; simp only [fr_tY, fr_pY, fr_gY, fl_Y, fr_nY, fr_kY, fsC, fsM, lawX, eX, lX, pX, fX, snX, brX, wyX, paX, trX, asX, gdX, lnX, lkX, lpX, lwcX, tyX, jyX, mkX, dzX, cpX, taX, glX, t1X, spX, dgX, kpX, mlawX, mvX, meX, mlX, mfaX, stX, hvX, pwX, btX, sgX, mlsX, jdX, tdX, dsX, enX, mftX, ldrX, wmX, maX, lwX, lrX, mrX, feX, ngX, trsX, dysX, gnX, t9X, spmX, kpmX, udX, Bool.or_eq_true, Bool.and_eq_true, decide_eq_true_eq, decide_eq_false_iff_not, beq_iff_eq, Bool.or_eq_false_iff, Bool.and_eq_false_iff, beq_eq_false_iff_ne]; omega) (fun r j q => by revert q; simp only [fr_tY, fr_pY, fr_gY, fl_Y, fr_nY, fr_kY, fsC, fsM, lawX, eX, lX, pX, fX, snX, brX, wyX, paX, trX, asX, gdX, lnX, lkX, lpX, lwcX, tyX, jyX, mkX, dzX, cpX, taX, glX, t1X, spX, dgX, kpX, mlawX, mvX, meX, mlX, mfaX, stX, hvX, pwX, btX, sgX, mlsX, jdX, tdX, dsX, enX, mftX, ldrX, wmX, maX, lwX, lrX, mrX, feX, ngX, trsX, dysX, gnX, t9X, spmX, kpmX, udX, Bool.or_eq_true, Bool.and_eq_true, decide_eq_true_eq, decide_eq_false_iff_not, beq_iff_eq, Bool.or_eq_false_iff, Bool.and_eq_false_iff, beq_eq_false_iff_ne]; omega)))⟩
    · rw [F2 33 3 rfl, F2 59 34 rfl, F 33 3 rfl, F 59 34 rfl]; exact s
    · rw [F2 33 4 rfl, F2 59 2 rfl, F 33 4 rfl, F 59 2 rfl]; exact s4
    · rw [F2 33 5 rfl, e2, e1]
      rfl
    · show t2 34 j = t2 62 j
      rw [F2 34 j rfl, F2 62 j rfl, F 34 j rfl, F 62 j rfl]
      exact s6 j hj
    · rw [F2 33 3 rfl, F 33 3 rfl] at hi
      have hw6 : w = 0 ∨ w = 1 ∨ w = 2 ∨ w = 3 ∨ w = 4 ∨ w = 5 := by omega
      show t2 36 _ = _
      rw [F2 36 _ rfl, F 36 _ rfl, F2 (85 + w) i (by rcases hw6 with rfl | rfl | rfl | rfl | rfl | rfl <;> rfl), F (85 + w) i (by rcases hw6 with rfl | rfl | rfl | rfl | rfl | rfl <;> rfl)]
      exact s7 i w hi hw
    · rw [F2 35 j rfl, F2 64 j rfl, F 35 j rfl, F 64 j rfl]; exact s10 j hj
  · rw [if_neg hq] at e1 e2
    rw [e2, e1]
    exact h
/-! keep, undo -/
theorem fr_keep {t t1 t2 : hy_T} (h : fr t) (F : hy_F kpX t t1) (F2 : hy_F kpmX t1 t2) (e1 : t1 = hy_up (sp_scopy t 33 37) 2 9 1) (e2 : t2 = mf_keep t1) : fr t2 := by
  obtain ⟨⟨⟨s, s4, s5⟩, s6, s7⟩, ⟨s8, s9⟩, s10⟩ := id h.2.2.1
  obtain ⟨-, v1, v2, v3, v4, v5⟩ := mf_keep_v t1
  rw [← e2] at v1 v2 v3 v4 v5
  have w29 : t2 2 9 = 1 := by rw [F2 2 9 rfl, e1]; rfl
  have c33 : t2 37 3 = t 33 3 := by rw [F2 37 3 rfl, e1]; rfl
  refine ⟨⟨(fr_t_F h.1.1 (ff F F2 (Y := fr_tY) (fun r j q => by revert q; simp only [fr_tY, fr_pY, fr_gY, fl_Y, fr_nY, fr_kY, fsC, fsM, lawX, eX, lX, pX, fX, snX, brX, wyX, paX, trX, asX, gdX, lnX, lkX, lpX, lwcX, tyX, jyX, mkX, dzX, cpX, taX, glX, t1X, spX, dgX, kpX, mlawX, mvX, meX, mlX, mfaX, stX, hvX, pwX, btX, sgX, mlsX, jdX, tdX, dsX, enX, mftX, ldrX, wmX, maX, lwX, lrX, mrX, feX, ngX, trsX, dysX, gnX, t9X, spmX, kpmX, udX, Bool.or_eq_true, Bool.and_eq_true, decide_eq_true_eq, decide_eq_false_iff_not, beq_iff_eq, Bool.or_eq_false_iff, Bool.and_eq_false_iff, beq_eq_false_iff_ne]; omega) (fun r j q => by revert q; simp only [fr_tY, fr_pY, fr_gY, fl_Y, fr_nY, fr_kY, fsC, fsM, lawX, eX, lX, pX, fX, snX, brX, wyX, paX, trX, asX, gdX, lnX, lkX, lpX, lwcX, tyX, jyX, mkX, dzX, cpX, taX, glX, t1X, spX, dgX, kpX, mlawX, mvX, meX, mlX, mfaX, stX, hvX, pwX, btX, sgX, mlsX, jdX, tdX, dsX, enX, mftX, ldrX, wmX, maX, lwX, lrX, mrX, feX, ngX, trsX, dysX, gnX, t9X, spmX, kpmX, udX, Bool.or_eq_true, Bool.and_eq_true, decide_eq_true_eq, decide_eq_false_iff_not, beq_iff_eq, Bool.or_eq_false_iff, Bool.and_eq_false_iff, beq_eq_false_iff_ne]; omega))), (fr_p_F h.1.2 (ff F F2 (Y := fr_pY) (fun r j q => by revert q; simp only [fr_tY, fr_pY, fr_gY, fl_Y, fr_nY, fr_kY, fsC, fsM, lawX, eX, lX, pX, fX, snX, brX, wyX, paX, trX, asX, gdX, lnX, lkX, lpX, lwcX, tyX, jyX, mkX, dzX, cpX, taX, glX, t1X, spX, dgX, kpX, mlawX, mvX, meX, mlX, mfaX, stX, hvX, pwX, btX, sgX, mlsX, jdX, tdX, dsX, enX, mftX, ldrX, wmX, maX, lwX, lrX, mrX, feX, ngX, trsX, dysX, gnX, t9X, spmX, kpmX, udX, Bool.or_eq_true, Bool.and_eq_true, decide_eq_true_eq, decide_eq_false_iff_not, beq_iff_eq, Bool.or_eq_false_iff, Bool.and_eq_false_iff, beq_eq_false_iff_ne]; omega) (fun r j q => by revert q; simp only [fr_tY, fr_pY, fr_gY, fl_Y, fr_nY, fr_kY, fsC, fsM, lawX, eX, lX, pX, fX, snX, brX, wyX, paX, trX, asX, gdX, lnX, lkX, lpX, lwcX, tyX, jyX, mkX, dzX, cpX, taX, glX, t1X, spX, dgX, kpX, mlawX, mvX, meX, mlX, mfaX, stX, hvX, pwX, btX, sgX, mlsX, jdX, tdX, dsX, enX, mftX, ldrX, wmX, maX, lwX, lrX, mrX, feX, ngX, trsX, dysX, gnX, t9X, spmX, kpmX, udX, Bool.or_eq_true, Bool.and_eq_true, decide_eq_true_eq, decide_eq_false_iff_not, beq_iff_eq, Bool.or_eq_false_iff, Bool.and_eq_false_iff, beq_eq_false_iff_ne]; omega)))⟩, ⟨(fr_g_F h.2.1.1 (ff F F2 (Y := fr_gY) (fun r j q => by revert q; simp only [fr_tY, fr_pY, fr_gY, fl_Y, fr_nY, fr_kY, fsC, fsM, lawX, eX, lX, pX, fX, snX, brX, wyX, paX, trX, asX, gdX, lnX, lkX, lpX, lwcX, tyX, jyX, mkX, dzX, cpX, taX, glX, t1X, spX, dgX, kpX, mlawX, mvX, meX, mlX, mfaX, stX, hvX, pwX, btX, sgX, mlsX, jdX, tdX, dsX, enX, mftX, ldrX, wmX, maX, lwX, lrX, mrX, feX, ngX, trsX, dysX, gnX, t9X, spmX, kpmX, udX, Bool.or_eq_true, Bool.and_eq_true, decide_eq_true_eq, decide_eq_false_iff_not, beq_iff_eq, Bool.or_eq_false_iff, Bool.and_eq_false_iff, beq_eq_false_iff_ne]; omega) (fun r j q => by revert q; simp only [fr_tY, fr_pY, fr_gY, fl_Y, fr_nY, fr_kY, fsC, fsM, lawX, eX, lX, pX, fX, snX, brX, wyX, paX, trX, asX, gdX, lnX, lkX, lpX, lwcX, tyX, jyX, mkX, dzX, cpX, taX, glX, t1X, spX, dgX, kpX, mlawX, mvX, meX, mlX, mfaX, stX, hvX, pwX, btX, sgX, mlsX, jdX, tdX, dsX, enX, mftX, ldrX, wmX, maX, lwX, lrX, mrX, feX, ngX, trsX, dysX, gnX, t9X, spmX, kpmX, udX, Bool.or_eq_true, Bool.and_eq_true, decide_eq_true_eq, decide_eq_false_iff_not, beq_iff_eq, Bool.or_eq_false_iff, Bool.and_eq_false_iff, beq_eq_false_iff_ne]; omega))), (fl_law_F h.2.1.2 (ff F F2 (Y := fl_Y) (fun r j q => by revert q; simp only [fr_tY, fr_pY, fr_gY, fl_Y, fr_nY, fr_kY, fsC, fsM, lawX, eX, lX, pX, fX, snX, brX, wyX, paX, trX, asX, gdX, lnX, lkX, lpX, lwcX, tyX, jyX, mkX, dzX, cpX, taX, glX, t1X, spX, dgX, kpX, mlawX, mvX, meX, mlX, mfaX, stX, hvX, pwX, btX, sgX, mlsX, jdX, tdX, dsX, enX, mftX, ldrX, wmX, maX, lwX, lrX, mrX, feX, ngX, trsX, dysX, gnX, t9X, spmX, kpmX, udX, Bool.or_eq_true, Bool.and_eq_true, decide_eq_true_eq, decide_eq_false_iff_not, beq_iff_eq, Bool.or_eq_false_iff, Bool.and_eq_false_iff, beq_eq_false_iff_ne]; omega) (fun r j q => by revert q; simp only [fr_tY, fr_pY, fr_gY, fl_Y, fr_nY, fr_kY, fsC, fsM, lawX, eX, lX, pX, fX, snX, brX, wyX, paX, trX, asX, gdX, lnX, lkX, lpX, lwcX, tyX, jyX, mkX, dzX, cpX, taX, glX, t1X, spX, dgX, kpX, mlawX, mvX, meX, mlX, mfaX, stX, hvX, pwX, btX, sgX, mlsX, jdX, tdX, dsX, enX, mftX, ldrX, wmX, maX, lwX, lrX, mrX, feX, ngX, trsX, dysX, gnX, t9X, spmX, kpmX, udX, Bool.or_eq_true, Bool.and_eq_true, decide_eq_true_eq, decide_eq_false_iff_not, beq_iff_eq, Bool.or_eq_false_iff, Bool.and_eq_false_iff, beq_eq_false_iff_ne]; omega)))⟩, (fr_n_F h.2.2.1 (ff F F2 (Y := fr_nY) (fun r j q => by revert q; simp only [fr_tY, fr_pY, fr_gY, fl_Y, fr_nY, fr_kY, fsC, fsM, lawX, eX, lX, pX, fX, snX, brX, wyX, paX, trX, asX, gdX, lnX, lkX, lpX, lwcX, tyX, jyX, mkX, dzX, cpX, taX, glX, t1X, spX, dgX, kpX, mlawX, mvX, meX, mlX, mfaX, stX, hvX, pwX, btX, sgX, mlsX, jdX, tdX, dsX, enX, mftX, ldrX, wmX, maX, lwX, lrX, mrX, feX, ngX, trsX, dysX, gnX, t9X, spmX, kpmX, udX, Bool.or_eq_true, Bool.and_eq_true, decide_eq_true_eq, decide_eq_false_iff_not, beq_iff_eq, Bool.or_eq_false_iff, Bool.and_eq_false_iff, beq_eq_false_iff_ne]; omega) (fun r j q => by revert q; simp only [fr_tY, fr_pY, fr_gY, fl_Y, fr_nY, fr_kY, fsC, fsM, lawX, eX, lX, pX, fX, snX, brX, wyX, paX, trX, asX, gdX, lnX, lkX, lpX, lwcX, tyX, jyX, mkX, dzX, cpX, taX, glX, t1X, spX, dgX, kpX, mlawX, mvX, meX, mlX, mfaX, stX, hvX, pwX, btX, sgX, mlsX, jdX, tdX, dsX, enX, mftX, ldrX, wmX, maX, lwX, lrX, mrX, feX, ngX, trsX, dysX, gnX, t9X, spmX, kpmX, udX, Bool.or_eq_true, Bool.and_eq_true, decide_eq_true_eq, decide_eq_false_iff_not, beq_iff_eq, Bool.or_eq_false_iff, Bool.and_eq_false_iff, beq_eq_false_iff_ne]; omega))), by rw [w29, v5], fun _ => ⟨⟨⟨?_, ?_, ?_⟩, ?_, ?_⟩, fun j hj => ?_, fun i w hi hw => ?_, fun j hj => ?_, fun i hi => ?_⟩⟩
  · rw [c33, v2, F 59 34 rfl]; exact s.1
  · rw [c33]; exact s.2.1
  · rw [c33]; exact s.2.2
  · rw [F2 37 4 rfl, v3, F 59 2 rfl, e1]
    exact s4
  · rw [F2 37 5 rfl, v4, F 59 1 rfl, e1]
    exact s5
  · have x38 : t2 38 j = t 34 j := by
      rw [F2 38 j rfl, e1, hy_up_ne (by decide)]
      simp [sp_scopy, hy_up, hy_cp, hj]
    have x93 : t2 93 j = t 62 j := by
      rw [e2]
      unfold mf_keep mf_set3
      rw [hy_up_ne (by decide), hy_up_ne (by decide), hy_up_ne (by decide)]
      show (if 93 = 95 ∧ j < 64 then _ else _) = _
      rw [if_neg (by omega), mf_packN_F 94 _ 16 93 j rfl]
      unfold hy_cp
      rw [if_pos ⟨rfl, hj⟩, hy_up_ne (by decide), F 62 j rfl]
    rw [x38, x93, mf_plain_F ((F2 59 0 rfl).trans (F 59 0 rfl)) (fun j => (F2 60 j rfl).trans (F 60 j rfl))]
    exact ⟨s6 j hj, s8 j hj⟩
  · rw [c33] at hi
    have x40 : t2 40 (6 * i + w) = t 36 (6 * i + w) := by
      rw [F2 40 _ rfl, e1, hy_up_ne (by decide)]
      have : 6 * i + w < 96 := by omega
      simp [sp_scopy, hy_up, hy_cp, this]
    have hw6 : w = 0 ∨ w = 1 ∨ w = 2 ∨ w = 3 ∨ w = 4 ∨ w = 5 := by omega
    rw [x40, v1 i w (by omega) hw, F (85 + w) i (by rcases hw6 with rfl | rfl | rfl | rfl | rfl | rfl <;> rfl)]
    exact s7 i w hi hw
  · have x39 : t2 39 j = t 35 j := by
      rw [F2 39 j rfl, e1, hy_up_ne (by decide)]
      simp [sp_scopy, hy_up, hy_cp, hj]
    have x95 : t2 95 j = t 64 j := by
      rw [e2]
      unfold mf_keep mf_set3
      rw [hy_up_ne (by decide), hy_up_ne (by decide), hy_up_ne (by decide)]
      show (if 95 = 95 ∧ j < 64 then _ else _) = _
      rw [if_pos ⟨rfl, hj⟩, mf_packN_F 94 _ 16 64 j rfl]
      unfold hy_cp
      rw [if_neg (by omega), hy_up_ne (by decide), F 64 j rfl]
    rw [x39, x95]
    exact s10 j hj
  · rw [c33] at hi
    have hi2 : (i : Int) < t 59 34 := by omega
    have x94 : t2 94 (6 * i) = t 85 i := by
      have := v1 i 0 (by omega) (by decide)
      rw [Nat.add_zero] at this
      rw [this]
      exact F 85 i rfl
    rw [x94, mf_plain_F ((F2 59 0 rfl).trans (F 59 0 rfl)) (fun j => (F2 60 j rfl).trans (F 60 j rfl))]
    exact s9 i hi2
theorem fr_undo {t t1 t2 : hy_T} (h : fr t) (F : hy_F (cpX 33) t t1) (F2 : hy_F udX t1 t2) (e1 : t1 = if t 2 9 = 0 then t else sp_scopy t 37 33) (e2 : t2 = if t1 59 57 = 0 then t1 else mf_undo t1) : fr t2 := by
  have x := F 59 57 rfl
  have h29 : t 2 9 = t 59 57 := h.2.2.2.1
  by_cases hq : t 2 9 = 0
  · rw [if_pos hq] at e1
    rw [if_pos (by omega)] at e2
    rw [e2, e1]
    exact h
  · rw [if_neg hq] at e1
    rw [if_neg (by omega)] at e2
    obtain ⟨⟨⟨s1, s2, s3⟩, s4, s5⟩, s6, s7, s8, s9⟩ := h.2.2.2.2 hq
    obtain ⟨-, v1, v2, v3, v4⟩ := mf_undo_v t1
    rw [← e2] at v1 v2 v3 v4
    have c33 : t2 33 3 = t 37 3 := by rw [F2 33 3 rfl, e1]; rfl
    have x62 : ∀ j : Nat, j < 48 → t2 62 j = t 93 j := fun j hj => by
      rw [e2]
      unfold mf_undo mf_set3
      rw [hy_up_ne (by decide), hy_up_ne (by decide), hy_up_ne (by decide)]
      show (if 62 = 64 ∧ j < 64 then _ else _) = _
      rw [if_neg (by omega), mf_unpN_F (r := 94) _ 16 (by omega) 62 j rfl]
      unfold hy_cp
      rw [if_pos ⟨rfl, hj⟩, F 93 j rfl]
    have x85 : ∀ i w : Nat, (i : Int) < t 37 3 → w < 6 → t2 (85 + w) i = t 94 (6 * i + w) := fun i w hi hw => by
      rw [v1 i w (by omega) hw]
      exact F 94 _ rfl
    refine ⟨⟨(fr_t_F h.1.1 (ff F F2 (Y := fr_tY) (fun r j q => by revert q; simp only [fr_tY, fr_pY, fr_gY, fl_Y, fr_nY, fr_kY, fsC, fsM, lawX, eX, lX, pX, fX, snX, brX, wyX, paX, trX, asX, gdX, lnX, lkX, lpX, lwcX, tyX, jyX, mkX, dzX, cpX, taX, glX, t1X, spX, dgX, kpX, mlawX, mvX, meX, mlX, mfaX, stX, hvX, pwX, btX, sgX, mlsX, jdX, tdX, dsX, enX, mftX, ldrX, wmX, maX, lwX, lrX, mrX, feX, ngX, trsX, dysX, gnX, t9X, spmX, kpmX, udX, Bool.or_eq_true, Bool.and_eq_true, decide_eq_true_eq, decide_eq_false_iff_not, beq_iff_eq, Bool.or_eq_false_iff, Bool.and_eq_false_iff, beq_eq_false_iff_ne]; omega) (fun r j q => by revert q; simp only [fr_tY, fr_pY, fr_gY, fl_Y, fr_nY, fr_kY, fsC, fsM, lawX, eX, lX, pX, fX, snX, brX, wyX, paX, trX, asX, gdX, lnX, lkX, lpX, lwcX, tyX, jyX, mkX, dzX, cpX, taX, glX, t1X, spX, dgX, kpX, mlawX, mvX, meX, mlX, mfaX, stX, hvX, pwX, btX, sgX, mlsX, jdX, tdX, dsX, enX, mftX, ldrX, wmX, maX, lwX, lrX, mrX, feX, ngX, trsX, dysX, gnX, t9X, spmX, kpmX, udX, Bool.or_eq_true, Bool.and_eq_true, decide_eq_true_eq, decide_eq_false_iff_not, beq_iff_eq, Bool.or_eq_false_iff, Bool.and_eq_false_iff, beq_eq_false_iff_ne]; omega))), (fr_p_F h.1.2 (ff F F2 (Y := fr_pY) (fun r j q => by revert q; simp only [fr_tY, fr_pY, fr_gY, fl_Y, fr_nY, fr_kY, fsC, fsM, lawX, eX, lX, pX, fX, snX, brX, wyX, paX, trX, asX, gdX, lnX, lkX, lpX, lwcX, tyX, jyX, mkX, dzX, cpX, taX, glX, t1X, spX, dgX, kpX, mlawX, mvX, meX, mlX, mfaX, stX, hvX, pwX, btX, sgX, mlsX, jdX, tdX, dsX, enX, mftX, ldrX, wmX, maX, lwX, lrX, mrX, feX, ngX, trsX, dysX, gnX, t9X, spmX, kpmX, udX, Bool.or_eq_true, Bool.and_eq_true, decide_eq_true_eq, decide_eq_false_iff_not, beq_iff_eq, Bool.or_eq_false_iff, Bool.and_eq_false_iff, beq_eq_false_iff_ne]; omega) (fun r j q => by revert q; simp only [fr_tY, fr_pY, fr_gY, fl_Y, fr_nY, fr_kY, fsC, fsM, lawX, eX, lX, pX, fX, snX, brX, wyX, paX, trX, asX, gdX, lnX, lkX, lpX, lwcX, tyX, jyX, mkX, dzX, cpX, taX, glX, t1X, spX, dgX, kpX, mlawX, mvX, meX, mlX, mfaX, stX, hvX, pwX, btX, sgX, mlsX, jdX, tdX, dsX, enX, mftX, ldrX, wmX, maX, lwX, lrX, mrX, feX, ngX, trsX, dysX, gnX, t9X, spmX, kpmX, udX, Bool.or_eq_true, Bool.and_eq_true, decide_eq_true_eq, decide_eq_false_iff_not, beq_iff_eq, Bool.or_eq_false_iff, Bool.and_eq_false_iff, beq_eq_false_iff_ne]; omega)))⟩, ⟨(fr_g_F h.2.1.1 (ff F F2 (Y := fr_gY) (fun r j q => by revert q; simp only [fr_tY, fr_pY, fr_gY, fl_Y, fr_nY, fr_kY, fsC, fsM, lawX, eX, lX, pX, fX, snX, brX, wyX, paX, trX, asX, gdX, lnX, lkX, lpX, lwcX, tyX, jyX, mkX, dzX, cpX, taX, glX, t1X, spX, dgX, kpX, mlawX, mvX, meX, mlX, mfaX, stX, hvX, pwX, btX, sgX, mlsX, jdX, tdX, dsX, enX, mftX, ldrX, wmX, maX, lwX, lrX, mrX, feX, ngX, trsX, dysX, gnX, t9X, spmX, kpmX, udX, Bool.or_eq_true, Bool.and_eq_true, decide_eq_true_eq, decide_eq_false_iff_not, beq_iff_eq, Bool.or_eq_false_iff, Bool.and_eq_false_iff, beq_eq_false_iff_ne]; omega) (fun r j q => by revert q; simp only [fr_tY, fr_pY, fr_gY, fl_Y, fr_nY, fr_kY, fsC, fsM, lawX, eX, lX, pX, fX, snX, brX, wyX, paX, trX, asX, gdX, lnX, lkX, lpX, lwcX, tyX, jyX, mkX, dzX, cpX, taX, glX, t1X, spX, dgX, kpX, mlawX, mvX, meX, mlX, mfaX, stX, hvX, pwX, btX, sgX, mlsX, jdX, tdX, dsX, enX, mftX, ldrX, wmX, maX, lwX, lrX, mrX, feX, ngX, trsX, dysX, gnX, t9X, spmX, kpmX, udX, Bool.or_eq_true, Bool.and_eq_true, decide_eq_true_eq, decide_eq_false_iff_not, beq_iff_eq, Bool.or_eq_false_iff, Bool.and_eq_false_iff, beq_eq_false_iff_ne]; omega))), (fl_law_F h.2.1.2 (ff F F2 (Y := fl_Y) (fun r j q => by revert q; simp only [fr_tY, fr_pY, fr_gY, fl_Y, fr_nY, fr_kY, fsC, fsM, lawX, eX, lX, pX, fX, snX, brX, wyX, paX, trX, asX, gdX, lnX, lkX, lpX, lwcX, tyX, jyX, mkX, dzX, cpX, taX, glX, t1X, spX, dgX, kpX, mlawX, mvX, meX, mlX, mfaX, stX, hvX, pwX, btX, sgX, mlsX, jdX, tdX, dsX, enX, mftX, ldrX, wmX, maX, lwX, lrX, mrX, feX, ngX, trsX, dysX, gnX, t9X, spmX, kpmX, udX, Bool.or_eq_true, Bool.and_eq_true, decide_eq_true_eq, decide_eq_false_iff_not, beq_iff_eq, Bool.or_eq_false_iff, Bool.and_eq_false_iff, beq_eq_false_iff_ne]; omega) (fun r j q => by revert q; simp only [fr_tY, fr_pY, fr_gY, fl_Y, fr_nY, fr_kY, fsC, fsM, lawX, eX, lX, pX, fX, snX, brX, wyX, paX, trX, asX, gdX, lnX, lkX, lpX, lwcX, tyX, jyX, mkX, dzX, cpX, taX, glX, t1X, spX, dgX, kpX, mlawX, mvX, meX, mlX, mfaX, stX, hvX, pwX, btX, sgX, mlsX, jdX, tdX, dsX, enX, mftX, ldrX, wmX, maX, lwX, lrX, mrX, feX, ngX, trsX, dysX, gnX, t9X, spmX, kpmX, udX, Bool.or_eq_true, Bool.and_eq_true, decide_eq_true_eq, decide_eq_false_iff_not, beq_iff_eq, Bool.or_eq_false_iff, Bool.and_eq_false_iff, beq_eq_false_iff_ne]; omega)))⟩, ⟨⟨⟨⟨?_, ?_, ?_⟩, ?_, ?_⟩, fun j hj => ?_, fun i w hi hw => ?_⟩, ⟨fun j hj => ?_, fun i hi => ?_⟩, fun j hj => ?_⟩, (fr_k_F h.2.2.2 (ff F F2 (Y := fr_kY) (fun r j q => by revert q; simp only [fr_tY, fr_pY, fr_gY, fl_Y, fr_nY, fr_kY, fsC, fsM, lawX, eX, lX, pX, fX, snX, brX, wyX, paX, trX, asX, gdX, lnX, lkX, lpX, lwcX, tyX, jyX, mkX, dzX, cpX, taX, glX, t1X, spX, dgX, kpX, mlawX, mvX, meX, mlX, mfaX, stX, hvX, pwX, btX, sgX, mlsX, jdX, tdX, dsX, enX, mftX, ldrX, wmX, maX, lwX, lrX, mrX, feX, ngX, trsX, dysX, gnX, t9X, spmX, kpmX, udX, Bool.or_eq_true, Bool.and_eq_true, decide_eq_true_eq, decide_eq_false_iff_not, beq_iff_eq, Bool.or_eq_false_iff, Bool.and_eq_false_iff, beq_eq_false_iff_ne]; omega) (fun r j q => by revert q; simp only [fr_tY, fr_pY, fr_gY, fl_Y, fr_nY, fr_kY, fsC, fsM, lawX, eX, lX, pX, fX, snX, brX, wyX, paX, trX, asX, gdX, lnX, lkX, lpX, lwcX, tyX, jyX, mkX, dzX, cpX, taX, glX, t1X, spX, dgX, kpX, mlawX, mvX, meX, mlX, mfaX, stX, hvX, pwX, btX, sgX, mlsX, jdX, tdX, dsX, enX, mftX, ldrX, wmX, maX, lwX, lrX, mrX, feX, ngX, trsX, dysX, gnX, t9X, spmX, kpmX, udX, Bool.or_eq_true, Bool.and_eq_true, decide_eq_true_eq, decide_eq_false_iff_not, beq_iff_eq, Bool.or_eq_false_iff, Bool.and_eq_false_iff, beq_eq_false_iff_ne]; omega)))⟩
    · rw [c33, v2, F 59 54 rfl]; exact s1
    · rw [c33]; exact s2
    · rw [c33]; exact s3
    · rw [F2 33 4 rfl, v3, F 59 55 rfl, e1]
      exact s4
    · rw [F2 33 5 rfl, v4, F 59 56 rfl, e1]
      exact s5
    · have x34 : t2 34 j = t 38 j := by
        rw [F2 34 j rfl, e1]
        simp [sp_scopy, hy_up, hy_cp, hj]
      show t2 34 j = t2 62 j
      rw [x34, x62 j hj]
      exact (s6 j hj).1
    · rw [c33] at hi
      have x36 : t2 36 (6 * i + w) = t 40 (6 * i + w) := by
        rw [F2 36 _ rfl, e1]
        have : 6 * i + w < 96 := by omega
        simp [sp_scopy, hy_up, hy_cp, this]
      show t2 36 (6 * i + w) = _
      rw [x36, x85 i w hi hw]
      exact s7 i w hi hw
    · rw [x62 j hj, mf_plain_F ((F2 59 0 rfl).trans (F 59 0 rfl)) (fun j => (F2 60 j rfl).trans (F 60 j rfl))]
      exact (s6 j hj).2
    · rw [v2, F 59 54 rfl] at hi
      have := x85 i 0 (by omega) (by decide)
      rw [Nat.add_zero, Nat.add_zero] at this
      rw [this, mf_plain_F ((F2 59 0 rfl).trans (F 59 0 rfl)) (fun j => (F2 60 j rfl).trans (F 60 j rfl))]
      exact s9 i (by omega)
    · have x35 : t2 35 j = t 39 j := by
        rw [F2 35 j rfl, e1]
        simp [sp_scopy, hy_up, hy_cp, hj]
      have x64 : t2 64 j = t 95 j := by
        rw [e2]
        unfold mf_undo mf_set3
        rw [hy_up_ne (by decide), hy_up_ne (by decide), hy_up_ne (by decide)]
        show (if 64 = 64 ∧ j < 64 then _ else _) = _
        rw [if_pos ⟨rfl, hj⟩, mf_unpN_F (r := 94) _ 16 (by omega) 95 j rfl]
        unfold hy_cp
        rw [if_neg (by omega), F 95 j rfl]
      rw [x35, x64]
      exact s8 j hj
