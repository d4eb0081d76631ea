/-! the model: every call ends, keeps all this, and leaves the rest alone -/
abbrev mQ (X : Nat → Nat → Bool) (t : hy_T) : Option Int → hy_T → Prop := fun r t' => (∃ x : Int, r = some x) ∧ mK t' ∧ hy_F X t t'
abbrev feX : Nat → Nat → Bool := fun r j => r == 65 || (r == 59 && j == 9)
abbrev ngX : Nat → Nat → Bool := fun r j => ldrX r j || r == 63
theorem mf_tyN_F (v : Int) : ∀ (m : Nat) (t : hy_T), hy_F feX t (mf_tyN v m t)
  | 0, t => hy_F.rf
  | m + 1, t => by
    have h : hy_F feX t (mf_ty1 t v m) := (hy_F.rf.up rfl).up rfl
    exact h.tr' (mf_tyN_F v m _)
theorem mf_feed_s (t : hy_T) (a b c d e : Int) : hy_F feX t (mf_feed t a b c d e) ∧ mf_feed t a b c d e 59 9 = t 59 9 + 20 := by
  refine ⟨((((mf_tyN_F a 4 t).tr' (mf_tyN_F b 4 _)).tr' (mf_tyN_F c 4 _)).tr' (mf_tyN_F d 4 _)).tr' (mf_tyN_F e 4 _), ?_⟩
  unfold mf_feed
  rw [mf_tyN_l, mf_tyN_l, mf_tyN_l, mf_tyN_l, mf_tyN_l]
  omega
section MO
variable {sc : List Int32} {t : hy_T}
theorem m1 {a b c : Int} (k : mK t) : hy_Ct sc hm_M_have 3 [.inr (some 59), .inl a, .inl b, .inl c] t (mQ (fun r _ => r == 62) t) := c_M_have.mono (fun r t' q => by
  obtain ⟨rfl, rfl⟩ := q
  have F : hy_F (fun r _ => r == 62) t (if mf_have t a b c = true then hy_up t 62 (4 * a + b).toNat c else t) := by
    split
    · exact hy_F.rf.up rfl
    · exact hy_F.rf
  exact ⟨⟨_, rfl⟩, mK_F F (fun r j q => by revert q; simp only [mkAll, mkA, mlawX, mrP, mrT, mrK, mrM, mvX, meX, mlX, mfaX, stX, hvX, pwX, btX, sgX, mlsX, jdX, tdX, dsX, enX, mftX, ldrX, wmX, maX, lwX, lrX, mrX, feX, ngX, Bool.or_eq_true, Bool.and_eq_true, decide_eq_true_eq, decide_eq_false_iff_not, beq_iff_eq, Bool.or_eq_false_iff, Bool.and_eq_false_iff, beq_eq_false_iff_ne]; omega) k, F⟩)
theorem m2 {a b c : Int} (k : mK t) : hy_Ct sc hm_M_owner 1 [.inr (some 59), .inl a, .inl b, .inl c] t (mQ (fun r _ => r == 64) t) := c_M_owner.mono (fun r t' q => by
  obtain ⟨rfl, rfl⟩ := q
  have F : hy_F (fun r _ => r == 64) t (if wf_owner a b c = true then hy_up t 64 (8 * b + a).toNat c else t) := by
    split
    · exact hy_F.rf.up rfl
    · exact hy_F.rf
  exact ⟨⟨_, rfl⟩, mK_F F (fun r j q => by revert q; simp only [mkAll, mkA, mlawX, mrP, mrT, mrK, mrM, mvX, meX, mlX, mfaX, stX, hvX, pwX, btX, sgX, mlsX, jdX, tdX, dsX, enX, mftX, ldrX, wmX, maX, lwX, lrX, mrX, feX, ngX, Bool.or_eq_true, Bool.and_eq_true, decide_eq_true_eq, decide_eq_false_iff_not, beq_iff_eq, Bool.or_eq_false_iff, Bool.and_eq_false_iff, beq_eq_false_iff_ne]; omega) k, F⟩)
theorem m3 {a b c d e : Int} (k : mK t) : hy_Ct sc hm_M_feed 1 [.inr (some 59), .inl a, .inl b, .inl c, .inl d, .inl e] t (fun r t' => mQ feX t r t' ∧ t' = if t 59 9 ≤ 240 then mf_feed t a b c d e else t) := (c_M_feed k.mt).mono (fun r t' q => by
  obtain ⟨rfl, rfl⟩ := q
  refine ⟨⟨⟨_, rfl⟩, ?_⟩, rfl⟩
  obtain ⟨F, e9⟩ := mf_feed_s t a b c d e
  have k9 := k.mt
  split
  · exact ⟨mK_A F (fun r j q => by revert q; simp only [mkAll, mkA, mlawX, mrP, mrT, mrK, mrM, mvX, meX, mlX, mfaX, stX, hvX, pwX, btX, sgX, mlsX, jdX, tdX, dsX, enX, mftX, ldrX, wmX, maX, lwX, lrX, mrX, feX, ngX, Bool.or_eq_true, Bool.and_eq_true, decide_eq_true_eq, decide_eq_false_iff_not, beq_iff_eq, Bool.or_eq_false_iff, Bool.and_eq_false_iff, beq_eq_false_iff_ne]; omega) (by unfold mt_ok; omega) k, F⟩
  · exact ⟨k, hy_F.rf⟩)
theorem mt_0 {t : hy_T} (h : t 59 9 = 0) : mt_ok t := by unfold mt_ok; omega
theorem m4 {n : Int} (k : mK t) : hy_Ct sc hm_M_law 8 [.inr (some 59), .inl n] t (fun r t' => mQ lwX t r t' ∧ t' 59 9 = if al_nc t n then 0 else t 59 9) := (c_M_law k.ml).mono (fun r t' q => by
  obtain ⟨F, k1, q⟩ := q
  have hr : (∃ x : Int, r = some x) ∧ t' 59 9 = (if al_nc t n then 0 else t 59 9) := by
    by_cases hn : al_nc t n
    · rw [if_pos hn] at q ⊢
      revert q
      generalize al_law (al_B t n) n t = G
      intro q
      obtain ⟨q1, q2⟩ := q
      match G, q2 with
      | .inl e, q2 => exact ⟨⟨e, q2.1⟩, q1⟩
      | .inr s, q2 => exact ⟨⟨_, q2.1⟩, q1⟩
    · rw [if_neg hn] at q ⊢
      obtain ⟨rfl, rfl⟩ := q
      exact ⟨⟨_, rfl⟩, rfl⟩
  have h9 : mt_ok t' := by
    have := k.mt
    have e := hr.2
    unfold mt_ok
    split at e <;> omega
  exact ⟨⟨hr.1, ⟨⟨k1, mk_p2 F (fun r j q => by revert q; simp only [mkAll, mkA, mlawX, mrP, mrT, mrK, mrM, mvX, meX, mlX, mfaX, stX, hvX, pwX, btX, sgX, mlsX, jdX, tdX, dsX, enX, mftX, ldrX, wmX, maX, lwX, lrX, mrX, feX, ngX, Bool.or_eq_true, Bool.and_eq_true, decide_eq_true_eq, decide_eq_false_iff_not, beq_iff_eq, Bool.or_eq_false_iff, Bool.and_eq_false_iff, beq_eq_false_iff_ne]; omega) k.p2⟩, ⟨mk_mg F (fun _ => rfl) k.mg, mk_nl F (fun _ => rfl) k.nl⟩, ⟨mk_tr F (fun r j q => by revert q; simp only [mkAll, mkA, mlawX, mrP, mrT, mrK, mrM, mvX, meX, mlX, mfaX, stX, hvX, pwX, btX, sgX, mlsX, jdX, tdX, dsX, enX, mftX, ldrX, wmX, maX, lwX, lrX, mrX, feX, ngX, Bool.or_eq_true, Bool.and_eq_true, decide_eq_true_eq, decide_eq_false_iff_not, beq_iff_eq, Bool.or_eq_false_iff, Bool.and_eq_false_iff, beq_eq_false_iff_ne]; omega) k.tr, mk_kp F (fun r j q => by revert q; simp only [mkAll, mkA, mlawX, mrP, mrT, mrK, mrM, mvX, meX, mlX, mfaX, stX, hvX, pwX, btX, sgX, mlsX, jdX, tdX, dsX, enX, mftX, ldrX, wmX, maX, lwX, lrX, mrX, feX, ngX, Bool.or_eq_true, Bool.and_eq_true, decide_eq_true_eq, decide_eq_false_iff_not, beq_iff_eq, Bool.or_eq_false_iff, Bool.and_eq_false_iff, beq_eq_false_iff_ne]; omega) k.kp⟩, h9⟩, F⟩, hr.2⟩)
theorem m5 {n : Int} (k : mK t) : hy_Ct sc hm_M_land 3 [.inr (some 59), .inl n] t (fun r t' => mQ ngX t r t' ∧ t' 59 9 = if ld_ntc t n then 0 else t 59 9) := (c_M_land k.nl).mono (fun r t' q => by
  obtain ⟨rfl, rfl⟩ := q
  by_cases hn : ld_ntc t n
  · simp only [if_pos hn]
    obtain ⟨a1, a2⟩ := ld_read_s k.nl (n := n) (by omega)
    have z : (ld_read t n).2 59 9 = 0 := rfl
    have F1 : hy_F ngX t (ld_read t n).2 := a2.w (fun r j q => (Bool.or_eq_false_iff.mp q).1)
    have k1 : mK (ld_read t n).2 := ⟨⟨ml_ok_F F1 (fun r j q => by revert q; simp only [mkAll, mkA, mlawX, mrP, mrT, mrK, mrM, mvX, meX, mlX, mfaX, stX, hvX, pwX, btX, sgX, mlsX, jdX, tdX, dsX, enX, mftX, ldrX, wmX, maX, lwX, lrX, mrX, feX, ngX, Bool.or_eq_true, Bool.and_eq_true, decide_eq_true_eq, decide_eq_false_iff_not, beq_iff_eq, Bool.or_eq_false_iff, Bool.and_eq_false_iff, beq_eq_false_iff_ne]; omega) k.ml, mk_p2 F1 (fun r j q => by revert q; simp only [mkAll, mkA, mlawX, mrP, mrT, mrK, mrM, mvX, meX, mlX, mfaX, stX, hvX, pwX, btX, sgX, mlsX, jdX, tdX, dsX, enX, mftX, ldrX, wmX, maX, lwX, lrX, mrX, feX, ngX, Bool.or_eq_true, Bool.and_eq_true, decide_eq_true_eq, decide_eq_false_iff_not, beq_iff_eq, Bool.or_eq_false_iff, Bool.and_eq_false_iff, beq_eq_false_iff_ne]; omega) k.p2⟩, ⟨mk_mg a2 (fun _ => rfl) k.mg, a1⟩, ⟨mk_tr F1 (fun r j q => by revert q; simp only [mkAll, mkA, mlawX, mrP, mrT, mrK, mrM, mvX, meX, mlX, mfaX, stX, hvX, pwX, btX, sgX, mlsX, jdX, tdX, dsX, enX, mftX, ldrX, wmX, maX, lwX, lrX, mrX, feX, ngX, Bool.or_eq_true, Bool.and_eq_true, decide_eq_true_eq, decide_eq_false_iff_not, beq_iff_eq, Bool.or_eq_false_iff, Bool.and_eq_false_iff, beq_eq_false_iff_ne]; omega) k.tr, mk_kp F1 (fun r j q => by revert q; simp only [mkAll, mkA, mlawX, mrP, mrT, mrK, mrM, mvX, meX, mlX, mfaX, stX, hvX, pwX, btX, sgX, mlsX, jdX, tdX, dsX, enX, mftX, ldrX, wmX, maX, lwX, lrX, mrX, feX, ngX, Bool.or_eq_true, Bool.and_eq_true, decide_eq_true_eq, decide_eq_false_iff_not, beq_iff_eq, Bool.or_eq_false_iff, Bool.and_eq_false_iff, beq_eq_false_iff_ne]; omega) k.kp⟩, mt_0 z⟩
    revert a1 a2 z F1 k1
    generalize (ld_read t n).2 = u
    intro a1 a2 z F1 k1
    refine ⟨⟨⟨_, rfl⟩, ?_⟩, ?_⟩
    · split
      · have F2 := ld_cpN_F u 64
        have F3 : hy_F ngX t (ld_cpN u 64) := F1.tr' (F2.w (fun r j q => (Bool.or_eq_false_iff.mp q).2))
        exact ⟨⟨⟨ml_ok_F F2 (fun r j q => by revert q; simp only [mkAll, mkA, mlawX, mrP, mrT, mrK, mrM, mvX, meX, mlX, mfaX, stX, hvX, pwX, btX, sgX, mlsX, jdX, tdX, dsX, enX, mftX, ldrX, wmX, maX, lwX, lrX, mrX, feX, ngX, Bool.or_eq_true, Bool.and_eq_true, decide_eq_true_eq, decide_eq_false_iff_not, beq_iff_eq, Bool.or_eq_false_iff, Bool.and_eq_false_iff, beq_eq_false_iff_ne]; omega) k1.ml, mk_p2 F2 (fun r j q => by revert q; simp only [mkAll, mkA, mlawX, mrP, mrT, mrK, mrM, mvX, meX, mlX, mfaX, stX, hvX, pwX, btX, sgX, mlsX, jdX, tdX, dsX, enX, mftX, ldrX, wmX, maX, lwX, lrX, mrX, feX, ngX, Bool.or_eq_true, Bool.and_eq_true, decide_eq_true_eq, decide_eq_false_iff_not, beq_iff_eq, Bool.or_eq_false_iff, Bool.and_eq_false_iff, beq_eq_false_iff_ne]; omega) k1.p2⟩, ⟨fun f hf => by rw [ld_cpN_v u 64 f, if_pos hf]; exact a1 f hf, mk_nl F2 (fun _ => rfl) k1.nl⟩, ⟨mk_tr F2 (fun r j q => by revert q; simp only [mkAll, mkA, mlawX, mrP, mrT, mrK, mrM, mvX, meX, mlX, mfaX, stX, hvX, pwX, btX, sgX, mlsX, jdX, tdX, dsX, enX, mftX, ldrX, wmX, maX, lwX, lrX, mrX, feX, ngX, Bool.or_eq_true, Bool.and_eq_true, decide_eq_true_eq, decide_eq_false_iff_not, beq_iff_eq, Bool.or_eq_false_iff, Bool.and_eq_false_iff, beq_eq_false_iff_ne]; omega) k1.tr, mk_kp F2 (fun r j q => by revert q; simp only [mkAll, mkA, mlawX, mrP, mrT, mrK, mrM, mvX, meX, mlX, mfaX, stX, hvX, pwX, btX, sgX, mlsX, jdX, tdX, dsX, enX, mftX, ldrX, wmX, maX, lwX, lrX, mrX, feX, ngX, Bool.or_eq_true, Bool.and_eq_true, decide_eq_true_eq, decide_eq_false_iff_not, beq_iff_eq, Bool.or_eq_false_iff, Bool.and_eq_false_iff, beq_eq_false_iff_ne]; omega) k1.kp⟩, mk_mt F2 rfl k1.mt⟩, F3⟩
      · exact ⟨k1, F1⟩
    · split
      · exact (ld_cpN_F u 64 59 9 rfl).trans z
      · exact z
  · simp only [if_neg hn]
    exact ⟨⟨⟨_, rfl⟩, k, hy_F.rf⟩, trivial⟩)
abbrev trsX : Nat → Nat → Bool := fun r j => mlsX r j || stX r j
theorem m6 {n : Int} (k : mK t) : hy_Ct sc hm_M_treaties 5 [.inr (some 59), .inl n] t (fun r t' => mQ trsX t r t' ∧ t' 59 9 = if ml_ntc t n then 0 else t 59 9) := (c_M_treaties k.tr).mono (fun r t' q => by
  obtain ⟨rfl, rfl⟩ := q
  by_cases hn : ml_ntc t n
  · simp only [if_pos hn]
    obtain ⟨a1, a2⟩ := ml_lines_s t (n := n) (by omega)
    have z : (ml_lines t n).2 59 9 = 0 := rfl
    have F1 : hy_F trsX t (ml_lines t n).2 := a2.w (fun r j q => (Bool.or_eq_false_iff.mp q).1)
    have k1 : mK (ml_lines t n).2 := mK_A a2 (fun r j q => by revert q; simp only [mkAll, mkA, mlawX, mrP, mrT, mrK, mrM, mvX, meX, mlX, mfaX, stX, hvX, pwX, btX, sgX, mlsX, jdX, tdX, dsX, enX, mftX, ldrX, wmX, maX, lwX, lrX, mrX, feX, ngX, Bool.or_eq_true, Bool.and_eq_true, decide_eq_true_eq, decide_eq_false_iff_not, beq_iff_eq, Bool.or_eq_false_iff, Bool.and_eq_false_iff, beq_eq_false_iff_ne]; omega) (mt_0 z) k
    revert a1 a2 z F1 k1
    generalize (ml_lines t n).2 = u
    intro a1 a2 z F1 k1
    refine ⟨⟨⟨_, rfl⟩, ?_⟩, ?_⟩
    · split
      · obtain ⟨F2, t2, -, -⟩ := mk_madeN_s a1 k1.tr (u 59 33).toNat (by have := a1.1; omega)
        exact ⟨⟨⟨ml_ok_F F2 (fun r j q => by revert q; simp only [mkAll, mkA, mlawX, mrP, mrT, mrK, mrM, mvX, meX, mlX, mfaX, stX, hvX, pwX, btX, sgX, mlsX, jdX, tdX, dsX, enX, mftX, ldrX, wmX, maX, lwX, lrX, mrX, feX, ngX, Bool.or_eq_true, Bool.and_eq_true, decide_eq_true_eq, decide_eq_false_iff_not, beq_iff_eq, Bool.or_eq_false_iff, Bool.and_eq_false_iff, beq_eq_false_iff_ne]; omega) k1.ml, mk_p2 F2 (fun r j q => by revert q; simp only [mkAll, mkA, mlawX, mrP, mrT, mrK, mrM, mvX, meX, mlX, mfaX, stX, hvX, pwX, btX, sgX, mlsX, jdX, tdX, dsX, enX, mftX, ldrX, wmX, maX, lwX, lrX, mrX, feX, ngX, Bool.or_eq_true, Bool.and_eq_true, decide_eq_true_eq, decide_eq_false_iff_not, beq_iff_eq, Bool.or_eq_false_iff, Bool.and_eq_false_iff, beq_eq_false_iff_ne]; omega) k1.p2⟩, ⟨mk_mg F2 (fun _ => rfl) k1.mg, mk_nl F2 (fun _ => rfl) k1.nl⟩, ⟨t2, mk_kp F2 (fun r j q => by revert q; simp only [mkAll, mkA, mlawX, mrP, mrT, mrK, mrM, mvX, meX, mlX, mfaX, stX, hvX, pwX, btX, sgX, mlsX, jdX, tdX, dsX, enX, mftX, ldrX, wmX, maX, lwX, lrX, mrX, feX, ngX, Bool.or_eq_true, Bool.and_eq_true, decide_eq_true_eq, decide_eq_false_iff_not, beq_iff_eq, Bool.or_eq_false_iff, Bool.and_eq_false_iff, beq_eq_false_iff_ne]; omega) k1.kp⟩, mk_mt F2 rfl k1.mt⟩, F1.tr' (F2.w (fun r j q => (Bool.or_eq_false_iff.mp q).2))⟩
      · exact ⟨k1, F1⟩
    · split
      · obtain ⟨F2, -, -, -⟩ := mk_madeN_s a1 k1.tr (u 59 33).toNat (by have := a1.1; omega)
        exact (F2 59 9 rfl).trans z
      · exact z
  · simp only [if_neg hn]
    exact ⟨⟨⟨_, rfl⟩, k, hy_F.rf⟩, trivial⟩)
theorem m7 {n : Int} (k : mK t) : hy_Ct sc hm_M_judged 5 [.inr (some 59), .inl n] t (fun r t' => mQ jdX t r t' ∧ t' 59 9 = if ml_ntc t n then 0 else t 59 9) := (c_M_judged k.tr).mono (fun r t' q => by
  obtain ⟨e, F, z⟩ := q
  have h9 : mt_ok t' := by
    have := k.mt
    unfold mt_ok
    split at z <;> omega
  exact ⟨⟨⟨_, e⟩, mK_A F (fun r j q => by revert q; simp only [mkAll, mkA, mlawX, mrP, mrT, mrK, mrM, mvX, meX, mlX, mfaX, stX, hvX, pwX, btX, sgX, mlsX, jdX, tdX, dsX, enX, mftX, ldrX, wmX, maX, lwX, lrX, mrX, feX, ngX, Bool.or_eq_true, Bool.and_eq_true, decide_eq_true_eq, decide_eq_false_iff_not, beq_iff_eq, Bool.or_eq_false_iff, Bool.and_eq_false_iff, beq_eq_false_iff_ne]; omega) h9 k, F⟩, z⟩)
abbrev dysX : Nat → Nat → Bool := fun r j => dsX r j || mvX r j
theorem m8 {n : Int} (k : mK t) : hy_Ct sc hm_M_days 6 [.inr (some 59), .inl n] t (mQ dysX t) := (c_M_days k.ml k.tr).mono (fun r t' q => by
  obtain ⟨e, F⟩ := q
  have h : tr_ok (if 1 ≤ n ∧ n ≤ 99 then md_days t n else t) ∧ hy_F dysX t (if 1 ≤ n ∧ n ≤ 99 then md_days t n else t) := by
    split
    · obtain ⟨d1, d2⟩ := md_days_s k.tr n
      exact ⟨d1.1, d2.w (fun r j q => (Bool.or_eq_false_iff.mp q).1)⟩
    · exact ⟨k.tr, hy_F.rf⟩
  have G := h.2.tr' (F.w (fun r j q => (Bool.or_eq_false_iff.mp q).2))
  exact ⟨⟨_, e⟩, ⟨⟨ml_ok_F G (fun r j q => by revert q; simp only [dysX, mlawX, mvX, dsX, enX, hvX, mftX, Bool.or_eq_true, Bool.and_eq_true, decide_eq_true_eq, decide_eq_false_iff_not, beq_iff_eq, Bool.or_eq_false_iff, Bool.and_eq_false_iff, beq_eq_false_iff_ne]; omega) k.ml, mk_p2 G (fun r j q => by revert q; simp only [dysX, mrP, mvX, dsX, enX, hvX, mftX, Bool.or_eq_true, Bool.and_eq_true, decide_eq_true_eq, decide_eq_false_iff_not, beq_iff_eq, Bool.or_eq_false_iff, Bool.and_eq_false_iff, beq_eq_false_iff_ne]; omega) k.p2⟩, ⟨mk_mg G (fun _ => rfl) k.mg, mk_nl G (fun _ => rfl) k.nl⟩, ⟨mk_tr F (fun r j q => by revert q; simp only [mkAll, mkA, mlawX, mrP, mrT, mrK, mrM, mvX, meX, mlX, mfaX, stX, hvX, pwX, btX, sgX, mlsX, jdX, tdX, dsX, enX, mftX, ldrX, wmX, maX, lwX, lrX, mrX, feX, ngX, Bool.or_eq_true, Bool.and_eq_true, decide_eq_true_eq, decide_eq_false_iff_not, beq_iff_eq, Bool.or_eq_false_iff, Bool.and_eq_false_iff, beq_eq_false_iff_ne]; omega) h.1, mk_kp G (fun r j q => by revert q; simp only [dysX, mrK, mvX, dsX, enX, hvX, mftX, Bool.or_eq_true, Bool.and_eq_true, decide_eq_true_eq, decide_eq_false_iff_not, beq_iff_eq, Bool.or_eq_false_iff, Bool.and_eq_false_iff, beq_eq_false_iff_ne]; omega) k.kp⟩, mk_mt G rfl k.mt⟩, G⟩)
theorem m9 {n w : Int} (k : mK t) : hy_Ct sc hm_M_tried 6 [.inr (some 59), .inl n, .inl w] t (mQ tdX t) := (c_M_tried k.ml k.tr).mono (fun r t' q => ⟨⟨_, q.1⟩, mK_F q.2 (fun r j q => by revert q; simp only [mkAll, mkA, mlawX, mrP, mrT, mrK, mrM, mvX, meX, mlX, mfaX, stX, hvX, pwX, btX, sgX, mlsX, jdX, tdX, dsX, enX, mftX, ldrX, wmX, maX, lwX, lrX, mrX, feX, ngX, Bool.or_eq_true, Bool.and_eq_true, decide_eq_true_eq, decide_eq_false_iff_not, beq_iff_eq, Bool.or_eq_false_iff, Bool.and_eq_false_iff, beq_eq_false_iff_ne]; omega) k, q.2⟩)
theorem m10 {n w : Int} (k : mK t) : hy_Ct sc hm_M_treatyIs 1 [.inr (some 59), .inl n, .inl w] t (mQ (fun _ _ => false) t) := (c_M_treatyIs k.tr.1).mono (fun r t' q => by
  obtain ⟨rfl, rfl⟩ := q
  exact ⟨⟨_, rfl⟩, k, hy_F.rf⟩)
theorem m11 {a b c : Int} (k : mK t) : hy_Ct sc hm_M_sees 6 [.inr (some 59), .inl a, .inl b, .inl c] t (mQ mvX t) := (c_M_sees k.ml).mono (fun r t' q => ⟨⟨_, q.1⟩, mK_F q.2 (fun r j q => by revert q; simp only [mkAll, mkA, mlawX, mrP, mrT, mrK, mrM, mvX, meX, mlX, mfaX, stX, hvX, pwX, btX, sgX, mlsX, jdX, tdX, dsX, enX, mftX, ldrX, wmX, maX, lwX, lrX, mrX, feX, ngX, Bool.or_eq_true, Bool.and_eq_true, decide_eq_true_eq, decide_eq_false_iff_not, beq_iff_eq, Bool.or_eq_false_iff, Bool.and_eq_false_iff, beq_eq_false_iff_ne]; omega) k, q.2⟩)
theorem m12 {a b c : Int} (k : mK t) : hy_Ct sc hm_M_appears 7 [.inr (some 59), .inl a, .inl b, .inl c] t (mQ meX t) := (c_M_appears k.ml k.pal).mono (fun r t' q => ⟨⟨_, q.1⟩, mK_F q.2 (fun r j q => by revert q; simp only [mkAll, mkA, mlawX, mrP, mrT, mrK, mrM, mvX, meX, mlX, mfaX, stX, hvX, pwX, btX, sgX, mlsX, jdX, tdX, dsX, enX, mftX, ldrX, wmX, maX, lwX, lrX, mrX, feX, ngX, Bool.or_eq_true, Bool.and_eq_true, decide_eq_true_eq, decide_eq_false_iff_not, beq_iff_eq, Bool.or_eq_false_iff, Bool.and_eq_false_iff, beq_eq_false_iff_ne]; omega) k, q.2⟩)
theorem m13 {a b c d : Int} (k : mK t) : hy_Ct sc hm_M_child 6 [.inr (some 59), .inl a, .inl b, .inl c, .inl d] t (mQ mvX t) := (c_M_child k.ml).mono (fun r t' q => ⟨⟨_, q.1⟩, mK_F q.2 (fun r j q => by revert q; simp only [mkAll, mkA, mlawX, mrP, mrT, mrK, mrM, mvX, meX, mlX, mfaX, stX, hvX, pwX, btX, sgX, mlsX, jdX, tdX, dsX, enX, mftX, ldrX, wmX, maX, lwX, lrX, mrX, feX, ngX, Bool.or_eq_true, Bool.and_eq_true, decide_eq_true_eq, decide_eq_false_iff_not, beq_iff_eq, Bool.or_eq_false_iff, Bool.and_eq_false_iff, beq_eq_false_iff_ne]; omega) k, q.2⟩)
theorem m14 {a b c d e : Int} (k : mK t) : hy_Ct sc hm_M_unseen 7 [.inr (some 59), .inl a, .inl b, .inl c, .inl d, .inl e] t (mQ meX t) := (c_M_unseen k.ml k.pal k.mg).mono (fun r t' q => ⟨⟨_, q.1⟩, mK_F q.2 (fun r j q => by revert q; simp only [mkAll, mkA, mlawX, mrP, mrT, mrK, mrM, mvX, meX, mlX, mfaX, stX, hvX, pwX, btX, sgX, mlsX, jdX, tdX, dsX, enX, mftX, ldrX, wmX, maX, lwX, lrX, mrX, feX, ngX, Bool.or_eq_true, Bool.and_eq_true, decide_eq_true_eq, decide_eq_false_iff_not, beq_iff_eq, Bool.or_eq_false_iff, Bool.and_eq_false_iff, beq_eq_false_iff_ne]; omega) k, q.2⟩)
theorem m15 {a b c d e f : Int} (k : mK t) : hy_Ct sc hm_M_way 7 [.inr (some 59), .inl a, .inl b, .inl c, .inl d, .inl e, .inl f] t (mQ wmX t) := (c_M_way (I := fun _ => True) k.ml k.pal k.mg (fun _ _ => trivial) (fun _ _ _ _ _ _ _ => trivial)).mono (fun r t' q => ⟨⟨_, q.1⟩, mK_F q.2.1 (fun r j q => by revert q; simp only [mkAll, mkA, mlawX, mrP, mrT, mrK, mrM, mvX, meX, mlX, mfaX, stX, hvX, pwX, btX, sgX, mlsX, jdX, tdX, dsX, enX, mftX, ldrX, wmX, maX, lwX, lrX, mrX, feX, ngX, Bool.or_eq_true, Bool.and_eq_true, decide_eq_true_eq, decide_eq_false_iff_not, beq_iff_eq, Bool.or_eq_false_iff, Bool.and_eq_false_iff, beq_eq_false_iff_ne]; omega) k, q.2.1⟩)
theorem m16 {a b : Int} (k : mK t) : hy_Ct sc hm_M_worth 7 [.inr (some 59), .inl a, .inl b] t (mQ mvX t) := (c_M_worth k.ml).mono (fun r t' q => ⟨⟨_, q.1⟩, mK_F q.2 (fun r j q => by revert q; simp only [mkAll, mkA, mlawX, mrP, mrT, mrK, mrM, mvX, meX, mlX, mfaX, stX, hvX, pwX, btX, sgX, mlsX, jdX, tdX, dsX, enX, mftX, ldrX, wmX, maX, lwX, lrX, mrX, feX, ngX, Bool.or_eq_true, Bool.and_eq_true, decide_eq_true_eq, decide_eq_false_iff_not, beq_iff_eq, Bool.or_eq_false_iff, Bool.and_eq_false_iff, beq_eq_false_iff_ne]; omega) k, q.2⟩)
abbrev gnX : Nat → Nat → Bool := fun r j => hvX r j || mvX r j
theorem m17 {a b c : Int} (k : mK t) : hy_Ct sc hm_M_gain 7 [.inr (some 59), .inl a, .inl b, .inl c] t (mQ gnX t) := (c_M_gain k.ml).mono (fun r t' q => by
  obtain ⟨e, F⟩ := q
  have F0 : hy_F gnX t (if ((0 ≤ a ∧ a < 6) ∧ mf_plain t b = true ∧ 0 ≤ c ∧ c < 4) ∧ hz_b (t 62 (4 * b + c).toNat) a = false then mf_chN (mf_chN t b (hz_ishl 1 c) a 1 4) b (hz_ishl 1 c) a 0 4 else t) := by
    split
    · next h =>
      have hp := h.1.2.1
      simp only [mf_plain, Bool.and_eq_true] at hp
      have hb := sp_told_in hp.1
      exact ((mf_chN_F hb t 4 (by decide)).tr' (mf_chN_F hb _ 4 (by decide))).w (fun r j q => (Bool.or_eq_false_iff.mp q).1)
    · exact hy_F.rf
  have G := F0.tr' (F.w (fun r j q => (Bool.or_eq_false_iff.mp q).2))
  exact ⟨⟨_, e⟩, mK_F G (fun r j q => by revert q; simp only [gnX, hvX, mvX, mkAll, mkA, mlawX, mrP, mrT, mrK, mrM, Bool.or_eq_true, Bool.and_eq_true, decide_eq_true_eq, decide_eq_false_iff_not, beq_iff_eq, Bool.or_eq_false_iff, Bool.and_eq_false_iff, beq_eq_false_iff_ne]; omega) k, G⟩)
theorem m18 {a b c d e : Int} (k : mK t) : hy_Ct sc hm_M_power 8 [.inr (some 59), .inl a, .inl b, .inl c, .inl d, .inl e] t (mQ pwX t) := (c_M_power k.ml).mono (fun r t' q => ⟨⟨_, q.1⟩, mK_F q.2 (fun r j q => by revert q; simp only [mkAll, mkA, mlawX, mrP, mrT, mrK, mrM, mvX, meX, mlX, mfaX, stX, hvX, pwX, btX, sgX, mlsX, jdX, tdX, dsX, enX, mftX, ldrX, wmX, maX, lwX, lrX, mrX, feX, ngX, Bool.or_eq_true, Bool.and_eq_true, decide_eq_true_eq, decide_eq_false_iff_not, beq_iff_eq, Bool.or_eq_false_iff, Bool.and_eq_false_iff, beq_eq_false_iff_ne]; omega) k, q.2⟩)
theorem m19 {a b c d e : Int} (k : mK t) : hy_Ct sc hm_M_signals 8 [.inr (some 59), .inl a, .inl b, .inl c, .inl d, .inl e] t (mQ sgX t) := (c_M_signals k.ml k.pal).mono (fun r t' q => ⟨⟨_, q.1⟩, mK_F q.2.1 (fun r j q => by revert q; simp only [mkAll, mkA, mlawX, mrP, mrT, mrK, mrM, mvX, meX, mlX, mfaX, stX, hvX, pwX, btX, sgX, mlsX, jdX, tdX, dsX, enX, mftX, ldrX, wmX, maX, lwX, lrX, mrX, feX, ngX, Bool.or_eq_true, Bool.and_eq_true, decide_eq_true_eq, decide_eq_false_iff_not, beq_iff_eq, Bool.or_eq_false_iff, Bool.and_eq_false_iff, beq_eq_false_iff_ne]; omega) k, q.2.1⟩)
abbrev t9X : Nat → Nat → Bool := fun r j => r == 59 && j == 9
theorem mt_0u {t : hy_T} : mt_ok (hy_up t 59 9 0) := mt_0 rfl
theorem m20 {m w : Int} (k : mK t) : hy_Ct sc hm_M_parted 2 [.inr (some 59), .inl m, .inl w] t (fun r t' => mQ t9X t r t' ∧ t' = if mf_ptc t m w then hy_up t 59 9 0 else t) := (c_M_parted k.mt).mono (fun r t' q => by
  obtain ⟨x, rfl⟩ := q
  refine ⟨⟨x, ?_⟩, rfl⟩
  have F : hy_F t9X t (hy_up t 59 9 0) := hy_F.rf.up rfl
  split
  · exact ⟨mK_A F (fun r j q => by revert q; simp only [t9X, mkA, mlawX, mrP, mrT, mrK, Bool.or_eq_true, Bool.and_eq_true, decide_eq_true_eq, beq_iff_eq, Bool.and_eq_false_iff, beq_eq_false_iff_ne]; omega) mt_0u k, F⟩
  · exact ⟨k, hy_F.rf⟩)
theorem m21 {a b c d : Int} (k : mK t) : hy_Ct sc hm_M_battle 8 [.inr (some 59), .inl a, .inl b, .inl c, .inl d] t (mQ btX t) := (c_M_battle k.ml).mono (fun r t' q => ⟨⟨_, q.1⟩, mK_F q.2.1 (fun r j q => by revert q; simp only [mkAll, mkA, mlawX, mrP, mrT, mrK, mrM, mvX, meX, mlX, mfaX, stX, hvX, pwX, btX, sgX, mlsX, jdX, tdX, dsX, enX, mftX, ldrX, wmX, maX, lwX, lrX, mrX, feX, ngX, Bool.or_eq_true, Bool.and_eq_true, decide_eq_true_eq, decide_eq_false_iff_not, beq_iff_eq, Bool.or_eq_false_iff, Bool.and_eq_false_iff, beq_eq_false_iff_ne]; omega) k, q.2.1⟩)
abbrev spmX : Nat → Nat → Bool := fun r j => t9X r j || meX r j
theorem m22 {n w : Int} (k : mK t) : hy_Ct sc hm_M_spies 9 [.inr (some 59), .inl n, .inl w] t (fun r t' => mQ spmX t r t' ∧ t' 59 9 = if ms_spc t n w then 0 else t 59 9) := (c_M_spies k.ml k.pal k.mt).mono (fun r t' q => by
  obtain ⟨e, F⟩ := q
  have h : hy_F t9X t (if ms_spc t n w then hy_up t 59 9 0 else t) ∧ (if ms_spc t n w then hy_up t 59 9 0 else t) 59 9 = if ms_spc t n w then 0 else t 59 9 := by
    split
    · exact ⟨hy_F.rf.up rfl, rfl⟩
    · exact ⟨hy_F.rf, rfl⟩
  have G : hy_F spmX t t' := (h.1.w (fun r j q => (Bool.or_eq_false_iff.mp q).1)).tr' (F.w (fun r j q => (Bool.or_eq_false_iff.mp q).2))
  have z := (F 59 9 rfl).trans h.2
  have h9 : mt_ok t' := by
    have := k.mt
    unfold mt_ok
    split at z <;> omega
  exact ⟨⟨⟨_, e⟩, mK_A G (fun r j q => by revert q; simp only [spmX, t9X, meX, mkA, mlawX, mrP, mrT, mrK, Bool.or_eq_true, Bool.and_eq_true, decide_eq_true_eq, beq_iff_eq, Bool.or_eq_false_iff, Bool.and_eq_false_iff, beq_eq_false_iff_ne]; omega) h9 k, G⟩, z⟩)
theorem m23 {a b : Int} (k : mK t) : hy_Ct sc hm_M_painting 6 [.inr (some 59), .inl a, .inl b] t (mQ mvX t) := (c_M_painting k.ml).mono (fun r t' q => ⟨⟨_, q.1⟩, mK_F q.2 (fun r j q => by revert q; simp only [mkAll, mkA, mlawX, mrP, mrT, mrK, mrM, mvX, meX, mlX, mfaX, stX, hvX, pwX, btX, sgX, mlsX, jdX, tdX, dsX, enX, mftX, ldrX, wmX, maX, lwX, lrX, mrX, feX, ngX, Bool.or_eq_true, Bool.and_eq_true, decide_eq_true_eq, decide_eq_false_iff_not, beq_iff_eq, Bool.or_eq_false_iff, Bool.and_eq_false_iff, beq_eq_false_iff_ne]; omega) k, q.2⟩)
theorem m24 {a b c : Int} (k : mK t) : hy_Ct sc hm_M_ash 7 [.inr (some 59), .inl a, .inl b, .inl c] t (mQ maX t) := (c_M_ash k.ml k.pal k.mg).mono (fun r t' q => ⟨⟨_, q.1⟩, mK_F q.2.1 (fun r j q => by revert q; simp only [mkAll, mkA, mlawX, mrP, mrT, mrK, mrM, mvX, meX, mlX, mfaX, stX, hvX, pwX, btX, sgX, mlsX, jdX, tdX, dsX, enX, mftX, ldrX, wmX, maX, lwX, lrX, mrX, feX, ngX, Bool.or_eq_true, Bool.and_eq_true, decide_eq_true_eq, decide_eq_false_iff_not, beq_iff_eq, Bool.or_eq_false_iff, Bool.and_eq_false_iff, beq_eq_false_iff_ne]; omega) k, q.2.1⟩)
theorem m25 {a : Int} (k : mK t) : hy_Ct sc hm_M_seed 1 [.inr (some 59), .inl a] t (mQ (fun r j => r == 59 && j == 1) t) := c_M_seed.mono (fun r t' q => by
  obtain ⟨rfl, rfl⟩ := q
  refine ⟨⟨_, rfl⟩, ?_⟩
  have F : hy_F (fun r j => r == 59 && j == 1) t (hy_up t 59 1 a) := hy_F.rf.up rfl
  split
  · next h =>
    have tr : tr_ok (hy_up t 59 1 a) := ⟨k.tr.1, k.tr.2.1, of_decide_eq_true h, fun i hi => k.tr.2.2.2 i hi⟩
    exact ⟨⟨⟨ml_ok_F F (fun r j q => by revert q; simp only [mkAll, mkA, mlawX, mrP, mrT, mrK, mrM, mvX, meX, mlX, mfaX, stX, hvX, pwX, btX, sgX, mlsX, jdX, tdX, dsX, enX, mftX, ldrX, wmX, maX, lwX, lrX, mrX, feX, ngX, Bool.or_eq_true, Bool.and_eq_true, decide_eq_true_eq, decide_eq_false_iff_not, beq_iff_eq, Bool.or_eq_false_iff, Bool.and_eq_false_iff, beq_eq_false_iff_ne]; omega) k.ml, mk_p2 F (fun r j q => by revert q; simp only [mkAll, mkA, mlawX, mrP, mrT, mrK, mrM, mvX, meX, mlX, mfaX, stX, hvX, pwX, btX, sgX, mlsX, jdX, tdX, dsX, enX, mftX, ldrX, wmX, maX, lwX, lrX, mrX, feX, ngX, Bool.or_eq_true, Bool.and_eq_true, decide_eq_true_eq, decide_eq_false_iff_not, beq_iff_eq, Bool.or_eq_false_iff, Bool.and_eq_false_iff, beq_eq_false_iff_ne]; omega) k.p2⟩, ⟨mk_mg F (fun _ => rfl) k.mg, mk_nl F (fun _ => rfl) k.nl⟩, ⟨tr, mk_kp F (fun r j q => by revert q; simp only [mkAll, mkA, mlawX, mrP, mrT, mrK, mrM, mvX, meX, mlX, mfaX, stX, hvX, pwX, btX, sgX, mlsX, jdX, tdX, dsX, enX, mftX, ldrX, wmX, maX, lwX, lrX, mrX, feX, ngX, Bool.or_eq_true, Bool.and_eq_true, decide_eq_true_eq, decide_eq_false_iff_not, beq_iff_eq, Bool.or_eq_false_iff, Bool.and_eq_false_iff, beq_eq_false_iff_ne]; omega) k.kp⟩, k.mt⟩, F⟩
  · exact ⟨k, hy_F.rf⟩)
theorem m26 (k : mK t) : hy_Ct sc hm_M_keep 1 [.inr (some 59)] t (fun r t' => mQ kpmX t r t' ∧ r = some (t 59 34) ∧ t' = mf_keep t) := c_M_keep.mono (fun r t' q => by
  obtain ⟨rfl, rfl⟩ := q
  obtain ⟨F, v, e1, e2, e3, e4⟩ := mf_keep_v t
  exact ⟨⟨⟨_, rfl⟩, mK_keep k⟩, congrArg some (F 59 34 rfl), rfl⟩)
theorem m27 (k : mK t) : hy_Ct sc hm_M_undo 1 [.inr (some 59)] t (fun r t' => mQ udX t r t' ∧ r = some (if t 59 57 = 0 then 0 else 1) ∧ t' = if t 59 57 = 0 then t else mf_undo t) := c_M_undo.mono (fun r t' q => by
  obtain ⟨rfl, rfl⟩ := q
  refine ⟨⟨⟨_, rfl⟩, ?_⟩, rfl, rfl⟩
  split
  · exact ⟨k, hy_F.rf⟩
  · exact mK_undo k)
theorem m28 {n : Int} (k : mK t) : hy_Ct sc hm_M_check 1 [.inr (some 59), .inl n] t (fun r t' => mQ t9X t r t' ∧ r = some (if (0 ≤ n ∧ n ≤ 8) ∧ 4 * n ≤ t 59 9 then mf_checkN t n.toNat 0 else -2) ∧ t' = if (0 ≤ n ∧ n ≤ 8) ∧ 4 * n ≤ t 59 9 then hy_up t 59 9 0 else t) := (c_M_check k.mt).mono (fun r t' q => by
  obtain ⟨rfl, rfl⟩ := q
  refine ⟨⟨⟨_, rfl⟩, ?_⟩, rfl, rfl⟩
  have F : hy_F t9X t (hy_up t 59 9 0) := hy_F.rf.up rfl
  split
  · exact ⟨mK_A F (fun r j q => by revert q; simp only [t9X, mkA, mlawX, mrP, mrT, mrK, Bool.or_eq_true, Bool.and_eq_true, decide_eq_true_eq, beq_iff_eq, Bool.and_eq_false_iff, beq_eq_false_iff_ne]; omega) mt_0u k, F⟩
  · exact ⟨k, hy_F.rf⟩)
theorem m29 {w : Int} (k : mK t) : hy_Ct sc hm_M_count 4 [.inr (some 59), .inl w] t (fun r t' => mQ (fun _ _ => false) t r t' ∧ r = some (mf_count t w) ∧ t' = t) := (c_M_count (fun j hj => (k.p2 j hj).1)).mono (fun r t' q => by
  obtain ⟨rfl, rfl⟩ := q
  exact ⟨⟨⟨_, rfl⟩, k, hy_F.rf⟩, rfl, rfl⟩)
end MO
