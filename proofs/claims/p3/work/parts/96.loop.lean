/-! the relation of p3: the told colours, and which of them are mixed -/
theorem bit_set {w c : Int} (hw : 0 ≤ w ∧ w ≤ 4095) (hc : 0 ≤ c ∧ c < 12) : (0 ≤ hz_ior w (hz_ishl 1 c) ∧ hz_ior w (hz_ishl 1 c) ≤ 4095) ∧ ∀ j : Nat, j < 12 → hz_b (hz_ior w (hz_ishl 1 c)) j = (hz_b w j || decide (c.toNat = j)) := by
  have e := hz_set (x := w) (k := c) (by omega) (by omega)
  have h1 : w.toNat < 2 ^ 12 := by
    show w.toNat < 4096
    omega
  have h2 : 2 ^ c.toNat < 2 ^ 12 := Nat.pow_lt_pow_right (by decide) (by omega)
  have h3 : w.toNat ||| 2 ^ c.toNat < 4096 := Nat.or_lt_two_pow h1 h2
  have h4 : ∀ j : Nat, (w.toNat ||| 2 ^ c.toNat).testBit j = (w.toNat.testBit j || decide (c.toNat = j)) := fun j => by
    rw [Nat.testBit_or, Nat.testBit_two_pow]
  rw [e]
  revert h3 h4
  generalize w.toNat ||| 2 ^ c.toNat = m
  intro h3 h4
  refine ⟨⟨by omega, by omega⟩, fun j hj => ?_⟩
  rw [hz_b_n (by omega) (by omega), hz_b_n (by omega) (by omega), Int.toNat_natCast, Int.toNat_natCast]
  exact h4 j
abbrev p3_Y : Nat → Nat → Bool := fun r j => (r == 5 && (j == 2 || j == 3)) || (r == 59 && j == 0) || r == 60
def p3_rel (t : hy_T) : Prop := (t 5 2 = t 59 0 ∧ (0 ≤ t 5 2 ∧ t 5 2 ≤ 4095) ∧ 0 ≤ t 5 3 ∧ t 5 3 ≤ 4095) ∧ ∀ c : Nat, c < 12 → hz_b (t 5 3) c = decide (t 60 c ≠ -1) ∧ (hz_b (t 5 3) c = true → hz_b (t 5 2) c = true)
theorem p3_relF (t t1 : hy_T) (h : p3_rel t) (hY : ∀ r j, p3_Y r j = true → t1 r j = t r j) : p3_rel t1 := by
  unfold p3_rel
  rw [hY 5 2 rfl, hY 5 3 rfl, hY 59 0 rfl]
  refine ⟨h.1, fun c hc => ?_⟩
  rw [hY 60 c rfl]
  exact h.2 c hc
theorem p3_rel0 : p3_rel t0 := ⟨⟨rfl, (show 0 ≤ (0 : Int) ∧ (0 : Int) ≤ 4095 by decide), (show 0 ≤ (0 : Int) ∧ (0 : Int) ≤ 4095 by decide)⟩, fun c hc => by
  have e : hz_b (t0 5 3) c = false := hz_b_0 c
  rw [e, show t0 60 c = -1 from rfl]
  exact ⟨rfl, fun h => by cases h⟩⟩
theorem p3_plain {t : hy_T} (h : p3_rel t) (c : Int) : wf_plain t c = mf_plain t c := by
  unfold wf_plain mf_plain sp_told
  rw [h.1.1]
  by_cases hc : 0 ≤ c ∧ c < 12
  · have := (h.2 c.toNat (by omega)).1
    rw [show ((c.toNat : Nat) : Int) = c by omega] at this
    rw [this, decide_eq_true hc, Bool.true_and, Bool.true_and]
    by_cases h6 : t 60 c.toNat = -1
    · simp [h6]
    · simp [h6]
  · rw [decide_eq_false hc, Bool.false_and, Bool.false_and, Bool.false_and]
theorem p3_tell {t t1 t2 : hy_T} {a b c : Int} (h : p3_rel t) (hq : sp_tellable (t 5 2) a b c = true) (e1 : t1 = sp_tellC t a b c) (e2 : t2 = sp_tellM t1 a b c) : p3_rel t2 := by
  obtain ⟨⟨r1, r2, r3⟩, r4⟩ := h
  simp only [sp_tellable, sp_told, Bool.and_eq_true, Bool.or_eq_true, decide_eq_true_eq] at hq
  have ha := hq.1.1
  have hn : hz_b (t 5 2) a = false := by
    have := hq.1.2
    rw [decide_eq_true ha, Bool.true_and] at this
    simpa using this
  have hd : (b = -1 ∧ c = -1) ∨ 0 ≤ b := by
    rcases hq.2 with q | q
    · exact .inl q
    · exact .inr q.1.1.1.1
  obtain ⟨s1, s2⟩ := bit_set r2 ha
  obtain ⟨s3, s4⟩ := bit_set r3 ha
  have x52 : t2 5 2 = hz_ior (t 5 2) (hz_ishl 1 a) := by
    rw [e2]
    show t1 5 2 = _
    rw [e1]
    unfold sp_tellC
    split <;> rfl
  have x53 : t2 5 3 = if b = -1 ∧ c = -1 then t 5 3 else hz_ior (t 5 3) (hz_ishl 1 a) := by
    rw [e2]
    show t1 5 3 = _
    rw [e1]
    unfold sp_tellC
    split <;> rfl
  have x0 : t1 59 0 = t 59 0 := by
    rw [e1]
    unfold sp_tellC
    split <;> rfl
  have x590 : t2 59 0 = hz_ior (t 5 2) (hz_ishl 1 a) := by
    rw [e2, r1, ← x0]
    rfl
  have x60 : ∀ j : Nat, t2 60 j = if j = a.toNat then b else t 60 j := fun j => by
    have y : t1 60 j = t 60 j := by
      rw [e1]
      unfold sp_tellC
      split <;> rfl
    rw [e2]
    unfold sp_tellM
    rw [hy_up_ne (by decide)]
    simp only [hy_up, true_and]
    split
    · rfl
    · rw [if_neg (by omega)]
      exact y
  refine ⟨⟨by rw [x52, x590], by rw [x52]; exact s1, ?_⟩, fun j hj => ?_⟩
  · rw [x53]
    split
    · exact r3
    · exact s3
  · obtain ⟨u1, u2⟩ := r4 j hj
    rw [x52, x53, x60 j, s2 j hj]
    by_cases hja : j = a.toNat
    · have hna : hz_b (t 5 2) j = false := by rw [hja, show ((a.toNat : Nat) : Int) = a by omega]; exact hn
      have hz3 : hz_b (t 5 3) j = false := by
        cases e : hz_b (t 5 3) j with
        | false => rfl
        | true => rw [u2 e] at hna; cases hna
      rw [if_pos hja, hna, decide_eq_true hja.symm]
      by_cases hp : b = -1 ∧ c = -1
      · rw [if_pos hp, hz3, decide_eq_false (show ¬ b ≠ -1 by omega)]
        exact ⟨rfl, fun _ => rfl⟩
      · rw [if_neg hp, s4 j hj, hz3, decide_eq_true hja.symm, decide_eq_true (show b ≠ -1 by omega)]
        exact ⟨rfl, fun _ => rfl⟩
    · rw [if_neg hja, decide_eq_false (show ¬ a.toNat = j by omega), Bool.or_false]
      by_cases hp : b = -1 ∧ c = -1
      · rw [if_pos hp]
        exact ⟨u1, u2⟩
      · rw [if_neg hp, s4 j hj, decide_eq_false (show ¬ a.toNat = j by omega), Bool.or_false]
        exact ⟨u1, u2⟩
theorem p3_col {sc : List Int32} {t : hy_T} {a b c : Int} (h : ci_I p3_rel t) : (hy_Ct sc hm_W_colour 3 [.inr (some 2), .inl a, .inl b, .inl c] t (fun r t1 => ∃ v : Int, r = some v ∧ (t1 = if sp_tellable (t 5 2) a b c = true then sp_tellC t a b c else t))) ∧ ∀ (v : Int) (t1 : hy_T), (t1 = if sp_tellable (t 5 2) a b c = true then sp_tellC t a b c else t) → hy_Ct sc hm_M_colour 2 [.inr (some 59), .inl a, .inl b, .inl c] t1 (fun r t2 => ∃ v2 : Int, r = some v2 ∧ ci_I p3_rel t2) := by
  obtain ⟨k, m, hr⟩ := h
  have e := hr.1.1
  refine ⟨c_W_colour.mono (fun r t' q => ⟨_, q.1, q.2⟩), fun v t1 e1 => c_M_colour.mono (fun r t2 q => ?_)⟩
  obtain ⟨rfl, e2⟩ := q
  refine ⟨_, rfl, ?_⟩
  by_cases hq : sp_tellable (t 5 2) a b c = true
  · rw [if_pos hq] at e1
    obtain ⟨k1, F⟩ := cK_tell k hq
    rw [← e1] at k1 F
    have e0 : t1 59 0 = t 5 2 := (F 59 0 rfl).trans e.symm
    have m1 := mK_W F sw0 m
    rw [e0, if_pos hq] at e2
    obtain ⟨m2, F2⟩ := mK_tell m1 (c := a) (f := b) (s := c) (by rw [e0]; exact hq)
    rw [← e2] at m2 F2
    exact ⟨cK_M F2 sm0 k1, m2, p3_tell hr hq e1 e2⟩
  · rw [if_neg hq] at e1
    subst e1
    rw [← e, if_neg hq] at e2
    subst e2
    exact ⟨k, m, hr⟩
theorem k1e {sc : List Int32} {t : hy_T} {a b c : Int} (k : cK t) : hy_Ct sc hm_W_have 3 [.inr (some 2), .inl a, .inl b, .inl c] t (fun r t' => cQ (fun r _ => r == 34) t r t' ∧ r = some (hy_b (wf_have t a b c))) := c_W_have.mono (fun r t' q => by
  obtain ⟨rfl, rfl⟩ := q
  have F : hy_F (fun r _ => r == 34) t (if wf_have t a b c = true then sp_setH 33 t a b c else t) := by
    split
    · unfold sp_setH
      split
      · exact hy_F.rf.up rfl
      · exact hy_F.rf
    · exact hy_F.rf
  exact ⟨⟨⟨_, rfl⟩, cK_F F (fun r j q => by revert q; simp only [ckX, ckT, lawX, ckN, ckS, ckP, Bool.or_eq_true, Bool.and_eq_true, beq_iff_eq, beq_eq_false_iff_ne]; omega) k, F⟩, rfl⟩)
theorem m1e {sc : List Int32} {t : hy_T} {a b c : Int} (k : mK t) : hy_Ct sc hm_M_have 3 [.inr (some 59), .inl a, .inl b, .inl c] t (fun r t' => mQ (fun r _ => r == 62) t r t' ∧ r = some (hy_b (mf_have t a b c))) := c_M_have.mono (fun r t' q => by
  obtain ⟨rfl, rfl⟩ := q
  have F : hy_F (fun r _ => r == 62) t (if mf_have t a b c = true then hy_up t 62 (4 * a + b).toNat c else t) := by
    split
    · exact hy_F.rf.up rfl
    · exact hy_F.rf
  exact ⟨⟨⟨_, rfl⟩, mK_F F (fun r j q => by revert q; simp only [mkAll, mkA, mlawX, mrP, mrT, mrK, mrM, Bool.or_eq_true, Bool.and_eq_true, decide_eq_true_eq, beq_iff_eq, beq_eq_false_iff_ne]; omega) k, F⟩, rfl⟩)
theorem p3_have {t t1 t2 : hy_T} {a b c : Int} {r1 r2 : Option Int} (h : p3_rel t) (F : hy_F (fun r _ => r == 34) t t1) (F2 : hy_F (fun r _ => r == 62) t1 t2) (q1 : r1 = some (hy_b (wf_have t a b c))) (q2 : r2 = some (hy_b (mf_have t1 a b c))) : r2 = r1 ∧ p3_rel t2 := by
  have h1 : p3_rel t1 := p3_relF t t1 h (fun r j q => F r j (by revert q; simp only [p3_Y, Bool.or_eq_true, Bool.and_eq_true, beq_iff_eq, beq_eq_false_iff_ne]; omega))
  have h2 : p3_rel t2 := p3_relF t1 t2 h1 (fun r j q => F2 r j (by revert q; simp only [p3_Y, Bool.or_eq_true, Bool.and_eq_true, beq_iff_eq, beq_eq_false_iff_ne]; omega))
  refine ⟨?_, h2⟩
  rw [q1, q2]
  have e : mf_have t1 a b c = wf_have t a b c := by
    unfold mf_have wf_have
    rw [← p3_plain h1 a]
    unfold wf_plain
    rw [F 5 2 rfl, F 5 3 rfl]
  rw [e]

theorem p3_0 : ci_I p3_rel t0 := ⟨cK_0, mK_0, p3_rel0⟩
set_option maxHeartbeats 1000000 in
theorem law_p3 {sc : List Int32} (hl : sc.length ≤ 3584) : hy_W sc hm_law 300 10 [.inr (some 0), .inr (some 2), .inr (some 59), .inl 0] [] t0 (fun r _ => r = some 1) := by
  have main : ∀ (n i : Nat) (t : hy_T), sc.length ≤ n + i → i ≤ 90000 → ci_I p3_rel t → hy_W sc hm_law 300 10 [.inr (some 0), .inr (some 2), .inr (some 59), .inl (i : Int)] [] t (fun r _ => r = some 1) := by
    intro n
    induction n with
    | zero =>
      intro i t hn hi h
      exact law_head i ⟨by omega, hi⟩ (fun _ => law_end rfl) (fun h7 => by omega)
    | succ n ih =>
      intro i t hn hi0 h
      refine law_head i ⟨by omega, hi0⟩ (fun _ => law_end rfl) (fun h7 => ?_)
      have hi : i + 7 ≤ sc.length ∧ sc.length ≤ 90000 := ⟨h7, by omega⟩
      have fin : ∀ t2 : hy_T, ci_I p3_rel t2 → hy_W sc hm_law 300 982 [.inr (some 0), .inr (some 2), .inr (some 59), .inl (i : Int)] [] t2 (fun r _ => r = some 1) := fun t2 h2 =>
        law_next i hi0 (ih (i + 7) t2 (by omega) (by omega) h2)
      refine law_sw i hi (fun x tt hx htt => ?_)
      have hxr : 0 ≤ x ∧ x ≤ 31 := by rw [hx]; exact hz_iand_le (by decide)
      clear hx
      have cs : x = 0 ∨ x = 1 ∨ x = 2 ∨ x = 3 ∨ x = 4 ∨ x = 5 ∨ x = 6 ∨ x = 7 ∨ x = 8 ∨ x = 9 ∨ x = 10 ∨ x = 11 ∨ x = 12 ∨ x = 13 ∨ x = 14 ∨ x = 15 ∨ x = 16 ∨ x = 17 ∨ x = 18 ∨ x = 19 ∨ x = 20 ∨ x = 21 ∨ x = 22 ∨ x = 23 ∨ x = 24 ∨ x = 25 ∨ x = 26 ∨ x = 27 ∨ x = 28 ∨ x = 29 ∨ 29 < x := by omega
      rcases cs with rfl | rfl | rfl | rfl | rfl | rfl | rfl | rfl | rfl | rfl | rfl | rfl | rfl | rfl | rfl | rfl | rfl | rfl | rfl | rfl | rfl | rfl | rfl | rfl | rfl | rfl | rfl | rfl | rfl | rfl | hb
      · obtain rfl : tt = 22 := by simpa using htt.symm
        obtain ⟨a, b⟩ := p3_col (sc := sc) (a := sv sc (i + 1)) (b := sv sc (i + 2)) (c := sv sc (i + 3)) h
        exact law_c0 (by decide) (by decide) hi a b fin
      · obtain rfl : tt = 59 := by simpa using htt.symm
        obtain ⟨a, b⟩ := twoE h (k1e (sc := sc) (a := sv sc (i + 1)) (b := sv sc (i + 2)) (c := sv sc (i + 3)) h.1) (fun t1 K => m1e (sc := sc) (a := sv sc (i + 1)) (b := sv sc (i + 2)) (c := sv sc (i + 3)) K) sw1 sm1 (fun r1 t1 r2 t2 F _ F2 q1 q2 => p3_have h.2.2 F F2 q1 q2)
        exact law_c1 (by decide) (by decide) hi a b fin
      · obtain rfl : tt = 96 := by simpa using htt.symm
        obtain ⟨a, b⟩ := pop p3_relF h (k2 (sc := sc) (a := sv sc (i + 1)) (b := sv sc (i + 2)) (c := sv sc (i + 3)) h.1) (fun t1 K => (m2 (sc := sc) (a := sv sc (i + 1)) (b := sv sc (i + 2)) (c := sv sc (i + 3)) K)) sw2 sm2 (fun r j q => by revert q; simp only [p3_Y, lawX, eX, lX, pX, fX, snX, brX, wyX, paX, trX, asX, gdX, lnX, lkX, lpX, lwcX, tyX, jyX, mkX, dzX, cpX, taX, glX, t1X, spX, dgX, kpX, mlawX, mvX, meX, mlX, mfaX, stX, hvX, pwX, btX, sgX, mlsX, jdX, tdX, dsX, enX, mftX, ldrX, wmX, maX, lwX, lrX, mrX, feX, ngX, trsX, dysX, gnX, t9X, spmX, kpmX, udX, Bool.or_eq_true, Bool.and_eq_true, decide_eq_true_eq, decide_eq_false_iff_not, beq_iff_eq, Bool.or_eq_false_iff, Bool.and_eq_false_iff, beq_eq_false_iff_ne]; omega) (fun r j q => by revert q; simp only [p3_Y, lawX, eX, lX, pX, fX, snX, brX, wyX, paX, trX, asX, gdX, lnX, lkX, lpX, lwcX, tyX, jyX, mkX, dzX, cpX, taX, glX, t1X, spX, dgX, kpX, mlawX, mvX, meX, mlX, mfaX, stX, hvX, pwX, btX, sgX, mlsX, jdX, tdX, dsX, enX, mftX, ldrX, wmX, maX, lwX, lrX, mrX, feX, ngX, trsX, dysX, gnX, t9X, spmX, kpmX, udX, Bool.or_eq_true, Bool.and_eq_true, decide_eq_true_eq, decide_eq_false_iff_not, beq_iff_eq, Bool.or_eq_false_iff, Bool.and_eq_false_iff, beq_eq_false_iff_ne]; omega)
        exact law_c2 (by decide) (by decide) hi a b fin
      · obtain rfl : tt = 133 := by simpa using htt.symm
        obtain ⟨a, b⟩ := pop p3_relF h ((k3 (sc := sc) (a := sv sc (i + 1)) (b := sv sc (i + 2)) (c := sv sc (i + 3)) (d := sv sc (i + 4)) (e := sv sc (i + 5)) h.1).mono (fun _ _ q => q.1)) (fun t1 K => ((m3 (sc := sc) (a := sv sc (i + 1)) (b := sv sc (i + 2)) (c := sv sc (i + 3)) (d := sv sc (i + 4)) (e := sv sc (i + 5)) K).mono (fun _ _ q => q.1))) sw3 sm3 (fun r j q => by revert q; simp only [p3_Y, lawX, eX, lX, pX, fX, snX, brX, wyX, paX, trX, asX, gdX, lnX, lkX, lpX, lwcX, tyX, jyX, mkX, dzX, cpX, taX, glX, t1X, spX, dgX, kpX, mlawX, mvX, meX, mlX, mfaX, stX, hvX, pwX, btX, sgX, mlsX, jdX, tdX, dsX, enX, mftX, ldrX, wmX, maX, lwX, lrX, mrX, feX, ngX, trsX, dysX, gnX, t9X, spmX, kpmX, udX, Bool.or_eq_true, Bool.and_eq_true, decide_eq_true_eq, decide_eq_false_iff_not, beq_iff_eq, Bool.or_eq_false_iff, Bool.and_eq_false_iff, beq_eq_false_iff_ne]; omega) (fun r j q => by revert q; simp only [p3_Y, lawX, eX, lX, pX, fX, snX, brX, wyX, paX, trX, asX, gdX, lnX, lkX, lpX, lwcX, tyX, jyX, mkX, dzX, cpX, taX, glX, t1X, spX, dgX, kpX, mlawX, mvX, meX, mlX, mfaX, stX, hvX, pwX, btX, sgX, mlsX, jdX, tdX, dsX, enX, mftX, ldrX, wmX, maX, lwX, lrX, mrX, feX, ngX, trsX, dysX, gnX, t9X, spmX, kpmX, udX, Bool.or_eq_true, Bool.and_eq_true, decide_eq_true_eq, decide_eq_false_iff_not, beq_iff_eq, Bool.or_eq_false_iff, Bool.and_eq_false_iff, beq_eq_false_iff_ne]; omega)
        exact law_c3 (by decide) (by decide) hi a b fin
      · obtain rfl : tt = 190 := by simpa using htt.symm
        obtain ⟨a, b⟩ := pop p3_relF h ((k4 (sc := sc) (n := sv sc (i + 1)) h.1).mono (fun _ _ q => q.1)) (fun t1 K => ((m4 (sc := sc) (n := sv sc (i + 1)) K).mono (fun _ _ q => q.1))) sw4 sm4 (fun r j q => by revert q; simp only [p3_Y, lawX, eX, lX, pX, fX, snX, brX, wyX, paX, trX, asX, gdX, lnX, lkX, lpX, lwcX, tyX, jyX, mkX, dzX, cpX, taX, glX, t1X, spX, dgX, kpX, mlawX, mvX, meX, mlX, mfaX, stX, hvX, pwX, btX, sgX, mlsX, jdX, tdX, dsX, enX, mftX, ldrX, wmX, maX, lwX, lrX, mrX, feX, ngX, trsX, dysX, gnX, t9X, spmX, kpmX, udX, Bool.or_eq_true, Bool.and_eq_true, decide_eq_true_eq, decide_eq_false_iff_not, beq_iff_eq, Bool.or_eq_false_iff, Bool.and_eq_false_iff, beq_eq_false_iff_ne]; omega) (fun r j q => by revert q; simp only [p3_Y, lawX, eX, lX, pX, fX, snX, brX, wyX, paX, trX, asX, gdX, lnX, lkX, lpX, lwcX, tyX, jyX, mkX, dzX, cpX, taX, glX, t1X, spX, dgX, kpX, mlawX, mvX, meX, mlX, mfaX, stX, hvX, pwX, btX, sgX, mlsX, jdX, tdX, dsX, enX, mftX, ldrX, wmX, maX, lwX, lrX, mrX, feX, ngX, trsX, dysX, gnX, t9X, spmX, kpmX, udX, Bool.or_eq_true, Bool.and_eq_true, decide_eq_true_eq, decide_eq_false_iff_not, beq_iff_eq, Bool.or_eq_false_iff, Bool.and_eq_false_iff, beq_eq_false_iff_ne]; omega)
        exact law_c4 (by decide) (by decide) hi a b fin
      · obtain rfl : tt = 207 := by simpa using htt.symm
        obtain ⟨a, b⟩ := pop p3_relF h ((k5 (sc := sc) (n := sv sc (i + 1)) h.1).mono (fun _ _ q => q.1)) (fun t1 K => ((m5 (sc := sc) (n := sv sc (i + 1)) K).mono (fun _ _ q => q.1))) sw5 sm5 (fun r j q => by revert q; simp only [p3_Y, lawX, eX, lX, pX, fX, snX, brX, wyX, paX, trX, asX, gdX, lnX, lkX, lpX, lwcX, tyX, jyX, mkX, dzX, cpX, taX, glX, t1X, spX, dgX, kpX, mlawX, mvX, meX, mlX, mfaX, stX, hvX, pwX, btX, sgX, mlsX, jdX, tdX, dsX, enX, mftX, ldrX, wmX, maX, lwX, lrX, mrX, feX, ngX, trsX, dysX, gnX, t9X, spmX, kpmX, udX, Bool.or_eq_true, Bool.and_eq_true, decide_eq_true_eq, decide_eq_false_iff_not, beq_iff_eq, Bool.or_eq_false_iff, Bool.and_eq_false_iff, beq_eq_false_iff_ne]; omega) (fun r j q => by revert q; simp only [p3_Y, lawX, eX, lX, pX, fX, snX, brX, wyX, paX, trX, asX, gdX, lnX, lkX, lpX, lwcX, tyX, jyX, mkX, dzX, cpX, taX, glX, t1X, spX, dgX, kpX, mlawX, mvX, meX, mlX, mfaX, stX, hvX, pwX, btX, sgX, mlsX, jdX, tdX, dsX, enX, mftX, ldrX, wmX, maX, lwX, lrX, mrX, feX, ngX, trsX, dysX, gnX, t9X, spmX, kpmX, udX, Bool.or_eq_true, Bool.and_eq_true, decide_eq_true_eq, decide_eq_false_iff_not, beq_iff_eq, Bool.or_eq_false_iff, Bool.and_eq_false_iff, beq_eq_false_iff_ne]; omega)
        exact law_c5 (by decide) (by decide) hi a b fin
      · obtain rfl : tt = 224 := by simpa using htt.symm
        obtain ⟨a, b⟩ := pop p3_relF h ((k6 (sc := sc) (n := sv sc (i + 1)) h.1).mono (fun _ _ q => q.1)) (fun t1 K => ((m6 (sc := sc) (n := sv sc (i + 1)) K).mono (fun _ _ q => q.1))) sw6 sm6 (fun r j q => by revert q; simp only [p3_Y, lawX, eX, lX, pX, fX, snX, brX, wyX, paX, trX, asX, gdX, lnX, lkX, lpX, lwcX, tyX, jyX, mkX, dzX, cpX, taX, glX, t1X, spX, dgX, kpX, mlawX, mvX, meX, mlX, mfaX, stX, hvX, pwX, btX, sgX, mlsX, jdX, tdX, dsX, enX, mftX, ldrX, wmX, maX, lwX, lrX, mrX, feX, ngX, trsX, dysX, gnX, t9X, spmX, kpmX, udX, Bool.or_eq_true, Bool.and_eq_true, decide_eq_true_eq, decide_eq_false_iff_not, beq_iff_eq, Bool.or_eq_false_iff, Bool.and_eq_false_iff, beq_eq_false_iff_ne]; omega) (fun r j q => by revert q; simp only [p3_Y, lawX, eX, lX, pX, fX, snX, brX, wyX, paX, trX, asX, gdX, lnX, lkX, lpX, lwcX, tyX, jyX, mkX, dzX, cpX, taX, glX, t1X, spX, dgX, kpX, mlawX, mvX, meX, mlX, mfaX, stX, hvX, pwX, btX, sgX, mlsX, jdX, tdX, dsX, enX, mftX, ldrX, wmX, maX, lwX, lrX, mrX, feX, ngX, trsX, dysX, gnX, t9X, spmX, kpmX, udX, Bool.or_eq_true, Bool.and_eq_true, decide_eq_true_eq, decide_eq_false_iff_not, beq_iff_eq, Bool.or_eq_false_iff, Bool.and_eq_false_iff, beq_eq_false_iff_ne]; omega)
        exact law_c6 (by decide) (by decide) hi a b fin
      · obtain rfl : tt = 241 := by simpa using htt.symm
        obtain ⟨a, b⟩ := pop p3_relF h ((k7 (sc := sc) (n := sv sc (i + 1)) h.1).mono (fun _ _ q => q.1)) (fun t1 K => ((m7 (sc := sc) (n := sv sc (i + 1)) K).mono (fun _ _ q => q.1))) sw7 sm7 (fun r j q => by revert q; simp only [p3_Y, lawX, eX, lX, pX, fX, snX, brX, wyX, paX, trX, asX, gdX, lnX, lkX, lpX, lwcX, tyX, jyX, mkX, dzX, cpX, taX, glX, t1X, spX, dgX, kpX, mlawX, mvX, meX, mlX, mfaX, stX, hvX, pwX, btX, sgX, mlsX, jdX, tdX, dsX, enX, mftX, ldrX, wmX, maX, lwX, lrX, mrX, feX, ngX, trsX, dysX, gnX, t9X, spmX, kpmX, udX, Bool.or_eq_true, Bool.and_eq_true, decide_eq_true_eq, decide_eq_false_iff_not, beq_iff_eq, Bool.or_eq_false_iff, Bool.and_eq_false_iff, beq_eq_false_iff_ne]; omega) (fun r j q => by revert q; simp only [p3_Y, lawX, eX, lX, pX, fX, snX, brX, wyX, paX, trX, asX, gdX, lnX, lkX, lpX, lwcX, tyX, jyX, mkX, dzX, cpX, taX, glX, t1X, spX, dgX, kpX, mlawX, mvX, meX, mlX, mfaX, stX, hvX, pwX, btX, sgX, mlsX, jdX, tdX, dsX, enX, mftX, ldrX, wmX, maX, lwX, lrX, mrX, feX, ngX, trsX, dysX, gnX, t9X, spmX, kpmX, udX, Bool.or_eq_true, Bool.and_eq_true, decide_eq_true_eq, decide_eq_false_iff_not, beq_iff_eq, Bool.or_eq_false_iff, Bool.and_eq_false_iff, beq_eq_false_iff_ne]; omega)
        exact law_c7 (by decide) (by decide) hi a b fin
      · obtain rfl : tt = 258 := by simpa using htt.symm
        obtain ⟨a, b⟩ := pop p3_relF h (k8 (sc := sc) (n := sv sc (i + 1)) h.1) (fun t1 K => (m8 (sc := sc) (n := sv sc (i + 1)) K)) sw8 sm8 (fun r j q => by revert q; simp only [p3_Y, lawX, eX, lX, pX, fX, snX, brX, wyX, paX, trX, asX, gdX, lnX, lkX, lpX, lwcX, tyX, jyX, mkX, dzX, cpX, taX, glX, t1X, spX, dgX, kpX, mlawX, mvX, meX, mlX, mfaX, stX, hvX, pwX, btX, sgX, mlsX, jdX, tdX, dsX, enX, mftX, ldrX, wmX, maX, lwX, lrX, mrX, feX, ngX, trsX, dysX, gnX, t9X, spmX, kpmX, udX, Bool.or_eq_true, Bool.and_eq_true, decide_eq_true_eq, decide_eq_false_iff_not, beq_iff_eq, Bool.or_eq_false_iff, Bool.and_eq_false_iff, beq_eq_false_iff_ne]; omega) (fun r j q => by revert q; simp only [p3_Y, lawX, eX, lX, pX, fX, snX, brX, wyX, paX, trX, asX, gdX, lnX, lkX, lpX, lwcX, tyX, jyX, mkX, dzX, cpX, taX, glX, t1X, spX, dgX, kpX, mlawX, mvX, meX, mlX, mfaX, stX, hvX, pwX, btX, sgX, mlsX, jdX, tdX, dsX, enX, mftX, ldrX, wmX, maX, lwX, lrX, mrX, feX, ngX, trsX, dysX, gnX, t9X, spmX, kpmX, udX, Bool.or_eq_true, Bool.and_eq_true, decide_eq_true_eq, decide_eq_false_iff_not, beq_iff_eq, Bool.or_eq_false_iff, Bool.and_eq_false_iff, beq_eq_false_iff_ne]; omega)
        exact law_c8 (by decide) (by decide) hi a b fin
      · obtain rfl : tt = 275 := by simpa using htt.symm
        obtain ⟨a, b⟩ := pop p3_relF h (k9 (sc := sc) (n := sv sc (i + 1)) (w := sv sc (i + 2)) h.1) (fun t1 K => (m9 (sc := sc) (n := sv sc (i + 1)) (w := sv sc (i + 2)) K)) sw9 sm9 (fun r j q => by revert q; simp only [p3_Y, lawX, eX, lX, pX, fX, snX, brX, wyX, paX, trX, asX, gdX, lnX, lkX, lpX, lwcX, tyX, jyX, mkX, dzX, cpX, taX, glX, t1X, spX, dgX, kpX, mlawX, mvX, meX, mlX, mfaX, stX, hvX, pwX, btX, sgX, mlsX, jdX, tdX, dsX, enX, mftX, ldrX, wmX, maX, lwX, lrX, mrX, feX, ngX, trsX, dysX, gnX, t9X, spmX, kpmX, udX, Bool.or_eq_true, Bool.and_eq_true, decide_eq_true_eq, decide_eq_false_iff_not, beq_iff_eq, Bool.or_eq_false_iff, Bool.and_eq_false_iff, beq_eq_false_iff_ne]; omega) (fun r j q => by revert q; simp only [p3_Y, lawX, eX, lX, pX, fX, snX, brX, wyX, paX, trX, asX, gdX, lnX, lkX, lpX, lwcX, tyX, jyX, mkX, dzX, cpX, taX, glX, t1X, spX, dgX, kpX, mlawX, mvX, meX, mlX, mfaX, stX, hvX, pwX, btX, sgX, mlsX, jdX, tdX, dsX, enX, mftX, ldrX, wmX, maX, lwX, lrX, mrX, feX, ngX, trsX, dysX, gnX, t9X, spmX, kpmX, udX, Bool.or_eq_true, Bool.and_eq_true, decide_eq_true_eq, decide_eq_false_iff_not, beq_iff_eq, Bool.or_eq_false_iff, Bool.and_eq_false_iff, beq_eq_false_iff_ne]; omega)
        exact law_c9 (by decide) (by decide) hi a b fin
      · obtain rfl : tt = 302 := by simpa using htt.symm
        obtain ⟨a, b⟩ := pop p3_relF h (k10 (sc := sc) (n := sv sc (i + 1)) (w := sv sc (i + 2)) h.1) (fun t1 K => (m10 (sc := sc) (n := sv sc (i + 1)) (w := sv sc (i + 2)) K)) sw10 sm10 (fun _ _ _ => rfl) (fun _ _ _ => rfl)
        exact law_c10 (by decide) (by decide) hi a b fin
      · obtain rfl : tt = 329 := by simpa using htt.symm
        obtain ⟨a, b⟩ := pop p3_relF h (k11 (sc := sc) (a := sv sc (i + 1)) (b := sv sc (i + 2)) (c := sv sc (i + 3)) h.1) (fun t1 K => (m11 (sc := sc) (a := sv sc (i + 1)) (b := sv sc (i + 2)) (c := sv sc (i + 3)) K)) sw11 sm11 (fun r j q => by revert q; simp only [p3_Y, lawX, eX, lX, pX, fX, snX, brX, wyX, paX, trX, asX, gdX, lnX, lkX, lpX, lwcX, tyX, jyX, mkX, dzX, cpX, taX, glX, t1X, spX, dgX, kpX, mlawX, mvX, meX, mlX, mfaX, stX, hvX, pwX, btX, sgX, mlsX, jdX, tdX, dsX, enX, mftX, ldrX, wmX, maX, lwX, lrX, mrX, feX, ngX, trsX, dysX, gnX, t9X, spmX, kpmX, udX, Bool.or_eq_true, Bool.and_eq_true, decide_eq_true_eq, decide_eq_false_iff_not, beq_iff_eq, Bool.or_eq_false_iff, Bool.and_eq_false_iff, beq_eq_false_iff_ne]; omega) (fun r j q => by revert q; simp only [p3_Y, lawX, eX, lX, pX, fX, snX, brX, wyX, paX, trX, asX, gdX, lnX, lkX, lpX, lwcX, tyX, jyX, mkX, dzX, cpX, taX, glX, t1X, spX, dgX, kpX, mlawX, mvX, meX, mlX, mfaX, stX, hvX, pwX, btX, sgX, mlsX, jdX, tdX, dsX, enX, mftX, ldrX, wmX, maX, lwX, lrX, mrX, feX, ngX, trsX, dysX, gnX, t9X, spmX, kpmX, udX, Bool.or_eq_true, Bool.and_eq_true, decide_eq_true_eq, decide_eq_false_iff_not, beq_iff_eq, Bool.or_eq_false_iff, Bool.and_eq_false_iff, beq_eq_false_iff_ne]; omega)
        exact law_c11 (by decide) (by decide) hi a b fin
      · obtain rfl : tt = 366 := by simpa using htt.symm
        obtain ⟨a, b⟩ := pop p3_relF h (k12 (sc := sc) (a := sv sc (i + 1)) (b := sv sc (i + 2)) (c := sv sc (i + 3)) h.1) (fun t1 K => (m12 (sc := sc) (a := sv sc (i + 1)) (b := sv sc (i + 2)) (c := sv sc (i + 3)) K)) sw12 sm12 (fun r j q => by revert q; simp only [p3_Y, lawX, eX, lX, pX, fX, snX, brX, wyX, paX, trX, asX, gdX, lnX, lkX, lpX, lwcX, tyX, jyX, mkX, dzX, cpX, taX, glX, t1X, spX, dgX, kpX, mlawX, mvX, meX, mlX, mfaX, stX, hvX, pwX, btX, sgX, mlsX, jdX, tdX, dsX, enX, mftX, ldrX, wmX, maX, lwX, lrX, mrX, feX, ngX, trsX, dysX, gnX, t9X, spmX, kpmX, udX, Bool.or_eq_true, Bool.and_eq_true, decide_eq_true_eq, decide_eq_false_iff_not, beq_iff_eq, Bool.or_eq_false_iff, Bool.and_eq_false_iff, beq_eq_false_iff_ne]; omega) (fun r j q => by revert q; simp only [p3_Y, lawX, eX, lX, pX, fX, snX, brX, wyX, paX, trX, asX, gdX, lnX, lkX, lpX, lwcX, tyX, jyX, mkX, dzX, cpX, taX, glX, t1X, spX, dgX, kpX, mlawX, mvX, meX, mlX, mfaX, stX, hvX, pwX, btX, sgX, mlsX, jdX, tdX, dsX, enX, mftX, ldrX, wmX, maX, lwX, lrX, mrX, feX, ngX, trsX, dysX, gnX, t9X, spmX, kpmX, udX, Bool.or_eq_true, Bool.and_eq_true, decide_eq_true_eq, decide_eq_false_iff_not, beq_iff_eq, Bool.or_eq_false_iff, Bool.and_eq_false_iff, beq_eq_false_iff_ne]; omega)
        exact law_c12 (by decide) (by decide) hi a b fin
      · obtain rfl : tt = 403 := by simpa using htt.symm
        obtain ⟨a, b⟩ := pop p3_relF h (k13 (sc := sc) (a := sv sc (i + 1)) (b := sv sc (i + 2)) (c := sv sc (i + 3)) (d := sv sc (i + 4)) h.1) (fun t1 K => (m13 (sc := sc) (a := sv sc (i + 1)) (b := sv sc (i + 2)) (c := sv sc (i + 3)) (d := sv sc (i + 4)) K)) sw13 sm13 (fun r j q => by revert q; simp only [p3_Y, lawX, eX, lX, pX, fX, snX, brX, wyX, paX, trX, asX, gdX, lnX, lkX, lpX, lwcX, tyX, jyX, mkX, dzX, cpX, taX, glX, t1X, spX, dgX, kpX, mlawX, mvX, meX, mlX, mfaX, stX, hvX, pwX, btX, sgX, mlsX, jdX, tdX, dsX, enX, mftX, ldrX, wmX, maX, lwX, lrX, mrX, feX, ngX, trsX, dysX, gnX, t9X, spmX, kpmX, udX, Bool.or_eq_true, Bool.and_eq_true, decide_eq_true_eq, decide_eq_false_iff_not, beq_iff_eq, Bool.or_eq_false_iff, Bool.and_eq_false_iff, beq_eq_false_iff_ne]; omega) (fun r j q => by revert q; simp only [p3_Y, lawX, eX, lX, pX, fX, snX, brX, wyX, paX, trX, asX, gdX, lnX, lkX, lpX, lwcX, tyX, jyX, mkX, dzX, cpX, taX, glX, t1X, spX, dgX, kpX, mlawX, mvX, meX, mlX, mfaX, stX, hvX, pwX, btX, sgX, mlsX, jdX, tdX, dsX, enX, mftX, ldrX, wmX, maX, lwX, lrX, mrX, feX, ngX, trsX, dysX, gnX, t9X, spmX, kpmX, udX, Bool.or_eq_true, Bool.and_eq_true, decide_eq_true_eq, decide_eq_false_iff_not, beq_iff_eq, Bool.or_eq_false_iff, Bool.and_eq_false_iff, beq_eq_false_iff_ne]; omega)
        exact law_c13 (by decide) (by decide) hi a b fin
      · obtain rfl : tt = 450 := by simpa using htt.symm
        obtain ⟨a, b⟩ := pop p3_relF h (k14 (sc := sc) (a := sv sc (i + 1)) (b := sv sc (i + 2)) (c := sv sc (i + 3)) (d := sv sc (i + 4)) (e := sv sc (i + 5)) h.1) (fun t1 K => (m14 (sc := sc) (a := sv sc (i + 1)) (b := sv sc (i + 2)) (c := sv sc (i + 3)) (d := sv sc (i + 4)) (e := sv sc (i + 5)) K)) sw14 sm14 (fun r j q => by revert q; simp only [p3_Y, lawX, eX, lX, pX, fX, snX, brX, wyX, paX, trX, asX, gdX, lnX, lkX, lpX, lwcX, tyX, jyX, mkX, dzX, cpX, taX, glX, t1X, spX, dgX, kpX, mlawX, mvX, meX, mlX, mfaX, stX, hvX, pwX, btX, sgX, mlsX, jdX, tdX, dsX, enX, mftX, ldrX, wmX, maX, lwX, lrX, mrX, feX, ngX, trsX, dysX, gnX, t9X, spmX, kpmX, udX, Bool.or_eq_true, Bool.and_eq_true, decide_eq_true_eq, decide_eq_false_iff_not, beq_iff_eq, Bool.or_eq_false_iff, Bool.and_eq_false_iff, beq_eq_false_iff_ne]; omega) (fun r j q => by revert q; simp only [p3_Y, lawX, eX, lX, pX, fX, snX, brX, wyX, paX, trX, asX, gdX, lnX, lkX, lpX, lwcX, tyX, jyX, mkX, dzX, cpX, taX, glX, t1X, spX, dgX, kpX, mlawX, mvX, meX, mlX, mfaX, stX, hvX, pwX, btX, sgX, mlsX, jdX, tdX, dsX, enX, mftX, ldrX, wmX, maX, lwX, lrX, mrX, feX, ngX, trsX, dysX, gnX, t9X, spmX, kpmX, udX, Bool.or_eq_true, Bool.and_eq_true, decide_eq_true_eq, decide_eq_false_iff_not, beq_iff_eq, Bool.or_eq_false_iff, Bool.and_eq_false_iff, beq_eq_false_iff_ne]; omega)
        exact law_c14 (by decide) (by decide) hi a b fin
      · obtain rfl : tt = 507 := by simpa using htt.symm
        obtain ⟨a, b⟩ := pop p3_relF h (k15 (sc := sc) (a := sv sc (i + 1)) (b := sv sc (i + 2)) (c := sv sc (i + 3)) (d := sv sc (i + 4)) (e := sv sc (i + 5)) (f := sv sc (i + 6)) h.1) (fun t1 K => (m15 (sc := sc) (a := sv sc (i + 1)) (b := sv sc (i + 2)) (c := sv sc (i + 3)) (d := sv sc (i + 4)) (e := sv sc (i + 5)) (f := sv sc (i + 6)) K)) sw15 sm15 (fun r j q => by revert q; simp only [p3_Y, lawX, eX, lX, pX, fX, snX, brX, wyX, paX, trX, asX, gdX, lnX, lkX, lpX, lwcX, tyX, jyX, mkX, dzX, cpX, taX, glX, t1X, spX, dgX, kpX, mlawX, mvX, meX, mlX, mfaX, stX, hvX, pwX, btX, sgX, mlsX, jdX, tdX, dsX, enX, mftX, ldrX, wmX, maX, lwX, lrX, mrX, feX, ngX, trsX, dysX, gnX, t9X, spmX, kpmX, udX, Bool.or_eq_true, Bool.and_eq_true, decide_eq_true_eq, decide_eq_false_iff_not, beq_iff_eq, Bool.or_eq_false_iff, Bool.and_eq_false_iff, beq_eq_false_iff_ne]; omega) (fun r j q => by revert q; simp only [p3_Y, lawX, eX, lX, pX, fX, snX, brX, wyX, paX, trX, asX, gdX, lnX, lkX, lpX, lwcX, tyX, jyX, mkX, dzX, cpX, taX, glX, t1X, spX, dgX, kpX, mlawX, mvX, meX, mlX, mfaX, stX, hvX, pwX, btX, sgX, mlsX, jdX, tdX, dsX, enX, mftX, ldrX, wmX, maX, lwX, lrX, mrX, feX, ngX, trsX, dysX, gnX, t9X, spmX, kpmX, udX, Bool.or_eq_true, Bool.and_eq_true, decide_eq_true_eq, decide_eq_false_iff_not, beq_iff_eq, Bool.or_eq_false_iff, Bool.and_eq_false_iff, beq_eq_false_iff_ne]; omega)
        exact law_c15 (by decide) (by decide) hi a b fin
      · obtain rfl : tt = 574 := by simpa using htt.symm
        obtain ⟨a, b⟩ := pop p3_relF h (k16 (sc := sc) (a := sv sc (i + 1)) (b := sv sc (i + 2)) h.1) (fun t1 K => (m16 (sc := sc) (a := sv sc (i + 1)) (b := sv sc (i + 2)) K)) sw16 sm16 (fun r j q => by revert q; simp only [p3_Y, lawX, eX, lX, pX, fX, snX, brX, wyX, paX, trX, asX, gdX, lnX, lkX, lpX, lwcX, tyX, jyX, mkX, dzX, cpX, taX, glX, t1X, spX, dgX, kpX, mlawX, mvX, meX, mlX, mfaX, stX, hvX, pwX, btX, sgX, mlsX, jdX, tdX, dsX, enX, mftX, ldrX, wmX, maX, lwX, lrX, mrX, feX, ngX, trsX, dysX, gnX, t9X, spmX, kpmX, udX, Bool.or_eq_true, Bool.and_eq_true, decide_eq_true_eq, decide_eq_false_iff_not, beq_iff_eq, Bool.or_eq_false_iff, Bool.and_eq_false_iff, beq_eq_false_iff_ne]; omega) (fun r j q => by revert q; simp only [p3_Y, lawX, eX, lX, pX, fX, snX, brX, wyX, paX, trX, asX, gdX, lnX, lkX, lpX, lwcX, tyX, jyX, mkX, dzX, cpX, taX, glX, t1X, spX, dgX, kpX, mlawX, mvX, meX, mlX, mfaX, stX, hvX, pwX, btX, sgX, mlsX, jdX, tdX, dsX, enX, mftX, ldrX, wmX, maX, lwX, lrX, mrX, feX, ngX, trsX, dysX, gnX, t9X, spmX, kpmX, udX, Bool.or_eq_true, Bool.and_eq_true, decide_eq_true_eq, decide_eq_false_iff_not, beq_iff_eq, Bool.or_eq_false_iff, Bool.and_eq_false_iff, beq_eq_false_iff_ne]; omega)
        exact law_c16 (by decide) (by decide) hi a b fin
      · obtain rfl : tt = 601 := by simpa using htt.symm
        obtain ⟨a, b⟩ := pop p3_relF h (k17 (sc := sc) (a := sv sc (i + 1)) (b := sv sc (i + 2)) (c := sv sc (i + 3)) h.1) (fun t1 K => (m17 (sc := sc) (a := sv sc (i + 1)) (b := sv sc (i + 2)) (c := sv sc (i + 3)) K)) sw17 sm17 (fun r j q => by revert q; simp only [p3_Y, lawX, eX, lX, pX, fX, snX, brX, wyX, paX, trX, asX, gdX, lnX, lkX, lpX, lwcX, tyX, jyX, mkX, dzX, cpX, taX, glX, t1X, spX, dgX, kpX, mlawX, mvX, meX, mlX, mfaX, stX, hvX, pwX, btX, sgX, mlsX, jdX, tdX, dsX, enX, mftX, ldrX, wmX, maX, lwX, lrX, mrX, feX, ngX, trsX, dysX, gnX, t9X, spmX, kpmX, udX, Bool.or_eq_true, Bool.and_eq_true, decide_eq_true_eq, decide_eq_false_iff_not, beq_iff_eq, Bool.or_eq_false_iff, Bool.and_eq_false_iff, beq_eq_false_iff_ne]; omega) (fun r j q => by revert q; simp only [p3_Y, lawX, eX, lX, pX, fX, snX, brX, wyX, paX, trX, asX, gdX, lnX, lkX, lpX, lwcX, tyX, jyX, mkX, dzX, cpX, taX, glX, t1X, spX, dgX, kpX, mlawX, mvX, meX, mlX, mfaX, stX, hvX, pwX, btX, sgX, mlsX, jdX, tdX, dsX, enX, mftX, ldrX, wmX, maX, lwX, lrX, mrX, feX, ngX, trsX, dysX, gnX, t9X, spmX, kpmX, udX, Bool.or_eq_true, Bool.and_eq_true, decide_eq_true_eq, decide_eq_false_iff_not, beq_iff_eq, Bool.or_eq_false_iff, Bool.and_eq_false_iff, beq_eq_false_iff_ne]; omega)
        exact law_c17 (by decide) (by decide) hi a b fin
      · obtain rfl : tt = 638 := by simpa using htt.symm
        obtain ⟨a, b⟩ := pop p3_relF h (k18 (sc := sc) (a := sv sc (i + 1)) (b := sv sc (i + 2)) (c := sv sc (i + 3)) (d := sv sc (i + 4)) (e := sv sc (i + 5)) h.1) (fun t1 K => (m18 (sc := sc) (a := sv sc (i + 1)) (b := sv sc (i + 2)) (c := sv sc (i + 3)) (d := sv sc (i + 4)) (e := sv sc (i + 5)) K)) sw18 sm18 (fun r j q => by revert q; simp only [p3_Y, lawX, eX, lX, pX, fX, snX, brX, wyX, paX, trX, asX, gdX, lnX, lkX, lpX, lwcX, tyX, jyX, mkX, dzX, cpX, taX, glX, t1X, spX, dgX, kpX, mlawX, mvX, meX, mlX, mfaX, stX, hvX, pwX, btX, sgX, mlsX, jdX, tdX, dsX, enX, mftX, ldrX, wmX, maX, lwX, lrX, mrX, feX, ngX, trsX, dysX, gnX, t9X, spmX, kpmX, udX, Bool.or_eq_true, Bool.and_eq_true, decide_eq_true_eq, decide_eq_false_iff_not, beq_iff_eq, Bool.or_eq_false_iff, Bool.and_eq_false_iff, beq_eq_false_iff_ne]; omega) (fun r j q => by revert q; simp only [p3_Y, lawX, eX, lX, pX, fX, snX, brX, wyX, paX, trX, asX, gdX, lnX, lkX, lpX, lwcX, tyX, jyX, mkX, dzX, cpX, taX, glX, t1X, spX, dgX, kpX, mlawX, mvX, meX, mlX, mfaX, stX, hvX, pwX, btX, sgX, mlsX, jdX, tdX, dsX, enX, mftX, ldrX, wmX, maX, lwX, lrX, mrX, feX, ngX, trsX, dysX, gnX, t9X, spmX, kpmX, udX, Bool.or_eq_true, Bool.and_eq_true, decide_eq_true_eq, decide_eq_false_iff_not, beq_iff_eq, Bool.or_eq_false_iff, Bool.and_eq_false_iff, beq_eq_false_iff_ne]; omega)
        exact law_c18 (by decide) (by decide) hi a b fin
      · obtain rfl : tt = 695 := by simpa using htt.symm
        obtain ⟨a, b⟩ := pop p3_relF h (k19 (sc := sc) (a := sv sc (i + 1)) (b := sv sc (i + 2)) (c := sv sc (i + 3)) (d := sv sc (i + 4)) (e := sv sc (i + 5)) h.1) (fun t1 K => (m19 (sc := sc) (a := sv sc (i + 1)) (b := sv sc (i + 2)) (c := sv sc (i + 3)) (d := sv sc (i + 4)) (e := sv sc (i + 5)) K)) sw19 sm19 (fun r j q => by revert q; simp only [p3_Y, lawX, eX, lX, pX, fX, snX, brX, wyX, paX, trX, asX, gdX, lnX, lkX, lpX, lwcX, tyX, jyX, mkX, dzX, cpX, taX, glX, t1X, spX, dgX, kpX, mlawX, mvX, meX, mlX, mfaX, stX, hvX, pwX, btX, sgX, mlsX, jdX, tdX, dsX, enX, mftX, ldrX, wmX, maX, lwX, lrX, mrX, feX, ngX, trsX, dysX, gnX, t9X, spmX, kpmX, udX, Bool.or_eq_true, Bool.and_eq_true, decide_eq_true_eq, decide_eq_false_iff_not, beq_iff_eq, Bool.or_eq_false_iff, Bool.and_eq_false_iff, beq_eq_false_iff_ne]; omega) (fun r j q => by revert q; simp only [p3_Y, lawX, eX, lX, pX, fX, snX, brX, wyX, paX, trX, asX, gdX, lnX, lkX, lpX, lwcX, tyX, jyX, mkX, dzX, cpX, taX, glX, t1X, spX, dgX, kpX, mlawX, mvX, meX, mlX, mfaX, stX, hvX, pwX, btX, sgX, mlsX, jdX, tdX, dsX, enX, mftX, ldrX, wmX, maX, lwX, lrX, mrX, feX, ngX, trsX, dysX, gnX, t9X, spmX, kpmX, udX, Bool.or_eq_true, Bool.and_eq_true, decide_eq_true_eq, decide_eq_false_iff_not, beq_iff_eq, Bool.or_eq_false_iff, Bool.and_eq_false_iff, beq_eq_false_iff_ne]; omega)
        exact law_c19 (by decide) (by decide) hi a b fin
      · obtain rfl : tt = 752 := by simpa using htt.symm
        obtain ⟨a, b⟩ := pop p3_relF h ((k20 (sc := sc) (m := sv sc (i + 1)) (w := sv sc (i + 2)) h.1).mono (fun _ _ q => q.1)) (fun t1 K => ((m20 (sc := sc) (m := sv sc (i + 1)) (w := sv sc (i + 2)) K).mono (fun _ _ q => q.1))) sw20 sm20 (fun r j q => by revert q; simp only [p3_Y, lawX, eX, lX, pX, fX, snX, brX, wyX, paX, trX, asX, gdX, lnX, lkX, lpX, lwcX, tyX, jyX, mkX, dzX, cpX, taX, glX, t1X, spX, dgX, kpX, mlawX, mvX, meX, mlX, mfaX, stX, hvX, pwX, btX, sgX, mlsX, jdX, tdX, dsX, enX, mftX, ldrX, wmX, maX, lwX, lrX, mrX, feX, ngX, trsX, dysX, gnX, t9X, spmX, kpmX, udX, Bool.or_eq_true, Bool.and_eq_true, decide_eq_true_eq, decide_eq_false_iff_not, beq_iff_eq, Bool.or_eq_false_iff, Bool.and_eq_false_iff, beq_eq_false_iff_ne]; omega) (fun r j q => by revert q; simp only [p3_Y, lawX, eX, lX, pX, fX, snX, brX, wyX, paX, trX, asX, gdX, lnX, lkX, lpX, lwcX, tyX, jyX, mkX, dzX, cpX, taX, glX, t1X, spX, dgX, kpX, mlawX, mvX, meX, mlX, mfaX, stX, hvX, pwX, btX, sgX, mlsX, jdX, tdX, dsX, enX, mftX, ldrX, wmX, maX, lwX, lrX, mrX, feX, ngX, trsX, dysX, gnX, t9X, spmX, kpmX, udX, Bool.or_eq_true, Bool.and_eq_true, decide_eq_true_eq, decide_eq_false_iff_not, beq_iff_eq, Bool.or_eq_false_iff, Bool.and_eq_false_iff, beq_eq_false_iff_ne]; omega)
        exact law_c20 (by decide) (by decide) hi a b fin
      · obtain rfl : tt = 779 := by simpa using htt.symm
        obtain ⟨a, b⟩ := pop p3_relF h (k21 (sc := sc) (a := sv sc (i + 1)) (b := sv sc (i + 2)) (c := sv sc (i + 3)) (d := sv sc (i + 4)) h.1) (fun t1 K => (m21 (sc := sc) (a := sv sc (i + 1)) (b := sv sc (i + 2)) (c := sv sc (i + 3)) (d := sv sc (i + 4)) K)) sw21 sm21 (fun r j q => by revert q; simp only [p3_Y, lawX, eX, lX, pX, fX, snX, brX, wyX, paX, trX, asX, gdX, lnX, lkX, lpX, lwcX, tyX, jyX, mkX, dzX, cpX, taX, glX, t1X, spX, dgX, kpX, mlawX, mvX, meX, mlX, mfaX, stX, hvX, pwX, btX, sgX, mlsX, jdX, tdX, dsX, enX, mftX, ldrX, wmX, maX, lwX, lrX, mrX, feX, ngX, trsX, dysX, gnX, t9X, spmX, kpmX, udX, Bool.or_eq_true, Bool.and_eq_true, decide_eq_true_eq, decide_eq_false_iff_not, beq_iff_eq, Bool.or_eq_false_iff, Bool.and_eq_false_iff, beq_eq_false_iff_ne]; omega) (fun r j q => by revert q; simp only [p3_Y, lawX, eX, lX, pX, fX, snX, brX, wyX, paX, trX, asX, gdX, lnX, lkX, lpX, lwcX, tyX, jyX, mkX, dzX, cpX, taX, glX, t1X, spX, dgX, kpX, mlawX, mvX, meX, mlX, mfaX, stX, hvX, pwX, btX, sgX, mlsX, jdX, tdX, dsX, enX, mftX, ldrX, wmX, maX, lwX, lrX, mrX, feX, ngX, trsX, dysX, gnX, t9X, spmX, kpmX, udX, Bool.or_eq_true, Bool.and_eq_true, decide_eq_true_eq, decide_eq_false_iff_not, beq_iff_eq, Bool.or_eq_false_iff, Bool.and_eq_false_iff, beq_eq_false_iff_ne]; omega)
        exact law_c21 (by decide) (by decide) hi a b fin
      · obtain rfl : tt = 826 := by simpa using htt.symm
        obtain ⟨a, b⟩ := pop p3_relF h ((k22 (sc := sc) (n := sv sc (i + 1)) (w := sv sc (i + 2)) h.1).mono (fun _ _ q => q.1)) (fun t1 K => ((m22 (sc := sc) (n := sv sc (i + 1)) (w := sv sc (i + 2)) K).mono (fun _ _ q => q.1))) sw22 sm22 (fun r j q => by revert q; simp only [p3_Y, lawX, eX, lX, pX, fX, snX, brX, wyX, paX, trX, asX, gdX, lnX, lkX, lpX, lwcX, tyX, jyX, mkX, dzX, cpX, taX, glX, t1X, spX, dgX, kpX, mlawX, mvX, meX, mlX, mfaX, stX, hvX, pwX, btX, sgX, mlsX, jdX, tdX, dsX, enX, mftX, ldrX, wmX, maX, lwX, lrX, mrX, feX, ngX, trsX, dysX, gnX, t9X, spmX, kpmX, udX, Bool.or_eq_true, Bool.and_eq_true, decide_eq_true_eq, decide_eq_false_iff_not, beq_iff_eq, Bool.or_eq_false_iff, Bool.and_eq_false_iff, beq_eq_false_iff_ne]; omega) (fun r j q => by revert q; simp only [p3_Y, lawX, eX, lX, pX, fX, snX, brX, wyX, paX, trX, asX, gdX, lnX, lkX, lpX, lwcX, tyX, jyX, mkX, dzX, cpX, taX, glX, t1X, spX, dgX, kpX, mlawX, mvX, meX, mlX, mfaX, stX, hvX, pwX, btX, sgX, mlsX, jdX, tdX, dsX, enX, mftX, ldrX, wmX, maX, lwX, lrX, mrX, feX, ngX, trsX, dysX, gnX, t9X, spmX, kpmX, udX, Bool.or_eq_true, Bool.and_eq_true, decide_eq_true_eq, decide_eq_false_iff_not, beq_iff_eq, Bool.or_eq_false_iff, Bool.and_eq_false_iff, beq_eq_false_iff_ne]; omega)
        exact law_c22 (by decide) (by decide) hi a b fin
      · obtain rfl : tt = 853 := by simpa using htt.symm
        obtain ⟨a, b⟩ := pop p3_relF h (k23 (sc := sc) (a := sv sc (i + 1)) (b := sv sc (i + 2)) h.1) (fun t1 K => (m23 (sc := sc) (a := sv sc (i + 1)) (b := sv sc (i + 2)) K)) sw23 sm23 (fun r j q => by revert q; simp only [p3_Y, lawX, eX, lX, pX, fX, snX, brX, wyX, paX, trX, asX, gdX, lnX, lkX, lpX, lwcX, tyX, jyX, mkX, dzX, cpX, taX, glX, t1X, spX, dgX, kpX, mlawX, mvX, meX, mlX, mfaX, stX, hvX, pwX, btX, sgX, mlsX, jdX, tdX, dsX, enX, mftX, ldrX, wmX, maX, lwX, lrX, mrX, feX, ngX, trsX, dysX, gnX, t9X, spmX, kpmX, udX, Bool.or_eq_true, Bool.and_eq_true, decide_eq_true_eq, decide_eq_false_iff_not, beq_iff_eq, Bool.or_eq_false_iff, Bool.and_eq_false_iff, beq_eq_false_iff_ne]; omega) (fun r j q => by revert q; simp only [p3_Y, lawX, eX, lX, pX, fX, snX, brX, wyX, paX, trX, asX, gdX, lnX, lkX, lpX, lwcX, tyX, jyX, mkX, dzX, cpX, taX, glX, t1X, spX, dgX, kpX, mlawX, mvX, meX, mlX, mfaX, stX, hvX, pwX, btX, sgX, mlsX, jdX, tdX, dsX, enX, mftX, ldrX, wmX, maX, lwX, lrX, mrX, feX, ngX, trsX, dysX, gnX, t9X, spmX, kpmX, udX, Bool.or_eq_true, Bool.and_eq_true, decide_eq_true_eq, decide_eq_false_iff_not, beq_iff_eq, Bool.or_eq_false_iff, Bool.and_eq_false_iff, beq_eq_false_iff_ne]; omega)
        exact law_c23 (by decide) (by decide) hi a b fin
      · obtain rfl : tt = 880 := by simpa using htt.symm
        obtain ⟨a, b⟩ := pop p3_relF h (k24 (sc := sc) (a := sv sc (i + 1)) (b := sv sc (i + 2)) (c := sv sc (i + 3)) h.1) (fun t1 K => (m24 (sc := sc) (a := sv sc (i + 1)) (b := sv sc (i + 2)) (c := sv sc (i + 3)) K)) sw24 sm24 (fun r j q => by revert q; simp only [p3_Y, lawX, eX, lX, pX, fX, snX, brX, wyX, paX, trX, asX, gdX, lnX, lkX, lpX, lwcX, tyX, jyX, mkX, dzX, cpX, taX, glX, t1X, spX, dgX, kpX, mlawX, mvX, meX, mlX, mfaX, stX, hvX, pwX, btX, sgX, mlsX, jdX, tdX, dsX, enX, mftX, ldrX, wmX, maX, lwX, lrX, mrX, feX, ngX, trsX, dysX, gnX, t9X, spmX, kpmX, udX, Bool.or_eq_true, Bool.and_eq_true, decide_eq_true_eq, decide_eq_false_iff_not, beq_iff_eq, Bool.or_eq_false_iff, Bool.and_eq_false_iff, beq_eq_false_iff_ne]; omega) (fun r j q => by revert q; simp only [p3_Y, lawX, eX, lX, pX, fX, snX, brX, wyX, paX, trX, asX, gdX, lnX, lkX, lpX, lwcX, tyX, jyX, mkX, dzX, cpX, taX, glX, t1X, spX, dgX, kpX, mlawX, mvX, meX, mlX, mfaX, stX, hvX, pwX, btX, sgX, mlsX, jdX, tdX, dsX, enX, mftX, ldrX, wmX, maX, lwX, lrX, mrX, feX, ngX, trsX, dysX, gnX, t9X, spmX, kpmX, udX, Bool.or_eq_true, Bool.and_eq_true, decide_eq_true_eq, decide_eq_false_iff_not, beq_iff_eq, Bool.or_eq_false_iff, Bool.and_eq_false_iff, beq_eq_false_iff_ne]; omega)
        exact law_c24 (by decide) (by decide) hi a b fin
      · obtain rfl : tt = 917 := by simpa using htt.symm
        obtain ⟨a, b⟩ := pop p3_relF h (k25 (sc := sc) (a := sv sc (i + 1)) h.1) (fun t1 K => (m25 (sc := sc) (a := sv sc (i + 1)) K)) sw25 sm25 (fun r j q => by revert q; simp only [p3_Y, lawX, eX, lX, pX, fX, snX, brX, wyX, paX, trX, asX, gdX, lnX, lkX, lpX, lwcX, tyX, jyX, mkX, dzX, cpX, taX, glX, t1X, spX, dgX, kpX, mlawX, mvX, meX, mlX, mfaX, stX, hvX, pwX, btX, sgX, mlsX, jdX, tdX, dsX, enX, mftX, ldrX, wmX, maX, lwX, lrX, mrX, feX, ngX, trsX, dysX, gnX, t9X, spmX, kpmX, udX, Bool.or_eq_true, Bool.and_eq_true, decide_eq_true_eq, decide_eq_false_iff_not, beq_iff_eq, Bool.or_eq_false_iff, Bool.and_eq_false_iff, beq_eq_false_iff_ne]; omega) (fun r j q => by revert q; simp only [p3_Y, lawX, eX, lX, pX, fX, snX, brX, wyX, paX, trX, asX, gdX, lnX, lkX, lpX, lwcX, tyX, jyX, mkX, dzX, cpX, taX, glX, t1X, spX, dgX, kpX, mlawX, mvX, meX, mlX, mfaX, stX, hvX, pwX, btX, sgX, mlsX, jdX, tdX, dsX, enX, mftX, ldrX, wmX, maX, lwX, lrX, mrX, feX, ngX, trsX, dysX, gnX, t9X, spmX, kpmX, udX, Bool.or_eq_true, Bool.and_eq_true, decide_eq_true_eq, decide_eq_false_iff_not, beq_iff_eq, Bool.or_eq_false_iff, Bool.and_eq_false_iff, beq_eq_false_iff_ne]; omega)
        exact law_c25 (by decide) (by decide) hi a b fin
      · obtain rfl : tt = 934 := by simpa using htt.symm
        obtain ⟨a, b⟩ := pop p3_relF h ((k26 (sc := sc) h.1).mono (fun _ _ q => q.1)) (fun t1 K => ((m26 (sc := sc) K).mono (fun _ _ q => q.1))) sw26 sm26 (fun r j q => by revert q; simp only [p3_Y, lawX, eX, lX, pX, fX, snX, brX, wyX, paX, trX, asX, gdX, lnX, lkX, lpX, lwcX, tyX, jyX, mkX, dzX, cpX, taX, glX, t1X, spX, dgX, kpX, mlawX, mvX, meX, mlX, mfaX, stX, hvX, pwX, btX, sgX, mlsX, jdX, tdX, dsX, enX, mftX, ldrX, wmX, maX, lwX, lrX, mrX, feX, ngX, trsX, dysX, gnX, t9X, spmX, kpmX, udX, Bool.or_eq_true, Bool.and_eq_true, decide_eq_true_eq, decide_eq_false_iff_not, beq_iff_eq, Bool.or_eq_false_iff, Bool.and_eq_false_iff, beq_eq_false_iff_ne]; omega) (fun r j q => by revert q; simp only [p3_Y, lawX, eX, lX, pX, fX, snX, brX, wyX, paX, trX, asX, gdX, lnX, lkX, lpX, lwcX, tyX, jyX, mkX, dzX, cpX, taX, glX, t1X, spX, dgX, kpX, mlawX, mvX, meX, mlX, mfaX, stX, hvX, pwX, btX, sgX, mlsX, jdX, tdX, dsX, enX, mftX, ldrX, wmX, maX, lwX, lrX, mrX, feX, ngX, trsX, dysX, gnX, t9X, spmX, kpmX, udX, Bool.or_eq_true, Bool.and_eq_true, decide_eq_true_eq, decide_eq_false_iff_not, beq_iff_eq, Bool.or_eq_false_iff, Bool.and_eq_false_iff, beq_eq_false_iff_ne]; omega)
        exact law_c26 (by decide) (by decide) hi a b fin
      · obtain rfl : tt = 941 := by simpa using htt.symm
        obtain ⟨a, b⟩ := pop p3_relF h ((k27 (sc := sc) h.1).mono (fun _ _ q => q.1)) (fun t1 K => ((m27 (sc := sc) K).mono (fun _ _ q => q.1))) sw27 sm27 (fun r j q => by revert q; simp only [p3_Y, lawX, eX, lX, pX, fX, snX, brX, wyX, paX, trX, asX, gdX, lnX, lkX, lpX, lwcX, tyX, jyX, mkX, dzX, cpX, taX, glX, t1X, spX, dgX, kpX, mlawX, mvX, meX, mlX, mfaX, stX, hvX, pwX, btX, sgX, mlsX, jdX, tdX, dsX, enX, mftX, ldrX, wmX, maX, lwX, lrX, mrX, feX, ngX, trsX, dysX, gnX, t9X, spmX, kpmX, udX, Bool.or_eq_true, Bool.and_eq_true, decide_eq_true_eq, decide_eq_false_iff_not, beq_iff_eq, Bool.or_eq_false_iff, Bool.and_eq_false_iff, beq_eq_false_iff_ne]; omega) (fun r j q => by revert q; simp only [p3_Y, lawX, eX, lX, pX, fX, snX, brX, wyX, paX, trX, asX, gdX, lnX, lkX, lpX, lwcX, tyX, jyX, mkX, dzX, cpX, taX, glX, t1X, spX, dgX, kpX, mlawX, mvX, meX, mlX, mfaX, stX, hvX, pwX, btX, sgX, mlsX, jdX, tdX, dsX, enX, mftX, ldrX, wmX, maX, lwX, lrX, mrX, feX, ngX, trsX, dysX, gnX, t9X, spmX, kpmX, udX, Bool.or_eq_true, Bool.and_eq_true, decide_eq_true_eq, decide_eq_false_iff_not, beq_iff_eq, Bool.or_eq_false_iff, Bool.and_eq_false_iff, beq_eq_false_iff_ne]; omega)
        exact law_c27 (by decide) (by decide) hi a b fin
      · obtain rfl : tt = 948 := by simpa using htt.symm
        obtain ⟨a, b⟩ := pop p3_relF h ((k28 (sc := sc) (n := sv sc (i + 1)) h.1).mono (fun _ _ q => q.1)) (fun t1 K => ((m28 (sc := sc) (n := sv sc (i + 1)) K).mono (fun _ _ q => q.1))) sw28 sm28 (fun r j q => by revert q; simp only [p3_Y, lawX, eX, lX, pX, fX, snX, brX, wyX, paX, trX, asX, gdX, lnX, lkX, lpX, lwcX, tyX, jyX, mkX, dzX, cpX, taX, glX, t1X, spX, dgX, kpX, mlawX, mvX, meX, mlX, mfaX, stX, hvX, pwX, btX, sgX, mlsX, jdX, tdX, dsX, enX, mftX, ldrX, wmX, maX, lwX, lrX, mrX, feX, ngX, trsX, dysX, gnX, t9X, spmX, kpmX, udX, Bool.or_eq_true, Bool.and_eq_true, decide_eq_true_eq, decide_eq_false_iff_not, beq_iff_eq, Bool.or_eq_false_iff, Bool.and_eq_false_iff, beq_eq_false_iff_ne]; omega) (fun r j q => by revert q; simp only [p3_Y, lawX, eX, lX, pX, fX, snX, brX, wyX, paX, trX, asX, gdX, lnX, lkX, lpX, lwcX, tyX, jyX, mkX, dzX, cpX, taX, glX, t1X, spX, dgX, kpX, mlawX, mvX, meX, mlX, mfaX, stX, hvX, pwX, btX, sgX, mlsX, jdX, tdX, dsX, enX, mftX, ldrX, wmX, maX, lwX, lrX, mrX, feX, ngX, trsX, dysX, gnX, t9X, spmX, kpmX, udX, Bool.or_eq_true, Bool.and_eq_true, decide_eq_true_eq, decide_eq_false_iff_not, beq_iff_eq, Bool.or_eq_false_iff, Bool.and_eq_false_iff, beq_eq_false_iff_ne]; omega)
        exact law_c28 (by decide) (by decide) hi a b fin
      · obtain rfl : tt = 965 := by simpa using htt.symm
        obtain ⟨a, b⟩ := pop p3_relF h ((k29 (sc := sc) (w := sv sc (i + 1)) (hy_Ri _) h.1).mono (fun _ _ q => q.1)) (fun t1 K => ((m29 (sc := sc) (w := sv sc (i + 1)) K).mono (fun _ _ q => q.1))) sw29 sm29 (fun _ _ _ => rfl) (fun _ _ _ => rfl)
        exact law_c29 (by decide) (by decide) hi a b fin
      · obtain rfl : tt = 982 := by rw [if_pos (.inr hb)] at htt; exact htt
        exact fin t h
  exact main sc.length 0 t0 (by omega) (by omega) p3_0
