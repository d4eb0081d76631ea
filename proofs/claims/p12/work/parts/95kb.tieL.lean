/-! answers: bits, what is seen, as what it appears, what it is worth -/
theorem fz_shl0 (k : Int) : hz_ishl 0 k = 0 := by
  unfold hz_ishl
  rw [show Int32.ofInt 0 = 0 from rfl, Int32.zero_shiftLeft]
  rfl
theorem fz_or0 {x : Int} (h : 0 ≤ x ∧ x ≤ 2147483647) : hz_ior x 0 = x := by
  rw [hz_ior_n h (by decide)]
  simp
  omega
/-- two sets of the twelve colours with the same bits are one -/
theorem bits_ext {x y : Int} (hx : 0 ≤ x ∧ x ≤ 4095) (hy : 0 ≤ y ∧ y ≤ 4095) (h : ∀ j : Nat, j < 12 → hz_b x j = hz_b y j) : x = y := by
  have e : x.toNat = y.toNat := by
    apply Nat.eq_of_testBit_eq
    intro j
    by_cases hj : j < 12
    · have := h j hj
      rw [hz_b_n (by omega) (by omega), hz_b_n (by omega) (by omega), Int.toNat_natCast] at this
      exact this
    · have p : 2 ^ 12 ≤ 2 ^ j := Nat.pow_le_pow_right (by decide) (by omega)
      rw [Nat.testBit_lt_two_pow (by omega), Nat.testBit_lt_two_pow (by omega)]
  omega
/-- a set that may get one more -/
theorem bit_may {w : Int} (hw : 0 ≤ w ∧ w ≤ 4095) {c : Nat} (hc : c < 12) (p : Bool) : (0 ≤ hz_ior w (hz_ishl (hy_b p) c) ∧ hz_ior w (hz_ishl (hy_b p) c) ≤ 4095) ∧ ∀ j : Nat, j < 12 → hz_b (hz_ior w (hz_ishl (hy_b p) c)) j = (hz_b w j || (decide (c = j) && p)) := by
  cases p with
  | true =>
    have := bit_set hw (c := (c : Int)) (by omega)
    rw [Int.toNat_natCast] at this
    refine ⟨this.1, fun j hj => ?_⟩
    rw [Bool.and_true]
    exact this.2 j hj
  | false =>
    rw [show hy_b false = 0 from rfl, fz_shl0, fz_or0 (by omega)]
    refine ⟨hw, fun j hj => ?_⟩
    rw [Bool.and_false, Bool.or_false]
theorem had_bits (hv : Nat → Int) (e q : Int) : ∀ n : Nat, n ≤ 12 → (0 ≤ sp_hadN hv e q n ∧ sp_hadN hv e q n ≤ 4095) ∧ ∀ j : Nat, j < 12 → hz_b (sp_hadN hv e q n) j = (decide (j < n) && hz_b (sp_hav hv j q) e)
  | 0, _ => ⟨by simp [sp_hadN], fun j hj => by
    show hz_b 0 j = _
    rw [hz_b_0, decide_eq_false (by omega), Bool.false_and]⟩
  | n + 1, hn => by
    obtain ⟨a1, a2⟩ := had_bits hv e q n (by omega)
    obtain ⟨b1, b2⟩ := bit_may a1 (c := n) (by omega) (hz_b (sp_hav hv n q) e)
    refine ⟨b1, fun j hj => ?_⟩
    show hz_b (hz_ior (sp_hadN hv e q n) (hz_ishl (hy_b (hz_b (sp_hav hv n q) e)) n)) j = _
    rw [b2 j hj, a2 j hj]
    by_cases h1 : j < n
    · rw [decide_eq_true h1, decide_eq_true (show j < n + 1 by omega), decide_eq_false (show ¬ n = j by omega)]
      simp
    · by_cases h2 : n = j
      · subst h2
        rw [decide_eq_false h1, decide_eq_true (Nat.lt_succ_self n), decide_eq_true rfl]
        simp
      · rw [decide_eq_false h1, decide_eq_false (show ¬ j < n + 1 by omega), decide_eq_false h2]
        simp
/-- what seeing rests on, alike in a heap of the class and a heap of the model -/
def fe (t u : hy_T) : Prop := ((∀ c : Nat, c < 12 → sp_told (t 5 3) c = mf_mixed u c ∧ (mf_mixed u c = true → (t 6 c = u 60 c ∧ t 7 c = u 61 c) ∧ (0 ≤ u 60 c ∧ u 60 c < c) ∧ 0 ≤ u 61 c ∧ u 61 c < c)) ∧ t 33 4 = u 59 2) ∧ (∀ (V V' : Nat → Int) (k : Int) (s : Bool), (∀ j, j < 10 → V j = V' j) → mb_holds u V' k s = if rc_has t k = true then lc_hold t V k else s) ∧ ∀ V V' : Nat → Int, (∀ j, j < 10 → V j = V' j) → mb_amt u V' 118 99 = lc_amt t V 118 99
theorem fr_fe {X : Nat → Nat → Bool} {t t1 : hy_T} (h : fr t) (m : mK t) (F : hy_F X t t1) (hX : ∀ r j, 59 ≤ r → X r j = false) : fe t t1 := by
  have hl : ∀ r j, mlawX r j = true → X r j = false := fun r j q => hX r j (by revert q; simp only [mlawX, Bool.or_eq_true, Bool.and_eq_true, decide_eq_true_eq, decide_eq_false_iff_not, beq_iff_eq, Bool.or_eq_false_iff, Bool.and_eq_false_iff, beq_eq_false_iff_ne]; omega)
  refine ⟨⟨fun c hc => ?_, by rw [F 59 2 (hX 59 2 (by decide))]; exact h.2.2.1.1.1.2.1⟩, fun V V' k s hV => ?_, fun V V' hV => ?_⟩
  · have em : mf_mixed t1 c = mf_mixed t c := by
      unfold mf_mixed
      rw [F 59 0 (hX 59 0 (by decide)), F 60 _ (hX 60 _ (by decide))]
    obtain ⟨a1, a2⟩ := h.1.2.1.2 c hc
    have e0 : sp_told (t 5 3) c = mf_mixed t c := by
      unfold mf_mixed sp_told
      rw [decide_eq_true (show 0 ≤ (c : Int) ∧ (c : Int) < 12 by omega), Bool.true_and, Bool.true_and, Int.toNat_natCast, ← h.1.2.1.1.1, a1]
      rw [a1] at a2
      by_cases h6 : t 60 c = -1
      · simp [h6]
      · rw [decide_eq_true h6] at a2 ⊢
        rw [a2 rfl]
        rfl
    rw [em]
    refine ⟨e0, fun hm => ?_⟩
    have hb : hz_b (t 5 3) c = true := by
      rw [← e0] at hm
      unfold sp_told at hm
      rw [Bool.and_eq_true] at hm
      exact hm.2
    have hp := (m.pal c hc).2 hm
    rw [F 60 c (hX 60 c (by decide)), F 61 c (hX 61 c (by decide))]
    exact ⟨h.1.2.2 c hc hb, hp⟩
  · rw [mb_holds_F F hl]
    exact fl_hold h.2.1.2 m.ml hV k s
  · rw [mb_amt_F F hl]
    exact fl_amt h.2.1.2 m.ml hV (.inr rfl) (by decide)
theorem mixed_not_plain {u : hy_T} {c : Int} (h : mf_mixed u c = true) : mf_plain u c = false := by
  cases e : mf_plain u c with
  | false => rfl
  | true =>
    rw [mixed_plain e] at h
    cases h
/-- what is seen, if these plain ones are -/
theorem fe_seenN {t u : hy_T} (h : fe t u) {e q plain : Int} (hp : 0 ≤ plain ∧ plain ≤ 4095) (hb : ∀ j : Nat, j < 12 → hz_b plain j = (mf_plain u j && hz_b (u 62 (4 * (j : Int) + q).toNat) e)) : ∀ n : Nat, n ≤ 12 →
    (0 ≤ sp_seenN t e q plain n ∧ sp_seenN t e q plain n ≤ 4095) ∧ (0 ≤ mq_seenN u e q n ∧ mq_seenN u e q n ≤ 4095) ∧ (∀ j : Nat, j < 12 → hz_b (sp_seenN t e q plain n) j = if j < n then hz_b (mq_seenN u e q n) j else hz_b plain j) ∧ ∀ j : Nat, j < 12 → n ≤ j → hz_b (mq_seenN u e q n) j = false
  | 0, _ => ⟨hp, by simp [mq_seenN], fun j hj => by rw [if_neg (by omega)]; rfl, fun j hj _ => hz_b_0 j⟩
  | n + 1, hn => by
    obtain ⟨a1, a2, a3, a4⟩ := fe_seenN h hp hb n (by omega)
    obtain ⟨⟨hpal, hday⟩, hlaw, -⟩ := h
    obtain ⟨p1, p2⟩ := hpal n (by omega)
    -- the model's step
    have em : mq_seenN u e q (n + 1) = if mq_isSeen u e n q (mq_seenN u e q n) = true then hz_ior (mq_seenN u e q n) (hz_ishl 1 n) else mq_seenN u e q n := rfl
    have mbit : (0 ≤ mq_seenN u e q (n + 1) ∧ mq_seenN u e q (n + 1) ≤ 4095) ∧ ∀ j : Nat, j < 12 → hz_b (mq_seenN u e q (n + 1)) j = (hz_b (mq_seenN u e q n) j || (decide (n = j) && mq_isSeen u e n q (mq_seenN u e q n))) := by
      have := bit_may a2 (c := n) (by omega) (mq_isSeen u e n q (mq_seenN u e q n))
      rw [em]
      cases hs : mq_isSeen u e n q (mq_seenN u e q n) with
      | true =>
        rw [hs] at this
        rw [if_pos rfl]
        exact this
      | false =>
        rw [if_neg (by decide)]
        exact ⟨a2, fun j hj => by simp⟩
    have fin : ∀ x : Int, (0 ≤ x ∧ x ≤ 4095) → (∀ j : Nat, j < 12 → hz_b x j = if j = n then mq_isSeen u e n q (mq_seenN u e q n) else hz_b (sp_seenN t e q plain n) j) → sp_seenN t e q plain (n + 1) = x → (0 ≤ sp_seenN t e q plain (n + 1) ∧ sp_seenN t e q plain (n + 1) ≤ 4095) ∧ (0 ≤ mq_seenN u e q (n + 1) ∧ mq_seenN u e q (n + 1) ≤ 4095) ∧ (∀ j : Nat, j < 12 → hz_b (sp_seenN t e q plain (n + 1)) j = if j < n + 1 then hz_b (mq_seenN u e q (n + 1)) j else hz_b plain j) ∧ ∀ j : Nat, j < 12 → n + 1 ≤ j → hz_b (mq_seenN u e q (n + 1)) j = false := fun x hx hxb ex => by
      refine ⟨by rw [ex]; exact hx, mbit.1, fun j hj => ?_, fun j hj hnj => ?_⟩
      · rw [ex, hxb j hj, mbit.2 j hj]
        by_cases hjn : j = n
        · rw [if_pos hjn, if_pos (by omega), a4 j hj (by omega), decide_eq_true hjn.symm]
          simp
        · rw [if_neg hjn, a3 j hj]
          by_cases hlt : j < n
          · rw [if_pos hlt, if_pos (by omega), decide_eq_false (show ¬ n = j by omega)]
            simp
          · rw [if_neg hlt, if_neg (by omega)]
      · rw [mbit.2 j hj, a4 j hj (by omega), decide_eq_false (show ¬ n = j by omega)]
        rfl
    by_cases hm : mf_mixed u n = true
    · obtain ⟨⟨r1, r2⟩, ⟨r3, r4⟩, r5, r6⟩ := p2 hm
      rw [hm] at p1
      have s6 : hz_b (sp_seenN t e q plain n) (t 6 n) = hz_b (mq_seenN u e q n) (u 60 n) := by
        have := a3 (u 60 n).toNat (by omega)
        rw [if_pos (by omega), show (((u 60 n).toNat : Nat) : Int) = u 60 n by omega] at this
        rw [r1]
        exact this
      have s7 : hz_b (sp_seenN t e q plain n) (t 7 n) = hz_b (mq_seenN u e q n) (u 61 n) := by
        have := a3 (u 61 n).toNat (by omega)
        rw [if_pos (by omega), show (((u 61 n).toNat : Nat) : Int) = u 61 n by omega] at this
        rw [r2]
        exact this
      have pl0 : hz_b (sp_seenN t e q plain n) n = false := by
        rw [a3 n (by omega), if_neg (Nat.lt_irrefl n), hb n (by omega), mixed_not_plain hm]
        rfl
      have hlw : sp_lawS t e n q (hz_b (sp_seenN t e q plain n) (t 6 n)) (hz_b (sp_seenN t e q plain n) (t 7 n)) = mq_isSeen u e n q (mq_seenN u e q n) := by
        rw [s6, s7]
        unfold sp_lawS mq_isSeen
        rw [if_pos hm, Int.toNat_natCast]
        refine (hlaw _ _ 115 _ (fun j hj => ?_)).symm
        unfold mq_V
        rw [hm, if_pos rfl, hday]
        rfl
      obtain ⟨b1, b2⟩ := bit_may a1 (c := n) (by omega) (mq_isSeen u e n q (mq_seenN u e q n))
      refine fin (hz_ior (sp_seenN t e q plain n) (hz_ishl (hy_b (mq_isSeen u e n q (mq_seenN u e q n))) n)) b1 (fun j hj => ?_) ?_
      · rw [b2 j hj]
        by_cases hjn : j = n
        · rw [if_pos hjn, hjn, pl0, decide_eq_true rfl]
          simp
        · rw [if_neg hjn, decide_eq_false (show ¬ n = j by omega)]
          simp
      · simp only [sp_seenN]
        rw [if_pos p1, hlw]
        cases mq_isSeen u e n q (mq_seenN u e q n) with
        | true => rw [if_pos rfl]; rfl
        | false => rw [if_neg (by decide), show hy_b false = 0 from rfl, fz_shl0]
    · have hm' : mf_mixed u n = false := by simpa using hm
      rw [hm'] at p1
      refine fin (sp_seenN t e q plain n) a1 (fun j hj => ?_) ?_
      · by_cases hjn : j = n
        · rw [if_pos hjn, hjn, a3 n (by omega), if_neg (Nat.lt_irrefl n), hb n (by omega)]
          unfold mq_isSeen
          rw [if_neg hm]
        · rw [if_neg hjn]
      · simp only [sp_seenN]
        rw [if_neg (by rw [p1]; decide)]
theorem fe_seen {t u : hy_T} (h : fe t u) {e q plain : Int} (hp : 0 ≤ plain ∧ plain ≤ 4095) (hb : ∀ j : Nat, j < 12 → hz_b plain j = (mf_plain u j && hz_b (u 62 (4 * (j : Int) + q).toNat) e)) : sp_seenN t e q plain 12 = mq_seenN u e q 12 ∧ 0 ≤ mq_seenN u e q 12 ∧ mq_seenN u e q 12 ≤ 4095 := by
  obtain ⟨a1, a2, a3, -⟩ := fe_seenN h hp hb 12 (Nat.le_refl _)
  exact ⟨bits_ext a1 a2 (fun j hj => by rw [a3 j hj, if_pos hj]), a2⟩
/-- a heap of the class and one of the model that show the same -/
def fv (t u : hy_T) : Prop := fe t u ∧ (∀ j : Nat, j < 48 → t 34 j = u 62 j) ∧ fh u ∧ ∀ f : Nat, f < 64 → t 9 f = u 63 f ∧ t 35 f = u 64 f
theorem fr_fv {X : Nat → Nat → Bool} {t t1 : hy_T} (h : fr t) (m : mK t) (F : hy_F X t t1) (hX : ∀ r j, 59 ≤ r → X r j = false) : fv t t1 := by
  refine ⟨fr_fe h m F hX, fun j hj => ?_, fh_F h.2.2.1.2.1.1 (fun j => F 62 j (hX 62 j (by decide))) (F 59 0 (hX 59 0 (by decide))) (fun j => F 60 j (hX 60 j (by decide))), fun f hf => ?_⟩
  · rw [F 62 j (hX 62 j (by decide))]
    exact h.2.2.1.1.2.1 j hj
  · rw [F 63 f (hX 63 f (by decide)), F 64 f (hX 64 f (by decide))]
    exact ⟨h.2.1.1.1 f hf, h.2.2.1.2.2 f hf⟩
/-- what empires have, as a set, on both sides -/
theorem fv_had {t u : hy_T} (h : fv t u) {e q : Int} (hq : 0 ≤ q ∧ q < 4) : (0 ≤ sp_hadN (t 34) e q 12 ∧ sp_hadN (t 34) e q 12 ≤ 4095) ∧ ∀ j : Nat, j < 12 → hz_b (sp_hadN (t 34) e q 12) j = (mf_plain u j && hz_b (u 62 (4 * (j : Int) + q).toNat) e) := by
  obtain ⟨a1, a2⟩ := had_bits (t 34) e q 12 (Nat.le_refl _)
  refine ⟨a1, fun j hj => ?_⟩
  have ehav : sp_hav (t 34) j q = u 62 (4 * (j : Int) + q).toNat := by
    unfold sp_hav
    rw [if_pos (by omega)]
    exact h.2.1 _ (by omega)
  rw [a2 j hj, decide_eq_true hj, Bool.true_and, ehav]
  cases hpl : mf_plain u j with
  | true => rw [Bool.true_and]
  | false =>
    have := (h.2.2.1 (4 * (j : Int) + q).toNat (by omega)).2
    rw [show (((4 * (j : Int) + q).toNat / 4 : Nat) : Int) = j by omega] at this
    rw [this hpl, hz_b_0, Bool.false_and]
theorem fv_seen {t u : hy_T} (h : fv t u) {e q : Int} (hq : 0 ≤ q ∧ q < 4) : sp_seen t e q = mq_seenN u e q 12 ∧ 0 ≤ mq_seenN u e q 12 ∧ mq_seenN u e q 12 ≤ 4095 := by
  obtain ⟨a1, a2⟩ := fv_had h hq (e := e)
  exact fe_seen h.1 a1 a2
theorem fr_seen {X : Nat → Nat → Bool} {t t1 : hy_T} (h : fr t) (m : mK t) (F : hy_F X t t1) (hX : ∀ r j, 59 ≤ r → X r j = false) {e q : Int} (hq : 0 ≤ q ∧ q < 4) : sp_seen t e q = mq_seenN t1 e q 12 ∧ 0 ≤ mq_seenN t1 e q 12 ∧ mq_seenN t1 e q 12 ≤ 4095 := fv_seen (fr_fv h m F hX) hq
theorem fr_toldE {X : Nat → Nat → Bool} {t t1 : hy_T} (h : fr t) (F : hy_F X t t1) (hX : ∀ r j, 59 ≤ r → X r j = false) : t1 59 0 = t 5 2 := (F 59 0 (hX 59 0 (by decide))).trans h.1.2.1.1.1.symm
theorem fr_sees {t t1 : hy_T} {a b c : Int} (h : fr t) (m : mK t) (F : hy_F eX t t1) : (if mq_ecq t1 a b c then hy_b (hz_b (mq_seenN t1 a c 12) b) else -1) = wf_sees t a b c := by
  have hX : ∀ r j, 59 ≤ r → eX r j = false := fun r j q => by simp only [eX, Bool.or_eq_true, Bool.and_eq_true, decide_eq_true_eq, decide_eq_false_iff_not, beq_iff_eq, Bool.or_eq_false_iff, Bool.and_eq_false_iff, beq_eq_false_iff_ne]; omega
  unfold wf_sees mq_ecq
  rw [fr_toldE h F hX]
  by_cases hq : (0 ≤ a ∧ a < 6) ∧ sp_told (t 5 2) b = true ∧ 0 ≤ c ∧ c < 4
  · rw [if_pos hq, if_pos hq, (fr_seen h m F hX hq.2.2).1]
  · rw [if_neg hq, if_neg hq]
theorem fe_asN {t u : hy_T} (h : fe t u) (s : Int) (f : Nat → Int) : ∀ n : Nat, n ≤ 12 → ∀ j : Nat, j < n → sp_asN t s f n j = mq_asR u s n j
  | 0, _, j, hj => absurd hj (Nat.not_lt_zero j)
  | n + 1, hn, j, hj => by
    have ih := fe_asN h s f n (by omega)
    obtain ⟨p1, p2⟩ := h.1.1 n (by omega)
    simp only [sp_asN, mq_asR, su]
    by_cases hjn : j = n
    · rw [if_pos hjn, if_pos hjn]
      by_cases hb : hz_b s n = true
      · rw [if_pos hb, if_pos hb]
      · rw [if_neg hb, if_neg hb]
        by_cases hm : mf_mixed u n = true
        · obtain ⟨⟨r1, r2⟩, ⟨r3, r4⟩, r5, r6⟩ := p2 hm
          rw [p1, if_pos hm, if_pos hm, r1, r2]
          have l1 : lk (sp_asN t s f n) (u 60 n) = mq_asR u s n (u 60 n).toNat := by
            unfold lk
            rw [if_pos (by omega)]
            exact ih _ (by omega)
          have l2 : lk (sp_asN t s f n) (u 61 n) = mq_asR u s n (u 61 n).toNat := by
            unfold lk
            rw [if_pos (by omega)]
            exact ih _ (by omega)
          rw [l1, l2]
          by_cases h12 : mq_asR u s n (u 60 n).toNat = 12
          · rw [if_neg (fun q => q h12), if_pos h12]
          · rw [if_pos h12, if_neg h12]
        · rw [p1, if_neg hm, if_neg hm]
    · rw [if_neg hjn, if_neg hjn]
      exact ih j (by omega)
theorem mq_asR12 (u : hy_T) (s : Int) : ∀ n : Nat, n ≤ 12 → mq_asR u s n 12 = 12
  | 0, _ => rfl
  | n + 1, hn => by
    simp only [mq_asR, su]
    rw [if_neg (by omega)]
    exact mq_asR12 u s n (by omega)
theorem fe_lk {t u : hy_T} (h : fe t u) {e q : Int} (hs : sp_seen t e q = mq_seenN u e q 12) {c : Int} (hc : 0 ≤ c ∧ c ≤ 12) : lk (wf_as t e q) c = mq_as u e q c.toNat := by
  unfold wf_as mq_as lk
  rw [hs]
  by_cases h12 : c < 12
  · rw [if_pos (by omega)]
    exact fe_asN h _ _ 12 (Nat.le_refl _) _ (by omega)
  · rw [if_neg (by omega), show c.toNat = 12 by omega, mq_asR12 u _ 12 (Nat.le_refl _)]
theorem fr_appears {t t1 : hy_T} {a b c : Int} (h : fr t) (m : mK t) (F : hy_F lX t t1) : (if (0 ≤ a ∧ a < 6) ∧ (b = 12 ∨ sp_told (t1 59 0) b = true) ∧ 0 ≤ c ∧ c < 4 then mq_as t1 a c b.toNat else -1) = wf_appears t a b c := by
  have hX : ∀ r j, 59 ≤ r → lX r j = false := fun r j q => by simp only [lX, Bool.or_eq_true, Bool.and_eq_true, decide_eq_true_eq, decide_eq_false_iff_not, beq_iff_eq, Bool.or_eq_false_iff, Bool.and_eq_false_iff, beq_eq_false_iff_ne]; omega
  unfold wf_appears
  rw [fr_toldE h F hX]
  by_cases hq : (0 ≤ a ∧ a < 6) ∧ (sp_told (t 5 2) b = true ∨ b = 12) ∧ 0 ≤ c ∧ c < 4
  · rw [if_pos hq, if_pos ⟨hq.1, hq.2.1.symm, hq.2.2⟩]
    have hb : 0 ≤ b ∧ b ≤ 12 := by
      rcases hq.2.1 with x | x
      · have := sp_told_in x
        omega
      · omega
    exact (fe_lk (fr_fe h m F hX) (fr_seen h m F hX hq.2.2).1 hb).symm
  · rw [if_neg hq, if_neg (fun q => hq ⟨q.1, q.2.1.symm, q.2.2⟩)]
theorem fr_unseen {t t1 : hy_T} {a b c d e : Int} (h : fr t) (m : mK t) (F : hy_F lX t t1) : (if ((0 ≤ a ∧ a < 8) ∧ 0 ≤ b ∧ b < 8) ∧ mq_ecq t1 d c e then hy_b (decide (mq_as t1 d e (t1 63 (8 * b + a).toNat).toNat = mq_as t1 d e c.toNat)) else -1) = wf_unseen t a b c d e := by
  have hX : ∀ r j, 59 ≤ r → lX r j = false := fun r j q => by simp only [lX, Bool.or_eq_true, Bool.and_eq_true, decide_eq_true_eq, decide_eq_false_iff_not, beq_iff_eq, Bool.or_eq_false_iff, Bool.and_eq_false_iff, beq_eq_false_iff_ne]; omega
  unfold wf_unseen mq_ecq
  rw [fr_toldE h F hX]
  by_cases hq : ((0 ≤ a ∧ a < 8) ∧ 0 ≤ b ∧ b < 8) ∧ sp_told (t 5 2) c = true ∧ (0 ≤ d ∧ d < 6) ∧ 0 ≤ e ∧ e < 4
  · rw [if_pos hq, if_pos ⟨hq.1, hq.2.2.1, hq.2.1, hq.2.2.2⟩]
    have hc := sp_told_in hq.2.1
    have L := fr_fe h m F hX
    have hs := (fr_seen h m F hX hq.2.2.2 (e := d)).1
    have hf : (8 * b + a).toNat < 64 := by omega
    have e9 : t 9 (8 * b + a).toNat = t1 63 (8 * b + a).toNat := by
      rw [F 63 _ (hX 63 _ (by decide))]
      exact h.2.1.1.1 _ hf
    have hg := m.mg (8 * b + a).toNat hf
    unfold wf_hid
    rw [if_pos (by omega), e9, fe_lk L hs (c := t1 63 (8 * b + a).toNat) (by rw [F 63 _ (hX 63 _ (by decide))]; exact hg), fe_lk L hs (c := c) (by omega)]
  · rw [if_neg hq, if_neg (fun q => hq ⟨q.1, q.2.2.1, q.2.1, q.2.2.2⟩)]
/-- how many colours are had, in words of the class -/
theorem fv_bc {t u : hy_T} (h : fv t u) {c q : Int} (hc : 0 ≤ c ∧ c < 12) (hq : 0 ≤ q ∧ q < 4) : sp_bc (sp_hav (t 34) c q) = if mf_mixed u c = true then 0 else mf_bitsN (u 62 (4 * c + q).toNat) 12 := by
  have hv := h.2.2.1 (4 * c + q).toNat (by omega)
  have ehav : sp_hav (t 34) c q = u 62 (4 * c + q).toNat := by
    unfold sp_hav
    rw [if_pos ⟨hc, hq⟩]
    exact h.2.1 _ (by omega)
  rw [ehav]
  by_cases hm : mf_mixed u c = true
  · rw [if_pos hm]
    have := hv.2
    rw [show (((4 * c + q).toNat / 4 : Nat) : Int) = c by omega] at this
    rw [this (mixed_not_plain hm)]
    decide
  · rw [if_neg hm]
    exact bc_bits' hv.1
theorem fr_child {t t1 : hy_T} {a b c d : Int} (h : fr t) (m : mK t) (F : hy_F eX t t1) : (if (0 ≤ a ∧ a < 6) ∧ mq_ecq t1 b c d then hy_b (mq_child t1 a b c d) else -1) = wf_child t a b c d := by
  have hX : ∀ r j, 59 ≤ r → eX r j = false := fun r j q => by simp only [eX, Bool.or_eq_true, Bool.and_eq_true, decide_eq_true_eq, decide_eq_false_iff_not, beq_iff_eq, Bool.or_eq_false_iff, Bool.and_eq_false_iff, beq_eq_false_iff_ne]; omega
  unfold wf_child mq_ecq
  rw [fr_toldE h F hX]
  by_cases hq : ((0 ≤ a ∧ a < 6) ∧ 0 ≤ b ∧ b < 6) ∧ sp_told (t 5 2) c = true ∧ 0 ≤ d ∧ d < 4
  · rw [if_pos hq, if_pos ⟨hq.1.1, hq.1.2, hq.2⟩]
    have hc := sp_told_in hq.2.1
    have L := fr_fe h m F hX
    have s1 := (fr_seen h m F hX hq.2.2 (e := a)).1
    have s2 := (fr_seen h m F hX hq.2.2 (e := b)).1
    congr 1
    unfold mq_child sp_child
    dsimp only
    rw [s1, s2]
    refine L.2.1 _ _ 107 _ (fun j hj => ?_)
    unfold mq_V
    have p1 := (L.1.1 c.toNat (by omega)).1
    rw [show ((c.toNat : Nat) : Int) = c by omega] at p1
    rw [p1, L.1.2, fv_bc (fr_fv h m F hX) hc hq.2.2]
  · rw [if_neg hq, if_neg (fun q => hq ⟨⟨q.1, q.2.1⟩, q.2.2⟩)]
theorem fv_own {t u : hy_T} (h : fv t u) (e c : Int) : ∀ n : Nat, n ≤ 64 → sp_fields t e c n = mo_ownN u e c n
  | 0, _ => rfl
  | n + 1, hn => by
    simp only [sp_fields, mo_ownN]
    rw [fv_own h e c n (by omega), (h.2.2.2 n (by omega)).1, (h.2.2.2 n (by omega)).2]
    by_cases hq : u 63 n = c ∧ u 64 n = e
    · rw [if_pos hq, if_pos ⟨hq.2, hq.1⟩]
    · rw [if_neg hq, if_neg (fun q => hq ⟨q.2, q.1⟩)]
theorem fv_hav {t u : hy_T} (h : fv t u) {c q : Int} : 0 ≤ sp_hav (t 34) c q ∧ sp_hav (t 34) c q ≤ 63 := by
  unfold sp_hav
  split
  · rw [h.2.1 _ (by omega)]
    exact (h.2.2.1 _ (by omega)).1
  · decide
theorem fv_worthN {t u : hy_T} (h : fv t u) {e q : Int} (hq : 0 ≤ q ∧ q < 4) (s : Int) : ∀ n : Nat, n ≤ 12 → sp_worthN (fun c => sp_price t e q 0 c) s n = mw_worthN u e q s n
  | 0, _ => rfl
  | n + 1, hn => by
    have L := h.1
    simp only [sp_worthN, mw_worthN]
    rw [fv_worthN h hq s n (by omega)]
    congr 1
    unfold mw_one
    rw [← fv_own h e n 64 (by omega)]
    rw [hb_mul]
    by_cases hb : hz_b s n = true
    · rw [if_pos hb, if_pos hb]
      have hle := sp_fields_le t e n 64
      unfold sp_price
      by_cases h0 : sp_fields t e n 64 = 0
      · rw [if_neg (by omega), if_pos h0]
      · rw [if_pos (by omega), if_neg h0]
        congr 1
        unfold sp_priceOf
        have hh := fv_hav h (c := (n : Int)) (q := q)
        rw [hz_b_0, show hy_b false = 0 from rfl, fz_shl0, fz_or0 (by omega), fv_bc h (c := (n : Int)) (by omega) hq]
        refine (L.2.2 _ _ (fun j hj => ?_)).symm
        unfold mq_V
        rw [(L.1.1 n (by omega)).1, L.1.2]
    · rw [if_neg hb, if_neg hb, if_pos rfl]
theorem fv_worth {t u : hy_T} (h : fv t u) {e q : Int} (hq : 0 ≤ q ∧ q < 4) : sp_worth t e q = mw_worth u e q := by
  unfold sp_worth mw_worth
  rw [(fv_seen h hq (e := e)).1, fv_worthN h hq _ 12 (Nat.le_refl _)]
theorem fr_worth {t t1 : hy_T} {a b : Int} (h : fr t) (m : mK t) (F : hy_F pX t t1) : (if (0 ≤ a ∧ a < 6) ∧ 0 ≤ b ∧ b < 4 then mw_worth t1 a b else -1) = wf_worth t a b := by
  have hX : ∀ r j, 59 ≤ r → pX r j = false := fun r j q => by simp only [pX, Bool.or_eq_true, Bool.and_eq_true, decide_eq_true_eq, decide_eq_false_iff_not, beq_iff_eq, Bool.or_eq_false_iff, Bool.and_eq_false_iff, beq_eq_false_iff_ne]; omega
  unfold wf_worth
  by_cases hq : (0 ≤ a ∧ a < 6) ∧ 0 ≤ b ∧ b < 4
  · rw [if_pos hq, if_pos hq]
    exact (fv_worth (fr_fv h m F hX) hq.2).symm
  · rw [if_neg hq, if_neg hq]
/-! paintings -/
theorem sub_key {X W : Int32} (h : X &&& (W ^^^ -1) = 0) : X &&& W = X := by
  apply Int32.toBitVec_inj.mp
  apply BitVec.eq_of_getLsbD_eq
  intro i hi
  have h2 := congrArg (fun z : Int32 => z.toBitVec.getLsbD i) h
  have m1 : (-1 : Int32).toBitVec.getLsbD i = true := by
    have key : ∀ j : Fin 32, (-1 : Int32).toBitVec.getLsbD j.val = true := by decide
    exact key ⟨i, hi⟩
  simp only [Int32.toBitVec_and, Int32.toBitVec_xor, BitVec.getLsbD_and, BitVec.getLsbD_xor, m1] at h2 ⊢
  revert h2
  have z0 : (0 : Int32).toBitVec.getLsbD i = false := by
    have key : ∀ j : Fin 32, (0 : Int32).toBitVec.getLsbD j.val = false := by decide
    exact key ⟨i, hi⟩
  rw [z0]
  cases X.toBitVec.getLsbD i <;> cases W.toBitVec.getLsbD i <;> simp
theorem sub_in {x w : Int} (hx : hy_R x) (hw : 0 ≤ w ∧ w ≤ 4095) (h : hz_iand x (hz_ixor w (-1)) = 0) : 0 ≤ x ∧ x ≤ 4095 := by
  have e : Int32.ofInt x &&& (Int32.ofInt w ^^^ -1) = 0 := by
    have := congrArg Int32.ofInt h
    unfold hz_iand hz_ixor at this
    simp only [Int32.ofInt_toInt] at this
    exact this
  have k := sub_key e
  have k2 : hz_iand x w = x := by
    unfold hz_iand
    rw [k]
    exact hy_ti hx
  have := hz_iand_le (x := x) (m := w) (by omega)
  omega
theorem fr_ptN {t t1 : hy_T} (h : fr t) (m : mK t) (F : hy_F eX t t1) (cs : Int) : ∀ n : Nat, n ≤ 24 → (wf_paintN t cs n).1 = (mq_ptN t1 cs n).1 ∧ (((wf_paintN t cs n).2 = -2 ∧ (mq_ptN t1 cs n).2 = -1) ∨ (0 ≤ (wf_paintN t cs n).2 ∧ (wf_paintN t cs n).2 = (mq_ptN t1 cs n).2))
  | 0, _ => ⟨rfl, .inl ⟨rfl, rfl⟩⟩
  | n + 1, hn => by
    have hX : ∀ r j, 59 ≤ r → eX r j = false := fun r j q => by simp only [eX, Bool.or_eq_true, Bool.and_eq_true, decide_eq_true_eq, decide_eq_false_iff_not, beq_iff_eq, Bool.or_eq_false_iff, Bool.and_eq_false_iff, beq_eq_false_iff_ne]; omega
    obtain ⟨a1, a2⟩ := fr_ptN h m F cs n (by omega)
    have s1 := (fr_seen h m F hX (e := (n : Int) / 4) (q := (n : Int) % 4) (by omega)).1
    simp only [wf_paintN, mq_ptN]
    rw [s1]
    by_cases hc : hz_iand cs (hz_ixor (mq_seenN t1 ((n : Int) / 4) ((n : Int) % 4) 12) (-1)) = 0
    · rw [if_pos hc, if_pos hc]
      refine ⟨by rw [a1], .inr ?_⟩
      rcases a2 with ⟨b1, b2⟩ | ⟨b1, b2⟩
      · rw [b1, b2, if_pos (by decide), if_pos rfl]
        omega
      · rw [if_neg (by omega), if_neg (by omega)]
        exact ⟨b1, b2⟩
    · rw [if_neg hc, if_neg hc]
      exact ⟨a1, a2⟩
theorem fr_painting {t t1 : hy_T} {a b : Int} (hR : hy_R a) (h : fr t) (m : mK t) (F : hy_F eX t t1) : (if (0 ≤ a ∧ a ≤ 4095) ∧ hz_iand a (hz_ixor (t1 59 0) (-1)) = 0 ∧ 0 ≤ b ∧ b ≤ 2 then mq_ptA (mq_ptN t1 a 24) b else -1) = wf_painting t a b := by
  have hX : ∀ r j, 59 ≤ r → eX r j = false := fun r j q => by simp only [eX, Bool.or_eq_true, Bool.and_eq_true, decide_eq_true_eq, decide_eq_false_iff_not, beq_iff_eq, Bool.or_eq_false_iff, Bool.and_eq_false_iff, beq_eq_false_iff_ne]; omega
  unfold wf_painting
  rw [fr_toldE h F hX]
  by_cases hq : hz_iand a (hz_ixor (t 5 2) (-1)) = 0 ∧ 0 ≤ b ∧ b < 3
  · have hin := sub_in hR h.1.2.1.1.2.1 hq.1
    rw [if_pos hq, if_pos ⟨hin, hq.1, hq.2.1, by omega⟩]
    obtain ⟨a1, a2⟩ := fr_ptN h m F a 24 (Nat.le_refl _)
    unfold mq_ptA
    dsimp only
    rw [a1]
    by_cases h0 : b = 0
    · rw [if_pos h0, if_pos h0]
    · rw [if_neg h0, if_neg h0]
      rcases a2 with ⟨b1, b2⟩ | ⟨b1, b2⟩
      · rw [b1, b2, if_pos rfl, if_pos (by decide)]
      · rw [← b2, if_neg (by omega)]
        exact (if_neg (Int.not_lt.mpr b1)).symm
  · rw [if_neg hq, if_neg (fun q => hq ⟨q.2.1, q.2.2.1, by omega⟩)]
/-! counts, treaties as they stand, days that are tried -/
theorem mixN_bits (u : hy_T) : ∀ n : Nat, n ≤ 12 → (0 ≤ mf_mixN u n ∧ mf_mixN u n ≤ 4095) ∧ ∀ j : Nat, j < 12 → hz_b (mf_mixN u n) j = (decide (j < n) && mf_mixed u j)
  | 0, _ => ⟨by simp [mf_mixN], fun j hj => by
    show hz_b 0 j = _
    rw [hz_b_0, decide_eq_false (by omega), Bool.false_and]⟩
  | n + 1, hn => by
    obtain ⟨a1, a2⟩ := mixN_bits u n (by omega)
    obtain ⟨b1, b2⟩ := bit_may a1 (c := n) (by omega) (mf_mixed u n)
    have e : mf_mixN u (n + 1) = hz_ior (mf_mixN u n) (hz_ishl (hy_b (mf_mixed u n)) n) := by
      simp only [mf_mixN]
      cases mf_mixed u n with
      | true => rw [if_pos rfl]; rfl
      | false => rw [if_neg (by decide), show hy_b false = 0 from rfl, fz_shl0]
    rw [e]
    refine ⟨b1, fun j hj => ?_⟩
    rw [b2 j hj, a2 j hj]
    by_cases h1 : j < n
    · rw [decide_eq_true h1, decide_eq_true (show j < n + 1 by omega), decide_eq_false (show ¬ n = j by omega)]
      simp
    · by_cases h2 : n = j
      · subst h2
        rw [decide_eq_false h1, decide_eq_true (Nat.lt_succ_self n), decide_eq_true rfl]
        simp
      · rw [decide_eq_false h1, decide_eq_false (show ¬ j < n + 1 by omega), decide_eq_false h2]
        simp
theorem fr_count {t : hy_T} {w : Int} (h : fr t) (m : mK t) : mf_count t w = wf_count t w := by
  have L := fr_fe (X := fun _ _ => false) h m hy_F.rf (fun _ _ _ => rfl)
  unfold mf_count wf_count
  by_cases w0 : w = 0
  · rw [if_pos w0, if_neg (by omega), if_neg (by omega), if_neg (by omega), if_neg (by omega), if_pos w0]
    exact h.1.2.1.1.1.symm
  by_cases w1 : w = 1
  · rw [if_neg w0, if_pos w1, if_neg (by omega), if_neg (by omega), if_neg (by omega), if_neg (by omega), if_neg w0, if_pos w1]
    obtain ⟨b1, b2⟩ := mixN_bits t 12 (Nat.le_refl _)
    refine bits_ext b1 h.1.2.1.1.2.2 (fun j hj => ?_)
    rw [b2 j hj, decide_eq_true hj, Bool.true_and, ← (L.1.1 j hj).1]
    unfold sp_told
    rw [decide_eq_true (show 0 ≤ (j : Int) ∧ (j : Int) < 12 by omega), Bool.true_and]
  by_cases w2 : w = 2
  · rw [if_neg w0, if_neg w1, if_pos w2, if_neg (by omega), if_neg (by omega), if_neg (by omega), if_neg (by omega), if_neg w0, if_neg w1, if_pos w2]
    exact h.2.1.2.1.1.symm
  by_cases w3 : w = 3
  · rw [if_neg w0, if_neg w1, if_neg w2, if_pos w3, if_neg (by omega), if_neg (by omega), if_neg (by omega), if_neg (by omega), if_neg w0, if_neg w1, if_neg w2, if_pos w3]
    exact h.1.1.1.symm
  by_cases w4 : w = 4
  · rw [if_neg w0, if_neg w1, if_neg w2, if_neg w3, if_pos w4, if_neg (by omega), if_neg (by omega), if_neg (by omega), if_neg (by omega), if_neg w0, if_neg w1, if_neg w2, if_neg w3, if_pos w4]
    exact h.2.2.1.1.1.2.2.symm
  by_cases w5 : w = 5
  · rw [if_neg w0, if_neg w1, if_neg w2, if_neg w3, if_neg w4, if_pos w5, if_neg (by omega), if_neg (by omega), if_neg (by omega), if_neg (by omega), if_neg w0, if_neg w1, if_neg w2, if_neg w3, if_neg w4, if_pos w5]
    exact h.2.2.1.1.1.2.1.symm
  by_cases w6 : w = 6
  · rw [if_neg w0, if_neg w1, if_neg w2, if_neg w3, if_neg w4, if_neg w5, if_pos w6, if_neg (by omega), if_neg (by omega), if_neg (by omega), if_neg (by omega), if_neg w0, if_neg w1, if_neg w2, if_neg w3, if_neg w4, if_neg w5, if_pos w6]
    exact h.2.2.1.1.1.1.1.symm
  rw [if_neg w0, if_neg w1, if_neg w2, if_neg w3, if_neg w4, if_neg w5, if_neg w6, if_neg w0, if_neg w1, if_neg w2, if_neg w3, if_neg w4, if_neg w5, if_neg w6]
  by_cases c1 : 10 ≤ w ∧ w ≤ 21
  · rw [if_pos c1, if_pos (show 10 ≤ w ∧ w < 22 by omega)]
    obtain ⟨p1, p2⟩ := L.1.1 (w - 10).toNat (by omega)
    rw [show (((w - 10).toNat : Nat) : Int) = w - 10 by omega] at p1 p2
    rw [p1]
    by_cases hm : mf_mixed t (w - 10) = true
    · rw [if_pos hm, if_pos hm]
      obtain ⟨⟨r1, r2⟩, -⟩ := p2 hm
      rw [r1, r2]
    · rw [if_neg hm, if_neg hm]
  rw [if_neg c1, if_neg (show ¬ (10 ≤ w ∧ w < 22) by omega)]
  by_cases c2 : 100 ≤ w ∧ w ≤ 147
  · rw [if_pos c2, if_pos (show 100 ≤ w ∧ w < 148 by omega), p3_plain h.1.2.1]
    by_cases hp : mf_plain t ((w - 100) / 4) = true
    · rw [if_pos hp, if_pos hp]
      unfold sp_hav
      rw [if_pos (by omega), show (4 * ((w - 100) / 4) + (w - 100) % 4) = w - 100 by omega]
      exact (h.2.2.1.1.2.1 (w - 100).toNat (by omega)).symm
    · rw [if_neg hp, if_neg hp]
  rw [if_neg c2, if_neg (show ¬ (100 ≤ w ∧ w < 148) by omega)]
  by_cases c3 : 200 ≤ w ∧ w ≤ 263
  · rw [if_pos c3, if_pos (show 200 ≤ w ∧ w < 264 by omega)]
    exact (h.2.1.1.1 (w - 200).toNat (by omega)).symm
  rw [if_neg c3, if_neg (show ¬ (200 ≤ w ∧ w < 264) by omega)]
  by_cases c4 : 300 ≤ w ∧ w ≤ 363
  · rw [if_pos c4, if_pos (show 300 ≤ w ∧ w < 364 by omega)]
    exact (h.2.2.1.2.2 (w - 300).toNat (by omega)).symm
  rw [if_neg c4, if_neg (show ¬ (300 ≤ w ∧ w < 364) by omega)]
theorem an {r1 r2 : Option Int} {x y : Int} (q1 : r1 = some x) (q2 : r2 = some y) (e : y = x) : r2 = r1 := by rw [q1, q2, e]
theorem fr_countA {t t1 t2 : hy_T} {w : Int} {r1 r2 : Option Int} (h : fr t) (m : mK t) (q1 : r1 = some (wf_count t w) ∧ t1 = t) (q2 : r2 = some (mf_count t1 w) ∧ t2 = t1) : r2 = r1 ∧ fr t2 := by
  obtain ⟨e1, rfl⟩ := q1
  obtain ⟨e2, rfl⟩ := q2
  exact ⟨an e1 e2 (fr_count h m), h⟩
theorem fr_treatyIs {t t1 : hy_T} {n w : Int} (h : fr t) (F : hy_F (fun _ _ => false) t t1) : (if (0 ≤ n ∧ n < t1 59 34) ∧ 0 ≤ w ∧ w < 6 then t1 (85 + w.toNat) n.toNat else -1) = if (0 ≤ n ∧ n < t 33 3) ∧ 0 ≤ w ∧ w < 6 then t 36 (6 * n + w).toNat else -1 := by
  have e3 : t 33 3 = t 59 34 := h.2.2.1.1.1.1.1
  rw [F 59 34 rfl, e3]
  by_cases hq : (0 ≤ n ∧ n < t 59 34) ∧ 0 ≤ w ∧ w < 6
  · rw [if_pos hq, if_pos hq, F _ _ rfl, show (6 * n + w).toNat = 6 * n.toNat + w.toNat by omega]
    exact (h.2.2.1.1.2.2 n.toNat w.toNat (by omega) (by omega)).symm
  · rw [if_neg hq, if_neg hq]
theorem fr_qh {b : Nat} {T U : hy_T} (h : fs_S b T U) (hh : fh U) {c : Int} (hc : 0 ≤ c ∧ c < 12) : ∀ n : Nat, n ≤ 4 → sp_qh (T (b + 1)) c n = mf_hadN U c n
  | 0, _ => rfl
  | n + 1, hn => by
    simp only [sp_qh, mf_hadN]
    rw [fr_qh h hh hc n (by omega)]
    congr 1
    unfold sp_hav
    rw [if_pos (by omega), h.2.1 _ (by omega)]
    exact bc_bits' (hh _ (by omega)).1
theorem fr_tried {t t1 : hy_T} {n w : Int} (h : fr t) (m : mK t) (F : hy_F trX t t1) : (if md_trc t1 n w then md_tried (md_days (mf_begins t1) n) w else -1) = wf_tried t n w := by
  have hX : ∀ r j, 59 ≤ r → trX r j = false := fun r j q => by simp only [trX, Bool.or_eq_true, Bool.and_eq_true, decide_eq_true_eq, decide_eq_false_iff_not, beq_iff_eq, Bool.or_eq_false_iff, Bool.and_eq_false_iff, beq_eq_false_iff_ne]; omega
  have ew : md_w10 w = wf_w10 w := rfl
  have pl : ∀ c, mf_plain t1 c = wf_plain t c := fun c => (fr_plain h.1.2.1 (F 59 0 rfl) (fun j => F 60 j rfl) c).symm
  unfold wf_tried
  by_cases hq : wf_tryable t n w
  · have hq2 : md_trc t1 n w := by
      refine ⟨hq.1, hq.2.elim (fun c => .inl (by omega)) (fun c => .inr ?_)⟩
      rw [pl, ew]
      exact c
    rw [if_pos hq, if_pos hq2]
    obtain ⟨-, G⟩ := begins_as t1
    have tr1 : tr_ok (mf_begins t1) := tr_ok_F G (fun r j q => by revert q; simp only [stX, mfaX, Bool.or_eq_true, Bool.and_eq_true, decide_eq_true_eq, decide_eq_false_iff_not, beq_iff_eq, Bool.or_eq_false_iff, Bool.and_eq_false_iff, beq_eq_false_iff_ne]; omega) (tr_ok_F F (fun r j q => by revert q; simp only [stX, trX, Bool.or_eq_true, Bool.and_eq_true, decide_eq_true_eq, decide_eq_false_iff_not, beq_iff_eq, Bool.or_eq_false_iff, Bool.and_eq_false_iff, beq_eq_false_iff_ne]; omega) m.tr)
    have s0 : fs_S 33 t t1 := fs_S_of h.2.2.1.1 (fun _ _ _ => rfl) (fun r j q => F r j (by revert q; simp only [fsM, trX, Bool.or_eq_true, Bool.and_eq_true, decide_eq_true_eq, decide_eq_false_iff_not, beq_iff_eq, Bool.or_eq_false_iff, Bool.and_eq_false_iff, beq_eq_false_iff_ne]; omega))
    have s1 := fs_begins t1 s0
    have pal : ∀ x, mf_plain (mf_begins t1) x = mf_plain t x := fun x => mf_plain_F ((G 59 0 rfl).trans (F 59 0 rfl)) (fun j => (G 60 j rfl).trans (F 60 j rfl)) x
    have h0 : fh (mf_begins t1) := fun j hj => by
      rw [pal, G 62 j rfl, F 62 j rfl]
      exact h.2.2.1.2.1.1 j hj
    have f0 : ft (mf_begins t1) := fun i hi => by
      rw [pal, G 85 i rfl, F 85 i rfl]
      rw [G 59 34 rfl, F 59 34 rfl] at hi
      exact h.2.2.1.2.1.2 i hi
    have S := sp_scopy41_F t
    have hL : fd_L (sp_scopy t 33 41) (mf_begins t1) := fun V V' hV => by
      rw [lc_same_amt (lc_same_of S (fun r j q => by revert q; simp only [lawX, trX, Bool.or_eq_true, Bool.and_eq_true, decide_eq_true_eq, decide_eq_false_iff_not, beq_iff_eq, Bool.or_eq_false_iff, Bool.and_eq_false_iff, beq_eq_false_iff_ne]; omega)), mb_amt_F G (fun r j q => by revert q; simp only [mlawX, mfaX, Bool.or_eq_true, Bool.and_eq_true, decide_eq_true_eq, decide_eq_false_iff_not, beq_iff_eq, Bool.or_eq_false_iff, Bool.and_eq_false_iff, beq_eq_false_iff_ne]; omega)]
      exact fd_law h.2.1.2 m F (fun r j q => by revert q; simp only [mlawX, trX, Bool.or_eq_true, Bool.and_eq_true, decide_eq_true_eq, decide_eq_false_iff_not, beq_iff_eq, Bool.or_eq_false_iff, Bool.and_eq_false_iff, beq_eq_false_iff_ne]; omega) V V' hV
    obtain ⟨⟨d1, ⟨d2, d3⟩, -⟩, -, d5, -⟩ := fd_days (.inr rfl) s1 tr1 hL h0 f0 n
    have e34 := md_sum tr1 n
    unfold wf_told md_tried
    have x3 : sp_scopy t 33 41 41 3 = t 33 3 := rfl
    have z34 : t 33 3 = t 59 34 := h.2.2.1.1.1.1.1
    have y34 : mf_begins t1 59 34 = t 59 34 := (G 59 34 rfl).trans (F 59 34 rfl)
    have c3 := d1.1.1.1
    by_cases w0 : w = 0
    · rw [if_pos w0, if_pos w0, x3]
      omega
    · rw [if_neg w0, if_neg w0]
      by_cases w1 : w = 1
      · rw [if_pos w1, if_pos w1]
        exact d2.symm
      · rw [if_neg w1, if_neg w1]
        by_cases w2 : w = 2
        · rw [if_pos w2, if_pos w2]
          exact d3.symm
        · rw [if_neg w2, if_neg w2]
          have hp : wf_plain t (wf_w10 w) = true := hq.2.resolve_left (by omega)
          have hc : 0 ≤ wf_w10 w ∧ wf_w10 w < 12 := by
            rw [Bool.and_eq_true] at hp
            exact sp_told_in hp.1
          exact (fr_qh d1 d5 hc 4 (Nat.le_refl _)).symm
  · rw [if_neg hq, if_neg (fun q => hq ⟨q.1, q.2.elim (fun c => .inl (by omega)) (fun c => .inr (by rw [pl, ew] at c; exact c))⟩)]
/-! gain -/
def wf_gain (t : hy_T) (e c q : Int) : Int := if ((0 ≤ e ∧ e < 6) ∧ wf_plain t c = true ∧ 0 ≤ q ∧ q < 4) ∧ hz_b (sp_hav (t 34) c q) e = false then sp_worth (sp_setH 33 t c q (hz_ior (sp_hav (t 34) c q) (hz_ishl 1 e))) e q - sp_worth t e q else -1000000000
theorem fs_in_q {c q : Int} (hc : 0 ≤ c ∧ c < 12) (hq : 0 ≤ q ∧ q < 4) (j : Nat) : fs_in c (hz_ishl 1 q) 4 j ↔ j = (4 * c + q).toNat := by
  constructor
  · intro hf
    have hk := gn_q ⟨q.toNat, by omega⟩ ⟨((j : Int) - 4 * c).toNat, by have := hf.1; omega⟩
    dsimp only at hk
    rw [show ((q.toNat : Nat) : Int) = q by omega, show ((((j : Int) - 4 * c).toNat : Nat) : Int) = (j : Int) - 4 * c by have := hf.1; omega] at hk
    have hk2 := congrArg Fin.val (hk hf.2)
    dsimp only at hk2
    have := hf.1
    omega
  · intro e
    have hb : ∀ k : Fin 4, hz_b (hz_ishl 1 (k.val : Int)) (k.val : Int) = true := by decide
    have := hb ⟨q.toNat, by omega⟩
    dsimp only at this
    rw [show ((q.toNat : Nat) : Int) = q by omega] at this
    refine ⟨by omega, ?_⟩
    rw [show (j : Int) - 4 * c = q by omega]
    exact this
theorem fr_gainA {t t1 : hy_T} {a b c : Int} (h : fr t) (m : mK t) (F : hy_F pX t t1) : (if ((0 ≤ a ∧ a < 6) ∧ mf_plain t1 b = true ∧ 0 ≤ c ∧ c < 4) ∧ hz_b (t1 62 (4 * b + c).toNat) a = false then mw_worth (mf_chN t1 b (hz_ishl 1 c) a 1 4) a c - mw_worth t1 a c else -1000000000) = wf_gain t a b c := by
  have hX : ∀ r j, 59 ≤ r → pX r j = false := fun r j q => by simp only [pX, Bool.or_eq_true, Bool.and_eq_true, decide_eq_true_eq, decide_eq_false_iff_not, beq_iff_eq, Bool.or_eq_false_iff, Bool.and_eq_false_iff, beq_eq_false_iff_ne]; omega
  have V := fr_fv h m F hX
  have pl : mf_plain t1 b = wf_plain t b := (fr_plain h.1.2.1 (F 59 0 rfl) (fun j => F 60 j rfl) b).symm
  unfold wf_gain
  by_cases hq : (0 ≤ a ∧ a < 6) ∧ wf_plain t b = true ∧ 0 ≤ c ∧ c < 4
  · have hb12 : 0 ≤ b ∧ b < 12 := by
      have := hq.2.1
      rw [Bool.and_eq_true] at this
      exact sp_told_in this.1
    have ehav : sp_hav (t 34) b c = t1 62 (4 * b + c).toNat := by
      unfold sp_hav
      rw [if_pos ⟨hb12, hq.2.2⟩]
      exact V.2.1 _ (by omega)
    by_cases hh : hz_b (sp_hav (t 34) b c) a = false
    · rw [if_pos ⟨⟨hq.1, by rw [pl]; exact hq.2.1, hq.2.2⟩, by rw [← ehav]; exact hh⟩, if_pos ⟨hq, hh⟩, fv_worth V hq.2.2]
      have G : ∀ r j, r ≠ 62 → mf_chN t1 b (hz_ishl 1 c) a 1 4 r j = t1 r j := fun r j hr => ch_r _ _ _ _ _ 4 r j hr
      have e62 : ∀ j, mf_chN t1 b (hz_ishl 1 c) a 1 4 62 j = if j = (4 * b + c).toNat then hz_ior (t1 62 j) (hz_ishl 1 a) else t1 62 j := fun j => by
        rw [ch_v _ hb12 4 j, if_neg (show ¬ (1 : Int) = 0 by decide)]
        by_cases hf : fs_in b (hz_ishl 1 c) 4 j
        · rw [if_pos hf, if_pos ((fs_in_q hb12 hq.2.2 j).mp hf)]
        · rw [if_neg hf, if_neg (fun q => hf ((fs_in_q hb12 hq.2.2 j).mpr q))]
      have E : ∀ r j, r ≠ 34 → sp_setH 33 t b c (hz_ior (sp_hav (t 34) b c) (hz_ishl 1 a)) r j = t r j := fun r j hr => by
        unfold sp_setH
        split
        · rw [hy_up_ne (by omega)]
        · rfl
      have e34 : ∀ j, sp_setH 33 t b c (hz_ior (sp_hav (t 34) b c) (hz_ishl 1 a)) 34 j = if j = (4 * b + c).toNat then hz_ior (t1 62 j) (hz_ishl 1 a) else t 34 j := fun j => by
        unfold sp_setH
        rw [if_pos ⟨hb12, hq.2.2⟩]
        simp only [hy_up, true_and]
        by_cases hj : j = (4 * b + c).toNat
        · rw [if_pos hj, if_pos hj, ehav, hj]
        · rw [if_neg hj, if_neg hj]
      have V2 : fv (sp_setH 33 t b c (hz_ior (sp_hav (t 34) b c) (hz_ishl 1 a))) (mf_chN t1 b (hz_ishl 1 c) a 1 4) := by
        have FT : hy_F (fun r _ => r == 34) t (sp_setH 33 t b c (hz_ior (sp_hav (t 34) b c) (hz_ishl 1 a))) := fun r j q => E r j (by simpa using q)
        have FU : hy_F (fun r _ => r == 62) t1 (mf_chN t1 b (hz_ishl 1 c) a 1 4) := fun r j q => G r j (by simpa using q)
        have SL : lc_same t (sp_setH 33 t b c (hz_ior (sp_hav (t 34) b c) (hz_ishl 1 a))) := lc_same_of FT (fun r j q => by revert q; simp only [lawX, Bool.or_eq_true, Bool.and_eq_true, decide_eq_true_eq, decide_eq_false_iff_not, beq_iff_eq, Bool.or_eq_false_iff, Bool.and_eq_false_iff, beq_eq_false_iff_ne]; omega)
        have ML : ∀ r j, mlawX r j = true → (fun (r _ : Nat) => r == 62) r j = false := fun r j q => by revert q; simp only [mlawX, Bool.or_eq_true, Bool.and_eq_true, decide_eq_true_eq, decide_eq_false_iff_not, beq_iff_eq, Bool.or_eq_false_iff, Bool.and_eq_false_iff, beq_eq_false_iff_ne]; omega
        obtain ⟨⟨⟨v1, v2⟩, v3, v4⟩, v5, v6, v7⟩ := V
        refine ⟨⟨⟨fun x hx => ?_, ?_⟩, fun V V' k s hV => ?_, fun V V' hV => ?_⟩, fun j hj => ?_, fun j hj => ?_, fun f hf => ?_⟩
        · have em : mf_mixed (mf_chN t1 b (hz_ishl 1 c) a 1 4) x = mf_mixed t1 x := by
            unfold mf_mixed
            rw [G 59 0 (by decide), G 60 _ (by decide)]
          rw [em, E 5 3 (by decide), E 6 x (by decide), E 7 x (by decide), G 60 x (by decide), G 61 x (by decide)]
          exact v1 x hx
        · rw [E 33 4 (by decide), G 59 2 (by decide)]
          exact v2
        · rw [mb_holds_F FU ML, lc_same_has SL, lc_same_hold SL]
          exact v3 V V' k s hV
        · rw [mb_amt_F FU ML, lc_same_amt SL]
          exact v4 V V' hV
        · rw [e34, e62, v5 j hj]
        · have pl2 : mf_plain (mf_chN t1 b (hz_ishl 1 c) a 1 4) ((j / 4 : Nat) : Int) = mf_plain t1 ((j / 4 : Nat) : Int) := mf_plain_F (G 59 0 (by decide)) (fun j => G 60 j (by decide)) _
          rw [pl2, e62]
          by_cases hj2 : j = (4 * b + c).toNat
          · rw [if_pos hj2]
            refine ⟨hv_or' (v6 j hj).1 hq.1, fun q => ?_⟩
            exfalso
            rw [show ((j / 4 : Nat) : Int) = b by omega, pl, hq.2.1] at q
            cases q
          · rw [if_neg hj2]
            exact v6 j hj
        · rw [E 9 f (by decide), E 35 f (by decide), G 63 f (by decide), G 64 f (by decide)]
          exact v7 f hf
      rw [fv_worth V2 hq.2.2]
    · rw [if_neg (fun q => hh (by rw [ehav]; exact q.2)), if_neg (fun q => hh q.2)]
  · rw [if_neg (fun q => hq ⟨q.1.1, by rw [← pl]; exact q.1.2.1, q.1.2.2⟩), if_neg (fun q => hq q.1)]
