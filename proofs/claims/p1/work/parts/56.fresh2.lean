/-! what both sides answer at first -/
abbrev cX : Nat → Nat → Bool := fun r _ => decide (r < 59)
theorem cX_of {X : Nat → Nat → Bool} {t t1 : hy_T} (h : hy_F X t t1) (hX : ∀ r j, 59 ≤ r → X r j = false) : hy_F cX t t1 := h.w (fun r j q => hX r j (by simpa [cX] using q))
theorem lk_12 (f : Nat → Int) : lk f 12 = 12 := by unfold lk; rw [if_neg (by omega)]
theorem t0_st : st_ok 33 t0 := ⟨by decide, by decide, by decide, fun j hj => (show 0 ≤ (0 : Int) ∧ (0 : Int) ≤ 9999 by decide)⟩
theorem t0_lc : lc_ok t0 := ⟨by decide, by decide, fun j hj => (show 0 ≤ (0 : Int) by decide)⟩
theorem t0_tp : tp_ok t0 := ⟨fun j hj => (show 0 ≤ (0 : Int) ∧ (0 : Int) ≤ 255 by decide), by decide, by decide, by decide⟩
theorem t0_stk : pa_stk t0 := fun j hj => (show 0 ≤ (0 : Int) ∧ (0 : Int) < 64 by decide)
theorem hz_ishl_0 (k : Int) : hz_ishl 0 k = 0 := by
  unfold hz_ishl
  rw [show Int32.ofInt 0 = 0 from rfl, Int32.zero_shiftLeft]
  rfl
theorem hz_ior_00 : hz_ior 0 0 = 0 := by decide
theorem sp_hav_0 (hv : Nat → Int) (h : ∀ j, hv j = 0) (c q : Int) : sp_hav hv c q = 0 := by
  unfold sp_hav
  split
  · exact h _
  · rfl
theorem sp_hadN_0 (hv : Nat → Int) (h : ∀ j, hv j = 0) (e q : Int) : ∀ n, sp_hadN hv e q n = 0
  | 0 => rfl
  | n + 1 => by
    simp only [sp_hadN]
    rw [sp_hadN_0 hv h e q n, sp_hav_0 hv h, hz_b_0, show hy_b false = 0 from rfl, hz_ishl_0, hz_ior_00]
theorem t0_had (e q : Int) : sp_hadN (t0 34) e q 12 = 0 := sp_hadN_0 _ (fun j => rfl) e q 12
theorem sp_seenN_0 {t : hy_T} (h : t 5 3 = 0) (e q p : Int) : ∀ n, sp_seenN t e q p n = p
  | 0 => rfl
  | n + 1 => by
    simp only [sp_seenN]
    rw [sp_seenN_0 h e q p n, h, if_neg (by rw [sp_told_0]; decide)]
theorem t0_seen (e q : Int) : sp_seen t0 e q = 0 := by
  unfold sp_seen
  rw [sp_seenN_0 rfl, t0_had]
theorem sp_worthN_0 (f : Nat → Int) : ∀ n, sp_worthN f 0 n = 0
  | 0 => rfl
  | n + 1 => by
    simp only [sp_worthN]
    rw [sp_worthN_0 f n, hz_b_0]
    simp [hy_b]
theorem t0_worth (e q : Int) : sp_worth t0 e q = 0 := by
  unfold sp_worth
  rw [t0_seen]
  exact sp_worthN_0 _ 12
theorem sp_daysN_0 (b : Nat) : ∀ (n : Nat) {t : hy_T}, t b 3 = 0 → sp_daysN b n t b 3 = 0 ∧ sp_daysN b n t b 6 = t b 6 ∧ sp_daysN b n t b 7 = t b 7
  | 0, t, h => ⟨h, rfl, rfl⟩
  | n + 1, t, h => by
    simp only [sp_daysN]
    split
    · rw [h, show (0 : Int).toNat = 0 from rfl]
      simp only [sp_dayN]
      obtain ⟨a, b1, c⟩ := sp_daysN_0 b n (t := hy_up t b 4 (t b 4 + 1)) (by simp [hy_up, h])
      exact ⟨a, by rw [b1]; simp [hy_up], by rw [c]; simp [hy_up]⟩
    · exact ⟨h, rfl, rfl⟩
theorem sp_days_0 (b : Nat) {t : hy_T} (h : t b 3 = 0) (n : Int) : sp_days b t n b 3 = 0 ∧ sp_days b t n b 6 = -2 ∧ sp_days b t n b 7 = -2 := by
  obtain ⟨a, c, e⟩ := sp_daysN_0 b n.toNat (t := hy_up (hy_up t b 6 (-2)) b 7 (-2)) (by simp [hy_up, h])
  refine ⟨a, ?_, ?_⟩
  · unfold sp_days; rw [c]; simp [hy_up]
  · unfold sp_days; rw [e]; simp [hy_up]
theorem wf_paintN_0 (t : hy_T) : ∀ n, wf_paintN t 0 n = ((n : Int), if n = 0 then -2 else 0)
  | 0 => rfl
  | n + 1 => by
    simp only [wf_paintN]
    rw [wf_paintN_0 t n, if_pos (hz_iand_0 _)]
    by_cases h : n = 0
    · subst h; rfl
    · simp [h]
theorem wf_pr_0 {t : hy_T} (h : t 5 2 = 0) (q fr fo : Int) : ∀ e c, wf_pr t q fr fo e c = 0
  | 0, c => by simp only [wf_pr]; rw [h, if_neg (by rw [sp_told_0]; decide)]
  | e + 1, c => by
    simp only [wf_pr]
    rw [wf_pr_0 h q fr fo e c, hz_iand_0, hz_iand_0]
    split
    · rfl
    · split <;> rfl
theorem nat_bit {k : Nat} (h : 0 < k) (hk : k < 4096) : ∃ c, c < 12 ∧ k.testBit c = true := by
  refine Classical.byContradiction fun hn => ?_
  have : k = 0 := Nat.eq_of_testBit_eq fun i => by
    rw [Nat.zero_testBit]
    by_cases hi : i < 12
    · exact Bool.eq_false_iff.mpr fun q => hn ⟨i, hi, q⟩
    · exact Nat.testBit_lt_two_pow (Nat.lt_of_lt_of_le hk (Nat.pow_le_pow_right (n := 2) (by decide) (show 12 ≤ i by omega)))
  omega
theorem wf_sig_0 {P : Nat → Int} (hP : ∀ c, P c = 0) {k : Nat} (h : 0 < k) (hk : k < 4096) : wf_sig P k = false := by
  obtain ⟨c, hc, hb⟩ := nat_bit h hk
  refine decide_eq_false fun q => ?_
  have h1 := q c hc (by rw [hz_b_n ⟨by omega, by omega⟩ ⟨by omega, by omega⟩]; exact hb)
  rw [hP c, hz_iand_n0 ⟨by omega, by omega⟩] at h1
  omega
theorem sp_bc_00 : sp_bc 0 = 0 := by decide
theorem wf_no_0 {P : Nat → Int} (hP : ∀ c, P c = 0) {n : Int} (hn : 2 ≤ n) {k : Nat} (hk : k < 4096) : ¬ (sp_bc k = n ∧ wf_sig P k = true) := by
  rintro ⟨a, b⟩
  by_cases h : k = 0
  · subst h
    rw [show ((0 : Nat) : Int) = 0 from rfl, sp_bc_00] at a
    omega
  · rw [wf_sig_0 hP (by omega) hk] at b
    cases b
theorem wf_setsN_0 {P : Nat → Int} (hP : ∀ c, P c = 0) {n : Int} (hn : 2 ≤ n) : ∀ k, k ≤ 4096 → wf_setsN P n k = 0
  | 0, _ => rfl
  | k + 1, hk => by rw [wf_setsN_e, if_neg (wf_no_0 hP hn (by omega)), wf_setsN_0 hP hn k (by omega)]
theorem wf_firstN_0 {P : Nat → Int} (hP : ∀ c, P c = 0) {n : Int} (hn : 2 ≤ n) : ∀ m k, m + k ≤ 4096 → wf_firstN P n m k = -2
  | 0, _, _ => rfl
  | m + 1, k, h => by
    show (if sp_bc k = n ∧ wf_sig P k = true then (k : Int) else wf_firstN P n m (k + 1)) = -2
    rw [if_neg (wf_no_0 hP hn (by omega)), wf_firstN_0 hP hn m (k + 1) (by omega)]
theorem wf_mostN_0 {P : Nat → Int} (hP : ∀ c, P c = 0) : ∀ m, wf_mostN P m = 0
  | 0 => rfl
  | m + 1 => by
    show (if 0 ≤ wf_firstN P ((m : Int) + 2) 4096 0 then (m : Int) + 2 else wf_mostN P m) = 0
    rw [wf_firstN_0 hP (by omega) 4096 0 (by omega), if_neg (by decide), wf_mostN_0 hP m]
theorem t0_signals (n fr fo q w : Int) : wf_signals t0 n fr fo q w = if wf_sigok n fr fo q w then (if w = 1 then -2 else 0) else -1 := by
  unfold wf_signals
  by_cases h : wf_sigok n fr fo q w
  · rw [if_pos h, if_pos h]
    have hP : ∀ c, wf_pr t0 q fr fo 6 c = 0 := wf_pr_0 rfl q fr fo 6
    by_cases h0 : w = 0
    · rw [if_pos h0, if_neg (by omega), wf_setsN_0 hP (by have := h.2.2; omega) 4096 (Nat.le_refl _)]
    · rw [if_neg h0]
      by_cases h1 : w = 1
      · rw [if_pos h1, if_pos h1, wf_firstN_0 hP (by have := h.2.2; omega) 4096 0 (Nat.le_refl _)]
      · rw [if_neg h1, if_neg h1, wf_mostN_0 hP]
  · rw [if_neg h, if_neg h]
theorem wf_ashes_64 {t : hy_T} (h : ∀ f : Nat, t 9 f = 12) : ∀ n : Nat, wf_ashes t n = n
  | 0 => rfl
  | n + 1 => by
    simp only [wf_ashes]
    rw [wf_ashes_64 h n, h, lk_12, if_pos rfl]
    omega
theorem wf_ashN_1 {t : hy_T} (h : ∀ f : Nat, t 9 f = 12) : ∀ n j : Nat, j < n → wf_ashN t n 53 j = 1
  | 0, j, hj => by omega
  | n + 1, j, hj => by
    simp only [wf_ashN]
    rw [h, lk_12, if_pos rfl]
    by_cases e : j = n
    · subst e; simp [hy_up]
    · rw [show ∀ v, hy_up (wf_ashN t n) 53 n v 53 j = wf_ashN t n 53 j from fun v => by simp [hy_up, e]]
      exact wf_ashN_1 h n j (by omega)
theorem tp_add1_cX {t t1 : hy_T} (h : hy_F cX t t1) (v : Int) : hy_F cX t (tp_add1 t1 v) := by
  unfold tp_add1
  split
  · exact (h.up rfl).up rfl
  · exact h
theorem tp_add_cX {t t1 : hy_T} (h : hy_F cX t t1) (v : Int) : hy_F cX t (tp_add t1 v) := tp_add1_cX (tp_add1_cX (tp_add1_cX (tp_add1_cX h _) _) _) _
theorem mf_mixed_0 {t : hy_T} (h : t 59 0 = 0) (c : Int) : mf_mixed t c = false := by
  show (sp_told (t 59 0) c && decide (t 60 c.toNat ≠ -1)) = false
  rw [h, sp_told_0, Bool.false_and]
theorem mf_plain_0 {t : hy_T} (h : t 59 0 = 0) (c : Int) : mf_plain t c = false := by
  show (sp_told (t 59 0) c && decide (t 60 c.toNat = -1)) = false
  rw [h, sp_told_0, Bool.false_and]
theorem wf_plain_0 {t : hy_T} (h : t 5 2 = 0) (c : Int) : wf_plain t c = false := by
  show (sp_told (t 5 2) c && !sp_told (t 5 3) c) = false
  rw [h, sp_told_0, Bool.false_and]
theorem mf_mixN_0 {t : hy_T} (h : t 59 0 = 0) : ∀ n, mf_mixN t n = 0
  | 0 => rfl
  | n + 1 => by
    simp only [mf_mixN]
    rw [mf_mixN_0 h n, if_neg (by rw [mf_mixed_0 h]; decide), hz_ior_00]
theorem mf_keep_34 (t : hy_T) : mf_keep t 59 34 = t 59 34 := by
  have h1 := mf_packN_F 94 (hy_cp (hy_up t 59 57 1) 62 93 48) 16 59 34 rfl
  simp only [mf_keep, mf_set3, hy_up]
  rw [if_neg (by omega), if_neg (by omega), if_neg (by omega)]
  show hy_cp (mf_packN 94 (hy_cp (hy_up t 59 57 1) 62 93 48) 16) 64 95 64 59 34 = _
  rw [show hy_cp (mf_packN 94 (hy_cp (hy_up t 59 57 1) 62 93 48) 16) 64 95 64 59 34 = mf_packN 94 (hy_cp (hy_up t 59 57 1) 62 93 48) 16 59 34 by unfold hy_cp; rw [if_neg (by omega)], h1]
  rfl
def wf_count0 (w : Int) : Int := if 200 ≤ w ∧ w < 264 then 12 else if 300 ≤ w ∧ w < 364 then 6 else if w = 4 then 1 else if 0 ≤ w ∧ w ≤ 6 then 0 else -1
theorem t0_count (w : Int) : wf_count t0 w = wf_count0 w := by
  unfold wf_count wf_count0
  by_cases q1 : 10 ≤ w ∧ w < 22
  · rw [if_pos q1, if_neg (by rw [show t0 5 3 = 0 from rfl, sp_told_0]; decide), if_neg (by omega), if_neg (by omega), if_neg (by omega), if_neg (by omega)]
  · rw [if_neg q1]
    by_cases q2 : 100 ≤ w ∧ w < 148
    · rw [if_pos q2, if_neg (by rw [wf_plain_0 rfl]; decide), if_neg (by omega), if_neg (by omega), if_neg (by omega), if_neg (by omega)]
    · rw [if_neg q2]
      by_cases q3 : 200 ≤ w ∧ w < 264
      · rw [if_pos q3, if_pos q3]; rfl
      · rw [if_neg q3, if_neg q3]
        by_cases q4 : 300 ≤ w ∧ w < 364
        · rw [if_pos q4, if_pos q4]; rfl
        · rw [if_neg q4, if_neg q4]
          by_cases w0 : w = 0
          · rw [if_pos w0, if_neg (by omega), if_pos (by omega)]; rfl
          · rw [if_neg w0]
            by_cases w1 : w = 1
            · rw [if_pos w1, if_neg (by omega), if_pos (by omega)]; rfl
            · rw [if_neg w1]
              by_cases w2 : w = 2
              · rw [if_pos w2, if_neg (by omega), if_pos (by omega)]; rfl
              · rw [if_neg w2]
                by_cases w3 : w = 3
                · rw [if_pos w3, if_neg (by omega), if_pos (by omega)]; rfl
                · rw [if_neg w3]
                  by_cases w4 : w = 4
                  · rw [if_pos w4, if_pos w4]; rfl
                  · rw [if_neg w4, if_neg w4]
                    by_cases w5 : w = 5
                    · rw [if_pos w5, if_pos (by omega)]; rfl
                    · rw [if_neg w5]
                      by_cases w6 : w = 6
                      · rw [if_pos w6, if_pos (by omega)]; rfl
                      · rw [if_neg w6, if_neg (by omega)]
theorem m0_count {t : hy_T} (h : hy_F cX t0 t) (w : Int) : mf_count t w = wf_count0 w := by
  have h0 : t 59 0 = 0 := h 59 0 rfl
  have h1 : t 59 18 = 0 := h 59 18 rfl
  have h2 : t 59 9 = 0 := h 59 9 rfl
  have h3 : t 59 1 = 1 := h 59 1 rfl
  have h4 : t 59 2 = 0 := h 59 2 rfl
  have h5 : t 59 34 = 0 := h 59 34 rfl
  have h6 : ∀ j, t 63 j = 12 := fun j => h 63 j rfl
  have h7 : ∀ j, t 64 j = 6 := fun j => h 64 j rfl
  unfold mf_count wf_count0
  rw [mf_mixN_0 h0, h0, h1, h2, h3, h4, h5, h6, h7, mf_mixed_0 h0, mf_plain_0 h0]
  simp only [Bool.false_eq_true, if_false]
  repeat' split
  all_goals first | rfl | omega
