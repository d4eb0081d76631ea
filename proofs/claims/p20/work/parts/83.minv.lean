/-! the model: what stays true behind every call -/
def mp2_ok (t : hy_T) : Prop := ∀ j : Nat, j < 12 → ((-1 ≤ t 60 j ∧ t 60 j < 12) ∧ -1 ≤ t 61 j ∧ t 61 j < 12) ∧ (t 60 j ≠ -1 → (0 ≤ t 60 j ∧ t 60 j < j) ∧ 0 ≤ t 61 j ∧ t 61 j < j)
theorem mp2_pal {t : hy_T} (h : mp2_ok t) : me_pal t := fun j hj => ⟨(h j hj).1, fun hm => (h j hj).2 (by
  unfold mf_mixed at hm
  simp only [Bool.and_eq_true, decide_eq_true_eq] at hm
  simpa using hm.2)⟩
def kp_row (t : hy_T) (i : Nat) : Prop := (0 ≤ t 94 (6 * i + 0) ∧ t 94 (6 * i + 0) < 12) ∧ (1 ≤ t 94 (6 * i + 1) ∧ t 94 (6 * i + 1) ≤ 15) ∧ (0 ≤ t 94 (6 * i + 2) ∧ t 94 (6 * i + 2) < 6) ∧ (0 ≤ t 94 (6 * i + 3) ∧ t 94 (6 * i + 3) < 6) ∧ (t 94 (6 * i + 4) = 0 ∨ t 94 (6 * i + 4) = 1) ∧ (-9999 ≤ t 94 (6 * i + 5) ∧ t 94 (6 * i + 5) ≤ 9999)
def kp_ok (t : hy_T) : Prop := (0 ≤ t 59 54 ∧ t 59 54 ≤ 16) ∧ (0 ≤ t 59 55 ∧ t 59 55 ≤ 9999) ∧ (0 ≤ t 59 56 ∧ t 59 56 ≤ 65535) ∧ ∀ i : Nat, (i : Int) < t 59 54 → kp_row t i
abbrev mt_ok (t : hy_T) : Prop := 0 ≤ t 59 9 ∧ t 59 9 ≤ 260
def mK (t : hy_T) : Prop := (ml_ok t ∧ mp2_ok t) ∧ (mg_ok t ∧ nl_ok t) ∧ (tr_ok t ∧ kp_ok t) ∧ mt_ok t
theorem mK.ml {t : hy_T} (h : mK t) : ml_ok t := h.1.1
theorem mK.p2 {t : hy_T} (h : mK t) : mp2_ok t := h.1.2
theorem mK.pal {t : hy_T} (h : mK t) : me_pal t := mp2_pal h.1.2
theorem mK.mg {t : hy_T} (h : mK t) : mg_ok t := h.2.1.1
theorem mK.nl {t : hy_T} (h : mK t) : nl_ok t := h.2.1.2
theorem mK.tr {t : hy_T} (h : mK t) : tr_ok t := h.2.2.1.1
theorem mK.kp {t : hy_T} (h : mK t) : kp_ok t := h.2.2.1.2
theorem mK.mt {t : hy_T} (h : mK t) : mt_ok t := h.2.2.2
abbrev mrP : Nat → Nat → Bool := fun r _ => r == 60 || r == 61
abbrev mrT : Nat → Nat → Bool := fun r j => (decide (85 ≤ r) && decide (r ≤ 90)) || (r == 59 && (j == 1 || j == 2 || j == 34))
abbrev mrK : Nat → Nat → Bool := fun r j => r == 94 || (r == 59 && (j == 54 || j == 55 || j == 56))
abbrev mrM : Nat → Nat → Bool := fun r j => r == 59 && j == 9
theorem mk_p2 {X : Nat → Nat → Bool} {t t1 : hy_T} (h : hy_F X t t1) (hx : frees X mrP) (k : mp2_ok t) : mp2_ok t1 := fun j hj => by
  rw [h 60 j (hx 60 j rfl), h 61 j (hx 61 j rfl)]
  exact k j hj
theorem mk_mg {X : Nat → Nat → Bool} {t t1 : hy_T} (h : hy_F X t t1) (hx : ∀ j, X 63 j = false) (k : mg_ok t) : mg_ok t1 := fun j hj => by
  rw [h 63 j (hx j)]
  exact k j hj
theorem mk_nl {X : Nat → Nat → Bool} {t t1 : hy_T} (h : hy_F X t t1) (hx : ∀ j, X 96 j = false) (k : nl_ok t) : nl_ok t1 := fun j hj => by
  rw [h 96 j (hx j)]
  exact k j hj
theorem mk_tr {X : Nat → Nat → Bool} {t t1 : hy_T} (h : hy_F X t t1) (hx : frees X mrT) (k : tr_ok t) : tr_ok t1 := by
  obtain ⟨h1, h2, h3, h4⟩ := k
  have e34 : t1 59 34 = t 59 34 := h 59 34 (hx 59 34 rfl)
  have e2 : t1 59 2 = t 59 2 := h 59 2 (hx 59 2 rfl)
  have e1 : t1 59 1 = t 59 1 := h 59 1 (hx 59 1 rfl)
  refine ⟨by rw [e34]; exact h1, by rw [e2]; exact h2, by rw [e1]; exact h3, fun i hi => ?_⟩
  rw [e34] at hi
  unfold tr_row
  rw [h 85 i (hx 85 i rfl), h 86 i (hx 86 i rfl), h 87 i (hx 87 i rfl), h 88 i (hx 88 i rfl), h 89 i (hx 89 i rfl), h 90 i (hx 90 i rfl)]
  exact h4 i hi
theorem mk_kp {X : Nat → Nat → Bool} {t t1 : hy_T} (h : hy_F X t t1) (hx : frees X mrK) (k : kp_ok t) : kp_ok t1 := by
  obtain ⟨h1, h2, h3, h4⟩ := k
  have e34 : t1 59 54 = t 59 54 := h 59 54 (hx 59 54 rfl)
  have e2 : t1 59 55 = t 59 55 := h 59 55 (hx 59 55 rfl)
  have e1 : t1 59 56 = t 59 56 := h 59 56 (hx 59 56 rfl)
  refine ⟨by rw [e34]; exact h1, by rw [e2]; exact h2, by rw [e1]; exact h3, fun i hi => ?_⟩
  rw [e34] at hi
  unfold kp_row
  rw [h 94 _ (hx 94 _ rfl), h 94 _ (hx 94 _ rfl), h 94 _ (hx 94 _ rfl), h 94 _ (hx 94 _ rfl), h 94 _ (hx 94 _ rfl), h 94 _ (hx 94 _ rfl)]
  exact h4 i hi
theorem mk_mt {X : Nat → Nat → Bool} {t t1 : hy_T} (h : hy_F X t t1) (hx : X 59 9 = false) (k : mt_ok t) : mt_ok t1 := by
  unfold mt_ok
  rw [h 59 9 hx]
  exact k
abbrev mkA : Nat → Nat → Bool := fun r j => mlawX r j || mrP r j || r == 63 || r == 96 || mrT r j || mrK r j
abbrev mkAll : Nat → Nat → Bool := fun r j => mkA r j || mrM r j
theorem mK_A {X : Nat → Nat → Bool} {t t1 : hy_T} (h : hy_F X t t1) (hx : frees X mkA) (h9 : mt_ok t1) (k : mK t) : mK t1 :=
  ⟨⟨ml_ok_F h (fun r j q => hx r j (by simp only [mkA, q]; simp)) k.ml, mk_p2 h (fun r j q => hx r j (by simp only [mkA, q]; simp)) k.p2⟩, ⟨mk_mg h (fun j => hx 63 j (by simp [mkA])) k.mg, mk_nl h (fun j => hx 96 j (by simp [mkA])) k.nl⟩,
   ⟨mk_tr h (fun r j q => hx r j (by simp only [mkA, q]; simp)) k.tr, mk_kp h (fun r j q => hx r j (by simp only [mkA, q]; simp)) k.kp⟩, h9⟩
theorem mK_F {X : Nat → Nat → Bool} {t t1 : hy_T} (h : hy_F X t t1) (hx : frees X mkAll) (k : mK t) : mK t1 :=
  mK_A h (fun r j q => hx r j (by simp only [mkAll, q]; simp)) (mk_mt h (hx 59 9 rfl) k.mt) k
/-- a colour is told -/
theorem mK_tell {t : hy_T} (k : mK t) {c f s : Int} (h : sp_tellable (t 59 0) c f s = true) : mK (sp_tellM t c f s) ∧ hy_F (fun r j => r == 60 || r == 61 || (r == 59 && j == 0)) t (sp_tellM t c f s) := by
  have F : hy_F (fun r j => r == 60 || r == 61 || (r == 59 && j == 0)) t (sp_tellM t c f s) := by
    unfold sp_tellM
    exact ((hy_F.rf.up rfl).up rfl).up rfl
  refine ⟨⟨⟨ml_ok_F F (fun r j q => by revert q; simp only [mlawX, Bool.or_eq_true, Bool.and_eq_true, beq_iff_eq, Bool.or_eq_false_iff, Bool.and_eq_false_iff, beq_eq_false_iff_ne]; omega) k.ml, ?_⟩, ⟨mk_mg F (fun _ => rfl) k.mg, mk_nl F (fun _ => rfl) k.nl⟩, ⟨mk_tr F (fun r j q => by revert q; simp only [mrT, Bool.or_eq_true, Bool.and_eq_true, decide_eq_true_eq, beq_iff_eq, Bool.or_eq_false_iff, Bool.and_eq_false_iff, beq_eq_false_iff_ne]; omega) k.tr, mk_kp F (fun r j q => by revert q; simp only [mrK, Bool.or_eq_true, Bool.and_eq_true, beq_iff_eq, Bool.or_eq_false_iff, Bool.and_eq_false_iff, beq_eq_false_iff_ne]; omega) k.kp⟩, k.mt⟩, F⟩
  simp only [sp_tellable, sp_told, Bool.and_eq_true, Bool.or_eq_true, decide_eq_true_eq] at h
  have hr : (0 ≤ c ∧ c < 12) ∧ ((f = -1 ∧ s = -1) ∨ ((0 ≤ f ∧ f < c) ∧ 0 ≤ s ∧ s < c)) := by
    refine ⟨h.1.1, ?_⟩
    rcases h.2 with q | q
    · exact .inl q
    · have q1 := q.1.1.1
      have q2 := q.1.2.1
      exact .inr ⟨⟨q1.1, q.2.2.1⟩, q2.1, q.2.2.2⟩
  intro j hj
  obtain ⟨k1, k2⟩ := k.p2 j hj
  have e60 : sp_tellM t c f s 60 j = if j = c.toNat then f else t 60 j := by
    unfold sp_tellM
    rw [hy_up_ne (by decide)]
    simp only [hy_up, true_and]
    split
    · rfl
    · rw [if_neg (by omega)]
  have e61 : sp_tellM t c f s 61 j = if j = c.toNat then s else t 61 j := by
    unfold sp_tellM
    simp only [hy_up, true_and]
    split
    · rfl
    · rw [if_neg (by omega), if_neg (by omega)]
  rw [e60, e61]
  by_cases hc : j = c.toNat
  · rw [if_pos hc, if_pos hc]
    refine ⟨⟨?_, ?_⟩, fun q => ⟨?_, ?_⟩⟩ <;> omega
  · rw [if_neg hc, if_neg hc]
    exact ⟨k1, k2⟩
abbrev kpmX : Nat → Nat → Bool := fun r j => r == 93 || r == 94 || r == 95 || (r == 59 && (j == 54 || j == 55 || j == 56 || j == 57))
theorem mf_keep_v (t : hy_T) : hy_F kpmX t (mf_keep t) ∧ (∀ k i : Nat, k < 16 → i < 6 → mf_keep t 94 (6 * k + i) = t (85 + i) k) ∧ mf_keep t 59 54 = t 59 34 ∧ mf_keep t 59 55 = t 59 2 ∧ mf_keep t 59 56 = t 59 1 ∧ mf_keep t 59 57 = 1 := by
  have h0 : hy_F kpmX t (hy_cp (hy_up t 59 57 1) 62 93 48) := fun r j h => by
    unfold hy_cp
    rw [if_neg (by revert h; simp [kpmX]; omega)]
    simp only [hy_up]
    rw [if_neg (by revert h; simp [kpmX]; omega)]
  have h1 := h0.tr' ((mf_packN_F 94 (hy_cp (hy_up t 59 57 1) 62 93 48) 16).w (fun r j q => by revert q; simp [kpmX]; omega))
  have h2 : hy_F kpmX t (hy_cp (mf_packN 94 (hy_cp (hy_up t 59 57 1) 62 93 48) 16) 64 95 64) := fun r j h => by
    unfold hy_cp
    rw [if_neg (by revert h; simp [kpmX]; omega)]
    exact h1 r j h
  have e57 : hy_cp (mf_packN 94 (hy_cp (hy_up t 59 57 1) 62 93 48) 16) 64 95 64 59 57 = 1 := by
    unfold hy_cp
    rw [if_neg (by decide)]
    rw [mf_packN_F 94 _ 16 59 57 rfl]
    rfl
  have e94 : ∀ k i : Nat, k < 16 → i < 6 → hy_cp (mf_packN 94 (hy_cp (hy_up t 59 57 1) 62 93 48) 16) 64 95 64 94 (6 * k + i) = t (85 + i) k := fun k i hk hi => by
    unfold hy_cp
    rw [if_neg (by omega)]
    rw [mf_packN_v (by omega) _ 16 k i hk hi]
    rw [if_neg (by omega)]
    simp only [hy_up]
    rw [if_neg (by omega)]
  unfold mf_keep mf_set3
  revert h2 e57 e94
  generalize hy_cp (mf_packN 94 (hy_cp (hy_up t 59 57 1) 62 93 48) 16) 64 95 64 = u
  intro h2 e57 e94
  refine ⟨((h2.up rfl).up rfl).up rfl, fun k i hk hi => ?_, ?_, ?_, ?_, ?_⟩
  · rw [hy_up_ne (by decide), hy_up_ne (by decide), hy_up_ne (by decide)]
    exact e94 k i hk hi
  · exact h2 59 34 rfl
  · exact h2 59 2 rfl
  · exact h2 59 1 rfl
  · exact e57
theorem mK_keep {t : hy_T} (k : mK t) : mK (mf_keep t) ∧ hy_F kpmX t (mf_keep t) := by
  obtain ⟨F, v, e1, e2, e3, e4⟩ := mf_keep_v t
  obtain ⟨h1, h2, h3, h4⟩ := k.tr
  refine ⟨⟨⟨ml_ok_F F (fun r j q => by revert q; simp only [mlawX, kpmX, Bool.or_eq_true, Bool.and_eq_true, beq_iff_eq, Bool.or_eq_false_iff, Bool.and_eq_false_iff, beq_eq_false_iff_ne]; omega) k.ml, mk_p2 F (fun r j q => by revert q; simp only [mrP, kpmX, Bool.or_eq_true, beq_iff_eq, Bool.or_eq_false_iff, Bool.and_eq_false_iff, beq_eq_false_iff_ne]; omega) k.p2⟩, ⟨mk_mg F (fun _ => rfl) k.mg, mk_nl F (fun _ => rfl) k.nl⟩,
    ⟨mk_tr F (fun r j q => by revert q; simp only [mrT, kpmX, Bool.or_eq_true, Bool.and_eq_true, decide_eq_true_eq, beq_iff_eq, Bool.or_eq_false_iff, Bool.and_eq_false_iff, beq_eq_false_iff_ne]; omega) k.tr, ⟨by rw [e1]; exact h1, by rw [e2]; exact h2, by rw [e3]; exact h3, fun i hi => ?_⟩⟩, mk_mt F rfl k.mt⟩, F⟩
  rw [e1] at hi
  have hi16 : i < 16 := by omega
  have := h4 i hi
  unfold tr_row at this
  unfold kp_row
  rw [v i 0 hi16 (by decide), v i 1 hi16 (by decide), v i 2 hi16 (by decide), v i 3 hi16 (by decide), v i 4 hi16 (by decide), v i 5 hi16 (by decide)]
  exact this
abbrev udX : Nat → Nat → Bool := fun r j => stX r j || r == 64 || (r == 59 && j == 2)
theorem mf_undo_v (t : hy_T) : hy_F udX t (mf_undo t) ∧ (∀ k i : Nat, k < 16 → i < 6 → mf_undo t (85 + i) k = t 94 (6 * k + i)) ∧ mf_undo t 59 34 = t 59 54 ∧ mf_undo t 59 2 = t 59 55 ∧ mf_undo t 59 1 = t 59 56 := by
  have h0 : hy_F udX t (hy_cp t 93 62 48) := fun r j h => by
    unfold hy_cp
    rw [if_neg (by revert h; simp [udX, stX]; omega)]
  have h1 := h0.tr' ((mf_unpN_F (r := 94) (hy_cp t 93 62 48) 16 (by omega)).w (fun r j q => by revert q; simp [udX, stX, mftX]; omega))
  have h2 : hy_F udX t (hy_cp (mf_unpN 94 (hy_cp t 93 62 48) 16) 95 64 64) := fun r j h => by
    unfold hy_cp
    rw [if_neg (by revert h; simp [udX]; omega)]
    exact h1 r j h
  have ev : ∀ k i : Nat, k < 16 → i < 6 → hy_cp (mf_unpN 94 (hy_cp t 93 62 48) 16) 95 64 64 (85 + i) k = t 94 (6 * k + i) := fun k i hk hi => by
    unfold hy_cp
    rw [if_neg (by omega)]
    rw [mf_unpN_v (by omega) _ 16 k i (by omega) hk hi]
    rw [if_neg (by omega)]
  unfold mf_undo mf_set3
  revert h2 ev
  generalize hy_cp (mf_unpN 94 (hy_cp t 93 62 48) 16) 95 64 64 = u
  intro h2 ev
  refine ⟨((h2.up rfl).up rfl).up rfl, fun k i hk hi => ?_, ?_, ?_, ?_⟩
  · rw [hy_up_ne (by omega), hy_up_ne (by omega), hy_up_ne (by omega)]
    exact ev k i hk hi
  · exact h2 59 54 rfl
  · exact h2 59 55 rfl
  · exact h2 59 56 rfl
theorem mK_undo {t : hy_T} (k : mK t) : mK (mf_undo t) ∧ hy_F udX t (mf_undo t) := by
  obtain ⟨F, v, e1, e2, e3⟩ := mf_undo_v t
  obtain ⟨h1, h2, h3, h4⟩ := k.kp
  refine ⟨⟨⟨ml_ok_F F (fun r j q => by revert q; simp only [mlawX, udX, stX, Bool.or_eq_true, Bool.and_eq_true, decide_eq_true_eq, decide_eq_false_iff_not, beq_iff_eq, Bool.or_eq_false_iff, Bool.and_eq_false_iff, beq_eq_false_iff_ne]; omega) k.ml, mk_p2 F (fun r j q => by revert q; simp only [mrP, udX, stX, Bool.or_eq_true, decide_eq_false_iff_not, beq_iff_eq, Bool.or_eq_false_iff, Bool.and_eq_false_iff, beq_eq_false_iff_ne]; omega) k.p2⟩, ⟨mk_mg F (fun _ => rfl) k.mg, mk_nl F (fun _ => rfl) k.nl⟩,
    ⟨⟨by rw [e1]; exact h1, by rw [e2]; exact h2, by rw [e3]; exact h3, fun i hi => ?_⟩, mk_kp F (fun r j q => by revert q; simp only [mrK, udX, stX, Bool.or_eq_true, Bool.and_eq_true, decide_eq_true_eq, decide_eq_false_iff_not, beq_iff_eq, Bool.or_eq_false_iff, Bool.and_eq_false_iff, beq_eq_false_iff_ne]; omega) k.kp⟩, mk_mt F rfl k.mt⟩, F⟩
  rw [e1] at hi
  have hi16 : i < 16 := by omega
  have := h4 i hi
  unfold kp_row at this
  unfold tr_row
  rw [← v i 0 hi16 (by decide), ← v i 1 hi16 (by decide), ← v i 2 hi16 (by decide), ← v i 3 hi16 (by decide), ← v i 4 hi16 (by decide), ← v i 5 hi16 (by decide)] at this
  exact this
