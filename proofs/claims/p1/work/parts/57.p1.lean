/-! the first call: both sides answer alike -/
section P1
variable {sc : List Int32}
theorem law_go {m1 m2 : hx_M} {d1 d2 : Nat} {as1 as2 : List hy_V} {V : Int} (h1 : hy_Ct sc m1 d1 as1 t0 (fun r t1 => r = some V ∧ hy_F cX t0 t1)) (h2 : ∀ t1, hy_F cX t0 t1 → hy_Ct sc m2 d2 as2 t1 (hy_r V)) : (hy_Ct sc m1 d1 as1 t0 (fun r t1 => ∃ v : Int, r = some v ∧ (v = V ∧ hy_F cX t0 t1))) ∧ (∀ (v : Int) (t1 : hy_T), (v = V ∧ hy_F cX t0 t1) → hy_Ct sc m2 d2 as2 t1 (fun r _ => r = some v ∧ True)) :=
  ⟨h1.mono (fun r t' q => ⟨V, q.1, rfl, q.2⟩), fun v t1 q => by
    obtain ⟨rfl, hK⟩ := q
    exact (h2 t1 hK).mono (fun r t' q => ⟨q, trivial⟩)⟩
theorem g0 {a b c : Int} : ∃ V, hy_Ct sc hm_W_colour 3 [.inr (some 2), .inl a, .inl b, .inl c] t0 (fun r t1 => r = some V ∧ hy_F cX t0 t1) ∧ ∀ t1, hy_F cX t0 t1 → hy_Ct sc hm_M_colour 2 [.inr (some 59), .inl a, .inl b, .inl c] t1 (hy_r V) :=
  ⟨hy_b (sp_tellable 0 a b c), c_W_colour.mono (fun r t' q => by
    obtain ⟨rfl, rfl⟩ := q
    refine ⟨rfl, ?_⟩
    split
    · unfold sp_tellC
      split
      · exact hy_F.rf.up rfl
      · exact (((hy_F.rf.up rfl).up rfl).up rfl).up rfl
    · exact hy_F.rf), fun t1 h => c_M_colour.mono (fun r t' q => by rw [q.1, h 59 0 rfl]; rfl)⟩
theorem g1 {a b c : Int} : ∃ V, hy_Ct sc hm_W_have 3 [.inr (some 2), .inl a, .inl b, .inl c] t0 (fun r t1 => r = some V ∧ hy_F cX t0 t1) ∧ ∀ t1, hy_F cX t0 t1 → hy_Ct sc hm_M_have 3 [.inr (some 59), .inl a, .inl b, .inl c] t1 (hy_r V) := by
  have e : wf_have t0 a b c = false := by unfold wf_have; rw [wf_plain_0 rfl, Bool.false_and]
  refine ⟨0, c_W_have.mono (fun r t' q => ?_), fun t1 h => c_M_have.mono (fun r t' q => ?_)⟩
  · obtain ⟨rfl, rfl⟩ := q
    rw [e]
    exact ⟨rfl, hy_F.rf⟩
  · rw [q.1, show mf_have t1 a b c = false by unfold mf_have; rw [mf_plain_0 (h 59 0 rfl), Bool.false_and]]
    rfl
theorem g2 {a b c : Int} : ∃ V, hy_Ct sc hm_W_owner 2 [.inr (some 2), .inl a, .inl b, .inl c] t0 (fun r t1 => r = some V ∧ hy_F cX t0 t1) ∧ ∀ t1, hy_F cX t0 t1 → hy_Ct sc hm_M_owner 1 [.inr (some 59), .inl a, .inl b, .inl c] t1 (hy_r V) :=
  ⟨hy_b (wf_owner a b c), c_W_owner.mono (fun r t' q => by
    obtain ⟨rfl, rfl⟩ := q
    refine ⟨rfl, ?_⟩
    split
    · exact hy_F.rf.up rfl
    · exact hy_F.rf), fun t1 h => c_M_owner.mono (fun r t' q => q.1)⟩
theorem g3 {a b c d e : Int} : ∃ V, hy_Ct sc hm_W_feed 1 [.inr (some 2), .inl a, .inl b, .inl c, .inl d, .inl e] t0 (fun r t1 => r = some V ∧ hy_F cX t0 t1) ∧ ∀ t1, hy_F cX t0 t1 → hy_Ct sc hm_M_feed 1 [.inr (some 59), .inl a, .inl b, .inl c, .inl d, .inl e] t1 (hy_r V) :=
  ⟨20, (c_W_feed (by decide)).mono (fun r t' q => by
    obtain ⟨rfl, rfl⟩ := q
    refine ⟨rfl, ?_⟩
    rw [if_pos (show t0 3 1 ≤ 240 by decide)]
    exact tp_add_cX (tp_add_cX (tp_add_cX (tp_add_cX (tp_add_cX hy_F.rf a) b) c) d) e), fun t1 h => by
    have h9 : t1 59 9 = 0 := h 59 9 rfl
    exact (c_M_feed (by omega)).mono (fun r t' q => by rw [q.1, h9]; rfl)⟩
theorem g4 {n : Int} : ∃ V, hy_Ct sc hm_W_law 63 [.inr (some 2), .inl n] t0 (fun r t1 => r = some V ∧ hy_F cX t0 t1) ∧ ∀ t1, hy_F cX t0 t1 → hy_Ct sc hm_M_law 8 [.inr (some 59), .inl n] t1 (hy_r V) := by
  have z : t0 3 1 = 0 := rfl
  refine ⟨-1, (c_W_law t0_tp).mono (fun r t' q => ?_), fun t1 h => c_M_law0 (h 59 9 rfl)⟩
  rw [show wf_law t0 n = (-1, t0) by unfold wf_law; rw [if_neg (by omega)]] at q
  obtain ⟨rfl, rfl⟩ := q
  exact ⟨rfl, hy_F.rf⟩
theorem g5 {n : Int} : ∃ V, hy_Ct sc hm_W_land 5 [.inr (some 2), .inl n] t0 (fun r t1 => r = some V ∧ hy_F cX t0 t1) ∧ ∀ t1, hy_F cX t0 t1 → hy_Ct sc hm_M_land 3 [.inr (some 59), .inl n] t1 (hy_r V) := by
  have z : t0 3 1 = 0 := rfl
  refine ⟨-1, (c_W_land t0_tp).mono (fun r t' q => ?_), fun t1 h => c_M_land0 (h 59 9 rfl)⟩
  rw [show wf_land t0 n = (-1, t0) by unfold wf_land; rw [if_neg (by omega)]] at q
  obtain ⟨rfl, rfl⟩ := q
  exact ⟨rfl, hy_F.rf⟩
theorem g6 {n : Int} : ∃ V, hy_Ct sc hm_W_treaties 5 [.inr (some 2), .inl n] t0 (fun r t1 => r = some V ∧ hy_F cX t0 t1) ∧ ∀ t1, hy_F cX t0 t1 → hy_Ct sc hm_M_treaties 5 [.inr (some 59), .inl n] t1 (hy_r V) := by
  have z : t0 3 1 = 0 := rfl
  refine ⟨-1, (c_W_treaties0 (by omega)).mono (fun r t' q => ?_), fun t1 h => c_M_treaties0 (h 59 9 rfl)⟩
  obtain ⟨rfl, rfl⟩ := q
  exact ⟨rfl, hy_F.rf⟩
theorem g7 {n : Int} : ∃ V, hy_Ct sc hm_W_judged 5 [.inr (some 2), .inl n] t0 (fun r t1 => r = some V ∧ hy_F cX t0 t1) ∧ ∀ t1, hy_F cX t0 t1 → hy_Ct sc hm_M_judged 5 [.inr (some 59), .inl n] t1 (hy_r V) := by
  have z : t0 3 1 = 0 := rfl
  refine ⟨-1, (c_W_judged0 (by omega)).mono (fun r t' q => ?_), fun t1 h => c_M_judged0 (h 59 9 rfl)⟩
  obtain ⟨rfl, rfl⟩ := q
  exact ⟨rfl, hy_F.rf⟩
theorem g8 {n : Int} : ∃ V, hy_Ct sc hm_W_days 6 [.inr (some 2), .inl n] t0 (fun r t1 => r = some V ∧ hy_F cX t0 t1) ∧ ∀ t1, hy_F cX t0 t1 → hy_Ct sc hm_M_days 6 [.inr (some 59), .inl n] t1 (hy_r V) := by
  refine ⟨if 1 ≤ n ∧ n ≤ 99 then 0 else -1, (c_W_days t0_st t0_lc).mono (fun r t' q => ?_), fun t1 h => c_M_days0 (h 59 34 rfl) (by rw [h 59 2 rfl]; decide)⟩
  by_cases hq : 1 ≤ n ∧ n ≤ 99
  · rw [if_pos hq] at q ⊢
    obtain ⟨rfl, hF⟩ := q
    refine ⟨by rw [(sp_days_0 33 (t := t0) rfl n).1]; rfl, ?_⟩
    exact (cX_of (sp_days_s 33 t0_st n).2.1 (fun r j hr => by simp [dzX]; omega)).tr' (cX_of hF (fun r j hr => by simp [eX]; omega))
  · rw [if_neg hq] at q ⊢
    obtain ⟨rfl, rfl⟩ := q
    exact ⟨rfl, hy_F.rf⟩
theorem g9 {n w : Int} : ∃ V, hy_Ct sc hm_W_tried 6 [.inr (some 2), .inl n, .inl w] t0 (fun r t1 => r = some V ∧ hy_F cX t0 t1) ∧ ∀ t1, hy_F cX t0 t1 → hy_Ct sc hm_M_tried 6 [.inr (some 59), .inl n, .inl w] t1 (hy_r V) := by
  refine ⟨if (1 ≤ n ∧ n ≤ 99) ∧ 0 ≤ w ∧ w < 3 then (if w = 0 then 0 else -2) else -1, (c_W_tried t0_st t0_lc).mono (fun r t' q => ?_), fun t1 h => c_M_tried0 (h 59 0 rfl) (h 59 34 rfl) (by rw [h 59 2 rfl]; decide)⟩
  obtain ⟨rfl, hF⟩ := q
  refine ⟨congrArg some ?_, cX_of hF (fun r j hr => by simp [trX]; omega)⟩
  unfold wf_tried
  by_cases hq : (1 ≤ n ∧ n ≤ 99) ∧ 0 ≤ w ∧ w < 3
  · rw [if_pos ⟨hq.1, .inl hq.2⟩, if_pos hq]
    obtain ⟨a, b, c⟩ := sp_days_0 41 (t := sp_scopy t0 33 41) rfl n
    unfold wf_told
    by_cases w0 : w = 0
    · rw [if_pos w0, if_pos w0, a]; rfl
    · rw [if_neg w0, if_neg w0]
      by_cases w1 : w = 1
      · rw [if_pos w1, b]
      · rw [if_neg w1, if_pos (by omega), c]
  · rw [if_neg (fun q => by
      rcases q.2 with h | h
      · exact hq ⟨q.1, h⟩
      · rw [wf_plain_0 rfl] at h; cases h), if_neg hq]
theorem g10 {n w : Int} : ∃ V, hy_Ct sc hm_W_treatyIs 2 [.inr (some 2), .inl n, .inl w] t0 (fun r t1 => r = some V ∧ hy_F cX t0 t1) ∧ ∀ t1, hy_F cX t0 t1 → hy_Ct sc hm_M_treatyIs 1 [.inr (some 59), .inl n, .inl w] t1 (hy_r V) := by
  refine ⟨-1, (c_W_treatyIs (by decide)).mono (fun r t' q => ?_), fun t1 h => ?_⟩
  · obtain ⟨rfl, rfl⟩ := q
    have z : t0 33 3 = 0 := rfl
    exact ⟨congrArg some (by rw [if_neg (by omega)]), hy_F.rf⟩
  · have z : t1 59 34 = 0 := h 59 34 rfl
    exact (c_M_treatyIs (by omega)).mono (fun r t' q => q.1.trans (congrArg some (by rw [if_neg (by omega)])))
theorem t_told (c : Int) : ¬ sp_told (t0 5 2) c = true := by rw [show t0 5 2 = 0 from rfl, sp_told_0]; decide
theorem g11 {a b c : Int} : ∃ V, hy_Ct sc hm_W_sees 5 [.inr (some 2), .inl a, .inl b, .inl c] t0 (fun r t1 => r = some V ∧ hy_F cX t0 t1) ∧ ∀ t1, hy_F cX t0 t1 → hy_Ct sc hm_M_sees 6 [.inr (some 59), .inl a, .inl b, .inl c] t1 (hy_r V) := by
  refine ⟨-1, (c_W_sees t0_lc).mono (fun r t' q => ?_), fun t1 h => c_M_sees0 (h 59 0 rfl)⟩
  obtain ⟨rfl, hF⟩ := q
  exact ⟨congrArg some (if_neg (fun q => t_told _ q.2.1)), cX_of hF (fun r j hr => by simp [eX]; omega)⟩
theorem g12 {a b c : Int} : ∃ V, hy_Ct sc hm_W_appears 5 [.inr (some 2), .inl a, .inl b, .inl c] t0 (fun r t1 => r = some V ∧ hy_F cX t0 t1) ∧ ∀ t1, hy_F cX t0 t1 → hy_Ct sc hm_M_appears 7 [.inr (some 59), .inl a, .inl b, .inl c] t1 (hy_r V) := by
  refine ⟨if (0 ≤ a ∧ a < 6) ∧ b = 12 ∧ 0 ≤ c ∧ c < 4 then 12 else -1, (c_W_appears t0_lc).mono (fun r t' q => ?_), fun t1 h => c_M_appears0 (h 59 0 rfl)⟩
  obtain ⟨rfl, hF⟩ := q
  refine ⟨congrArg some ?_, cX_of hF (fun r j hr => by simp [lX]; omega)⟩
  unfold wf_appears
  by_cases hq : (0 ≤ a ∧ a < 6) ∧ b = 12 ∧ 0 ≤ c ∧ c < 4
  · rw [if_pos hq, if_pos ⟨hq.1, .inr hq.2.1, hq.2.2⟩, hq.2.1, lk_12]
  · rw [if_neg hq, if_neg (fun q => by
      rcases q.2.1 with h | h
      · exact t_told _ h
      · exact hq ⟨q.1, h, q.2.2⟩)]
theorem g13 {a b c d : Int} : ∃ V, hy_Ct sc hm_W_child 6 [.inr (some 2), .inl a, .inl b, .inl c, .inl d] t0 (fun r t1 => r = some V ∧ hy_F cX t0 t1) ∧ ∀ t1, hy_F cX t0 t1 → hy_Ct sc hm_M_child 6 [.inr (some 59), .inl a, .inl b, .inl c, .inl d] t1 (hy_r V) := by
  refine ⟨-1, (c_W_child t0_lc).mono (fun r t' q => ?_), fun t1 h => c_M_child0 (h 59 0 rfl)⟩
  obtain ⟨rfl, hF⟩ := q
  exact ⟨congrArg some (if_neg (fun q => t_told _ q.2.1)), cX_of hF (fun r j hr => by simp [eX]; omega)⟩
theorem g14 {a b c d e : Int} : ∃ V, hy_Ct sc hm_W_unseen 5 [.inr (some 2), .inl a, .inl b, .inl c, .inl d, .inl e] t0 (fun r t1 => r = some V ∧ hy_F cX t0 t1) ∧ ∀ t1, hy_F cX t0 t1 → hy_Ct sc hm_M_unseen 7 [.inr (some 59), .inl a, .inl b, .inl c, .inl d, .inl e] t1 (hy_r V) := by
  refine ⟨-1, (c_W_unseen t0_lc).mono (fun r t' q => ?_), fun t1 h => c_M_unseen0 (h 59 0 rfl)⟩
  obtain ⟨rfl, hF⟩ := q
  exact ⟨congrArg some (if_neg (fun q => t_told _ q.2.1)), cX_of hF (fun r j hr => by simp [lX]; omega)⟩
theorem g15 {a b c d e f : Int} : ∃ V, hy_Ct sc hm_W_way 5 [.inr (some 2), .inl a, .inl b, .inl c, .inl d, .inl e, .inl f] t0 (fun r t1 => r = some V ∧ hy_F cX t0 t1) ∧ ∀ t1, hy_F cX t0 t1 → hy_Ct sc hm_M_way 7 [.inr (some 59), .inl a, .inl b, .inl c, .inl d, .inl e, .inl f] t1 (hy_r V) := by
  refine ⟨-1, (c_W_way0 (by rw [show t0 5 2 = 0 from rfl, sp_told_0])).mono (fun r t' q => ?_), fun t1 h => c_M_way0 (h 59 0 rfl)⟩
  obtain ⟨rfl, rfl⟩ := q
  exact ⟨rfl, hy_F.rf⟩
theorem pX_cX {t1 : hy_T} (h : hy_F pX t0 t1) : hy_F cX t0 t1 := cX_of h (fun r j hr => by simp [pX]; omega)
theorem g16 {a b : Int} : ∃ V, hy_Ct sc hm_W_worth 6 [.inr (some 2), .inl a, .inl b] t0 (fun r t1 => r = some V ∧ hy_F cX t0 t1) ∧ ∀ t1, hy_F cX t0 t1 → hy_Ct sc hm_M_worth 7 [.inr (some 59), .inl a, .inl b] t1 (hy_r V) := by
  refine ⟨if (0 ≤ a ∧ a < 6) ∧ 0 ≤ b ∧ b < 4 then 0 else -1, (c_W_worth t0_lc).mono (fun r t' q => ?_), fun t1 h => c_M_worth0 (h 59 0 rfl)⟩
  obtain ⟨rfl, hF⟩ := q
  exact ⟨congrArg some (by unfold wf_worth; rw [t0_worth]), pX_cX hF⟩
theorem g17 {a b c : Int} : ∃ V, hy_Ct sc hm_W_gain 6 [.inr (some 2), .inl a, .inl b, .inl c] t0 (fun r t1 => r = some V ∧ hy_F cX t0 t1) ∧ ∀ t1, hy_F cX t0 t1 → hy_Ct sc hm_M_gain 7 [.inr (some 59), .inl a, .inl b, .inl c] t1 (hy_r V) := by
  refine ⟨-1000000000, (c_W_gain0 (wf_plain_0 rfl b)).mono (fun r t' q => ?_), fun t1 h => c_M_gain0 (h 59 0 rfl)⟩
  obtain ⟨rfl, rfl⟩ := q
  exact ⟨rfl, hy_F.rf⟩
theorem g18 {a b c d e : Int} (ha : hy_R a) : ∃ V, hy_Ct sc hm_W_power 6 [.inr (some 2), .inl a, .inl b, .inl c, .inl d, .inl e] t0 (fun r t1 => r = some V ∧ hy_F cX t0 t1) ∧ ∀ t1, hy_F cX t0 t1 → hy_Ct sc hm_M_power 8 [.inr (some 59), .inl a, .inl b, .inl c, .inl d, .inl e] t1 (hy_r V) := by
  refine ⟨-1000000000, (c_W_power0 ?_).mono (fun r t' q => ?_), fun t1 h => c_M_power0 (h 59 0 rfl)⟩
  · rw [show t0 5 2 = 0 from rfl, hz_iand_0, hz_iand_n0 ha]
    by_cases h : a = 0
    · right; rw [h, sp_bc_00]; decide
    · exact .inl h
  · obtain ⟨rfl, rfl⟩ := q
    exact ⟨rfl, hy_F.rf⟩
theorem g19 {a b c d e : Int} : ∃ V, hy_Ct sc hm_W_signals 6 [.inr (some 2), .inl a, .inl b, .inl c, .inl d, .inl e] t0 (fun r t1 => r = some V ∧ hy_F cX t0 t1) ∧ ∀ t1, hy_F cX t0 t1 → hy_Ct sc hm_M_signals 8 [.inr (some 59), .inl a, .inl b, .inl c, .inl d, .inl e] t1 (hy_r V) := by
  refine ⟨if wf_sigok a b c d e then (if e = 1 then -2 else 0) else -1, (c_W_signals t0_lc).mono (fun r t' q => ?_), fun t1 h => c_M_signals0 (h 59 0 rfl)⟩
  obtain ⟨rfl, hF⟩ := q
  exact ⟨congrArg some (t0_signals a b c d e), cX_of hF (fun r j hr => by simp [snX]; omega)⟩
theorem g20 {a b : Int} : ∃ V, hy_Ct sc hm_W_parted 4 [.inr (some 2), .inl a, .inl b] t0 (fun r t1 => r = some V ∧ hy_F cX t0 t1) ∧ ∀ t1, hy_F cX t0 t1 → hy_Ct sc hm_M_parted 2 [.inr (some 59), .inl a, .inl b] t1 (hy_r V) := by
  refine ⟨-1, (c_W_parted0 (by decide)).mono (fun r t' q => ?_), fun t1 h => c_M_parted0 (by rw [h 59 9 rfl]; decide)⟩
  obtain ⟨rfl, rfl⟩ := q
  exact ⟨rfl, hy_F.rf⟩
theorem g21 {a b c d : Int} : ∃ V, hy_Ct sc hm_W_battle 6 [.inr (some 2), .inl a, .inl b, .inl c, .inl d] t0 (fun r t1 => r = some V ∧ hy_F cX t0 t1) ∧ ∀ t1, hy_F cX t0 t1 → hy_Ct sc hm_M_battle 8 [.inr (some 59), .inl a, .inl b, .inl c, .inl d] t1 (hy_r V) := by
  refine ⟨_, (c_W_battle0 t0_lc (fun e => t0_had e c)).mono (fun r t' q => ⟨q.1, cX_of q.2 (fun r j hr => ?_)⟩), fun t1 h => c_M_battle0 (h 59 0 rfl)⟩
  simp [fX]; omega
theorem g22 {a b : Int} : ∃ V, hy_Ct sc hm_W_spies 6 [.inr (some 2), .inl a, .inl b] t0 (fun r t1 => r = some V ∧ hy_F cX t0 t1) ∧ ∀ t1, hy_F cX t0 t1 → hy_Ct sc hm_M_spies 9 [.inr (some 59), .inl a, .inl b] t1 (hy_r V) := by
  refine ⟨-1, (c_W_spies0 (by decide)).mono (fun r t' q => ?_), fun t1 h => c_M_spies0 (by rw [h 59 9 rfl]; decide)⟩
  obtain ⟨rfl, rfl⟩ := q
  exact ⟨rfl, hy_F.rf⟩
theorem g23 {a b : Int} (ha : hy_R a) : ∃ V, hy_Ct sc hm_W_painting 5 [.inr (some 2), .inl a, .inl b] t0 (fun r t1 => r = some V ∧ hy_F cX t0 t1) ∧ ∀ t1, hy_F cX t0 t1 → hy_Ct sc hm_M_painting 6 [.inr (some 59), .inl a, .inl b] t1 (hy_r V) := by
  refine ⟨if a = 0 ∧ 0 ≤ b ∧ b < 3 then (if b = 0 then 24 else 0) else -1, (c_W_painting t0_lc).mono (fun r t' q => ?_), fun t1 h => c_M_painting0 (h 59 0 rfl)⟩
  obtain ⟨rfl, hF⟩ := q
  refine ⟨congrArg some ?_, cX_of hF (fun r j hr => by simp [eX]; omega)⟩
  unfold wf_painting
  rw [show t0 5 2 = 0 from rfl, hz_iand_n0 ha]
  by_cases hq : a = 0 ∧ 0 ≤ b ∧ b < 3
  · rw [if_pos hq, if_pos hq, hq.1, wf_paintN_0]
    dsimp only
    by_cases b0 : b = 0
    · rw [if_pos b0, if_pos b0]; rfl
    · rw [if_neg b0, if_neg b0, if_neg (by decide)]
      by_cases b1 : b = 1
      · rw [if_pos b1]; rfl
      · rw [if_neg b1]; rfl
  · rw [if_neg hq, if_neg hq]
theorem g24 {a b c : Int} : ∃ V, hy_Ct sc hm_W_ash 5 [.inr (some 2), .inl a, .inl b, .inl c] t0 (fun r t1 => r = some V ∧ hy_F cX t0 t1) ∧ ∀ t1, hy_F cX t0 t1 → hy_Ct sc hm_M_ash 7 [.inr (some 59), .inl a, .inl b, .inl c] t1 (hy_r V) := by
  refine ⟨if ((0 ≤ a ∧ a < 6) ∧ 0 ≤ b ∧ b < 4) ∧ 0 ≤ c ∧ c < 3 then (if c = 2 then 1 else 64) else -1, (c_W_ash t0_lc t0_stk).mono (fun r t' q => ?_), fun t1 h => c_M_ash0 (h 59 0 rfl) (fun f _ => h 63 f rfl)⟩
  by_cases hq : ((0 ≤ a ∧ a < 6) ∧ 0 ≤ b ∧ b < 4) ∧ 0 ≤ c ∧ c < 3
  · rw [if_pos hq] at q ⊢
    obtain ⟨t1, hF, hL, ht, hr⟩ := q
    have h9 : ∀ f : Nat, t1 9 f = 12 := fun f => hF 9 f rfl
    have hs : pa_stk (wf_ashN t1 64) := pa_stk_F (wf_ashN_F t1 64) (fun _ => rfl) (pa_stk_F hF (fun _ => rfl) t0_stk)
    obtain ⟨s1, s2, s3⟩ := fl_seas (fun j hj => wf_ashN_1 h9 64 j hj) 64 (Nat.le_refl _) (by decide)
    have hG : hy_F cX t0 (pa_seaN (wf_ashN t1 64) 64) := ((cX_of hF (fun r j hr => by simp [lX]; omega)).tr' (cX_of (wf_ashN_F t1 64) (fun r j hr => by simp; omega))).tr' (cX_of (pa_sea_s hs 64).2.2 (fun r j hr => by simp [paX]; omega))
    rw [wf_ashes_64 h9] at hr
    rw [← ht] at s2 s3 hG
    refine ⟨hr.trans (congrArg some ?_), hG⟩
    rw [s2, s3]
    by_cases c0 : c = 0
    · rw [if_pos c0, if_neg (by omega)]; rfl
    · rw [if_neg c0]
      by_cases c1 : c = 1
      · rw [if_pos c1, if_neg (by omega)]
      · rw [if_neg c1, if_pos (by omega)]
  · rw [if_neg hq] at q ⊢
    obtain ⟨rfl, rfl⟩ := q
    exact ⟨rfl, hy_F.rf⟩
theorem g25 {a : Int} : ∃ V, hy_Ct sc hm_W_seed 1 [.inr (some 2), .inl a] t0 (fun r t1 => r = some V ∧ hy_F cX t0 t1) ∧ ∀ t1, hy_F cX t0 t1 → hy_Ct sc hm_M_seed 1 [.inr (some 59), .inl a] t1 (hy_r V) :=
  ⟨hy_b (wf_seed a), c_W_seed.mono (fun r t' q => by
    obtain ⟨rfl, rfl⟩ := q
    refine ⟨rfl, ?_⟩
    split
    · exact hy_F.rf.up rfl
    · exact hy_F.rf), fun t1 h => c_M_seed.mono (fun r t' q => q.1)⟩
theorem g26 : ∃ V, hy_Ct sc hm_W_keep 1 [.inr (some 2)] t0 (fun r t1 => r = some V ∧ hy_F cX t0 t1) ∧ ∀ t1, hy_F cX t0 t1 → hy_Ct sc hm_M_keep 1 [.inr (some 59)] t1 (hy_r V) := by
  refine ⟨0, c_W_keep.mono (fun r t' q => ?_), fun t1 h => c_M_keep.mono (fun r t' q => by rw [q.1, mf_keep_34, h 59 34 rfl]; rfl)⟩
  obtain ⟨rfl, rfl⟩ := q
  refine ⟨rfl, hy_F.up ?_ rfl⟩
  intro r j q
  simp only [cX, decide_eq_false_iff_not] at q
  simp only [sp_scopy, hy_up, hy_cp]
  repeat (rw [if_neg (by omega)])
theorem g27 : ∃ V, hy_Ct sc hm_W_undo 1 [.inr (some 2)] t0 (fun r t1 => r = some V ∧ hy_F cX t0 t1) ∧ ∀ t1, hy_F cX t0 t1 → hy_Ct sc hm_M_undo 1 [.inr (some 59)] t1 (hy_r V) := by
  refine ⟨0, c_W_undo.mono (fun r t' q => ?_), fun t1 h => c_M_undo.mono (fun r t' q => by rw [q.1, if_pos (show t1 59 57 = 0 from h 59 57 rfl)])⟩
  rw [if_pos (show t0 2 9 = 0 from rfl), if_pos (show t0 2 9 = 0 from rfl)] at q
  obtain ⟨rfl, rfl⟩ := q
  exact ⟨rfl, hy_F.rf⟩
theorem g28 {n : Int} : ∃ V, hy_Ct sc hm_W_check 2 [.inr (some 2), .inl n] t0 (fun r t1 => r = some V ∧ hy_F cX t0 t1) ∧ ∀ t1, hy_F cX t0 t1 → hy_Ct sc hm_M_check 1 [.inr (some 59), .inl n] t1 (hy_r V) := by
  have z : t0 3 1 = 0 := rfl
  refine ⟨if n = 0 then -1 else -2, (c_W_check (by decide)).mono (fun r t' q => ?_), fun t1 h => ?_⟩
  · obtain ⟨rfl, rfl⟩ := q
    by_cases hn : n = 0
    · have hc : (0 ≤ n ∧ n ≤ 8) ∧ 4 * n ≤ t0 3 1 := by omega
      rw [if_pos hc, if_pos hc, if_pos hn]
      exact ⟨congrArg some (by rw [hn]; rfl), hy_F.rf.up rfl⟩
    · have hc : ¬ ((0 ≤ n ∧ n ≤ 8) ∧ 4 * n ≤ t0 3 1) := by omega
      rw [if_neg hc, if_neg hc, if_neg hn]
      exact ⟨rfl, hy_F.rf⟩
  · have z1 : t1 59 9 = 0 := h 59 9 rfl
    refine (c_M_check (by omega)).mono (fun r t' q => q.1.trans (congrArg some ?_))
    by_cases hn : n = 0
    · subst hn
      rw [if_pos (by omega), if_pos rfl]
      rfl
    · rw [if_neg (by omega), if_neg hn]
theorem g29 {w : Int} (hw : hy_R w) : ∃ V, hy_Ct sc hm_W_count 3 [.inr (some 2), .inl w] t0 (fun r t1 => r = some V ∧ hy_F cX t0 t1) ∧ ∀ t1, hy_F cX t0 t1 → hy_Ct sc hm_M_count 4 [.inr (some 59), .inl w] t1 (hy_r V) := by
  refine ⟨wf_count0 w, (c_W_count hw (fun j hj => (show -1 ≤ (0 : Int) ∧ (0 : Int) < 12 by decide)) (fun j hj => (show -1 ≤ (0 : Int) ∧ (0 : Int) < 12 by decide))).mono (fun r t' q => ?_), fun t1 h => (c_M_count (fun j hj => ⟨by rw [h 60 j rfl]; exact (show -1 ≤ (-1 : Int) ∧ (-1 : Int) < 12 by decide), by rw [h 61 j rfl]; exact (show -1 ≤ (0 : Int) ∧ (0 : Int) < 12 by decide)⟩)).mono (fun r t' q => q.1.trans (congrArg some (m0_count h w)))⟩
  obtain ⟨rfl, rfl⟩ := q
  exact ⟨congrArg some (t0_count w), hy_F.rf⟩
end P1
