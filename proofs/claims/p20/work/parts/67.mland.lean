/-! the model's land, as it is read -/
abbrev ld_run (c : Int) : Prop := 49 ≤ c ∧ c ≤ 56
abbrev ld_let (c : Int) : Prop := c = 46 ∨ (97 ≤ c ∧ c ≤ 108)
def ld_col (c : Int) : Int := if c = 46 then 12 else c - 97
def ld_paintN (t : hy_T) (p : Nat) (v : Int) : Nat → hy_T
  | 0 => t
  | k + 1 => hy_up (ld_paintN t p v k) 96 (p + k) v
def ld_times (t : hy_T) : Nat := if ld_run (mp_here t) then (mp_here t - 48).toNat else 1
def ld_t1 (t : hy_T) : hy_T := if ld_run (mp_here t) then mp_st t else t
def ld_rowN (row : Nat) : Nat → hy_T → Nat → Bool × hy_T
  | 0, t, _ => (false, t)
  | n + 1, t, many =>
    if many = 8 ∧ ¬ ld_run (mp_here t) ∧ ¬ ld_let (mp_here t) then (true, t)
    else if (ld_run (mp_here t) ∨ ld_let (mp_here t)) ∧ 8 < many + ld_times t then (false, mp_wr t 6 (t 59 10))
    else if ¬ ld_let (mp_here (ld_t1 t)) then (false, mp_wr (ld_t1 t) 1 (ld_t1 t 59 10))
    else if mp_here (ld_t1 t) ≠ 46 ∧ sp_told (t 59 0) (mp_here (ld_t1 t) - 97) = false then (false, mp_wr (ld_t1 t) 7 (ld_t1 t 59 10))
    else ld_rowN row n (mp_st (ld_paintN (ld_t1 t) (8 * row + many) (ld_col (mp_here (ld_t1 t))) (ld_times t))) (many + ld_times t)
def ld_row (t : hy_T) (row : Nat) : Bool × hy_T := ld_rowN row 9 t 0
def ld_rowsN : Nat → Nat → Bool × hy_T → Bool × hy_T
  | 0, _, p => p
  | n + 1, row, p => if p.1 = true then ld_rowsN n (row + 1) (if (mp_take p.2 47).1 = true then ld_row (mp_take p.2 47).2 row else (false, (mp_take p.2 47).2)) else p
def ld_end (p : Bool × hy_T) : Bool × hy_T := if p.1 = true ∧ p.2 59 10 < p.2 59 11 then (false, mp_wr p.2 1 (p.2 59 10)) else p
def ld_t0 (t : hy_T) (n : Int) : hy_T := hy_up (hy_up t 59 10 0) 59 11 n
def ld_read (t : hy_T) (n : Int) : Bool × hy_T := ((ld_end (ld_rowsN 7 1 (ld_row (ld_t0 t n) 0))).1, hy_up (ld_end (ld_rowsN 7 1 (ld_row (ld_t0 t n) 0))).2 59 9 0)
def ld_cpN (t : hy_T) : Nat → hy_T
  | 0 => t
  | k + 1 => hy_up (ld_cpN t k) 63 k (ld_cpN t k 96 k)
def ld_cntN (t : hy_T) : Nat → Int
  | 0 => 0
  | k + 1 => ld_cntN t k + (if t 96 k = 12 then 0 else 1)
theorem ld_cntN_in (t : hy_T) : ∀ n : Nat, 0 ≤ ld_cntN t n ∧ ld_cntN t n ≤ n
  | 0 => by simp [ld_cntN]
  | n + 1 => by
    have h := ld_cntN_in t n
    simp only [ld_cntN]
    split <;> omega
theorem ld_cpN_F (t : hy_T) : ∀ n : Nat, hy_F (fun r _ => r == 63) t (ld_cpN t n)
  | 0 => hy_F.rf
  | n + 1 => (ld_cpN_F t n).up rfl
theorem ld_cpN_v (t : hy_T) : ∀ (n k : Nat), ld_cpN t n 63 k = if k < n then t 96 k else t 63 k
  | 0, k => by rw [if_neg (by omega)]; rfl
  | n + 1, k => by
    simp only [ld_cpN]
    by_cases h : k = n
    · subst h
      rw [if_pos (by omega)]
      simp only [hy_up, true_and, if_true]
      exact ld_cpN_F t k 96 k rfl
    · rw [show hy_up (ld_cpN t n) 63 n (ld_cpN t n 96 n) 63 k = ld_cpN t n 63 k by simp [hy_up, h], ld_cpN_v t n k]
      by_cases h2 : k < n
      · rw [if_pos h2, if_pos (by omega)]
      · rw [if_neg h2, if_neg (by omega)]
/-- the drafted colours are colours -/
abbrev nl_ok (t : hy_T) : Prop := ∀ f : Nat, f < 64 → 0 ≤ t 96 f ∧ t 96 f ≤ 12
abbrev ldX : Nat → Nat → Bool := fun r j => r == 96 || (r == 59 && (j == 10 || j == 12))
def ld_s (t t1 : hy_T) : Prop := mp_ok t1 ∧ hy_F ldX t t1 ∧ nl_ok t1
theorem ld_s.tr {a b c : hy_T} (h : ld_s a b) (k : ld_s b c) : ld_s a c := ⟨k.1, h.2.1.tr' k.2.1, k.2.2⟩
theorem ld_s_st {t : hy_T} (h : mp_ok t) (hn : nl_ok t) (h0 : 0 ≤ mp_here t) : ld_s t (mp_st t) := ⟨mp_st_ok h h0, hy_F.rf.up rfl, hn⟩
theorem ld_s_wr {t : hy_T} (h : mp_ok t) (hn : nl_ok t) (n w : Int) : ld_s t (mp_wr t n w) := ⟨h, hy_F.rf.up rfl, hn⟩
theorem ld_s_paint {t : hy_T} (h : mp_ok t) (hn : nl_ok t) (p : Nat) {v : Int} (hv : 0 ≤ v ∧ v ≤ 12) : ∀ k : Nat, ld_s t (ld_paintN t p v k)
  | 0 => ⟨h, hy_F.rf, hn⟩
  | k + 1 => by
    obtain ⟨a, b, c⟩ := ld_s_paint h hn p hv k
    refine ⟨mp_ok_F (X := fun r _ => r == 96) (hy_F.rf.up rfl) rfl rfl a, b.up rfl, fun f hf => ?_⟩
    simp only [ld_paintN, hy_up]
    split
    · exact hv
    · exact c f hf
theorem ld_paint_here (t : hy_T) (p : Nat) (v : Int) : ∀ k : Nat, mp_here (ld_paintN t p v k) = mp_here t
  | 0 => rfl
  | k + 1 => by
    rw [← ld_paint_here t p v k]
    rfl
theorem ld_t1_s {t : hy_T} (h : mp_ok t) (hn : nl_ok t) : ld_s t (ld_t1 t) := by
  unfold ld_t1
  split
  · next hr => exact ld_s_st h hn (by omega)
  · exact ⟨h, hy_F.rf, hn⟩
theorem ld_col_in {c : Int} (h : ld_let c) : 0 ≤ ld_col c ∧ ld_col c ≤ 12 := by
  unfold ld_col
  split <;> omega
theorem ld_rowN_s (row : Nat) : ∀ (n : Nat) {t : hy_T} (many : Nat), mp_ok t → nl_ok t → ld_s t (ld_rowN row n t many).2
  | 0, t, many, h, hn => ⟨h, hy_F.rf, hn⟩
  | n + 1, t, many, h, hn => by
    have h1 := ld_t1_s h hn
    simp only [ld_rowN]
    split
    · exact ⟨h, hy_F.rf, hn⟩
    · split
      · exact ld_s_wr h hn _ _
      · split
        · exact h1.tr (ld_s_wr h1.1 h1.2.2 _ _)
        · next hl =>
          have hl2 : ld_let (mp_here (ld_t1 t)) := Decidable.not_not.mp hl
          split
          · exact h1.tr (ld_s_wr h1.1 h1.2.2 _ _)
          · have h2 := ld_s_paint h1.1 h1.2.2 (8 * row + many) (ld_col_in hl2) (ld_times t)
            have h3 := ld_s_st h2.1 h2.2.2 (by rw [ld_paint_here]; omega)
            exact ((h1.tr h2).tr h3).tr (ld_rowN_s row n _ h3.1 h3.2.2)
theorem ld_take_s {t : hy_T} (h : mp_ok t) (hn : nl_ok t) : ld_s t (mp_take t 47).2 := by
  obtain ⟨a1, a2, -, -⟩ := mp_take_s (c := 47) h (by decide)
  exact ⟨a1, a2.w (fun r j q => by revert q; simp [ldX, mpX]), fun f hf => by rw [a2 96 f rfl]; exact hn f hf⟩
theorem ld_rowsN_s : ∀ (n row : Nat) {p : Bool × hy_T}, mp_ok p.2 → nl_ok p.2 → ld_s p.2 (ld_rowsN n row p).2
  | 0, row, p, h, hn => ⟨h, hy_F.rf, hn⟩
  | n + 1, row, p, h, hn => by
    have h1 := ld_take_s h hn
    simp only [ld_rowsN]
    split
    · split
      · have h2 := ld_rowN_s row 9 0 h1.1 h1.2.2
        exact (h1.tr h2).tr (ld_rowsN_s n (row + 1) (p := ld_row (mp_take p.2 47).2 row) h2.1 h2.2.2)
      · exact h1.tr (ld_rowsN_s n (row + 1) (p := (false, (mp_take p.2 47).2)) h1.1 h1.2.2)
    · exact ⟨h, hy_F.rf, hn⟩
theorem ld_end_s {p : Bool × hy_T} (h : mp_ok p.2) (hn : nl_ok p.2) : ld_s p.2 (ld_end p).2 := by
  unfold ld_end
  split
  · exact ld_s_wr h hn _ _
  · exact ⟨h, hy_F.rf, hn⟩
abbrev ldrX : Nat → Nat → Bool := fun r j => r == 96 || (r == 59 && (j == 9 || j == 10 || j == 11 || j == 12))
theorem ld_t0_s {t : hy_T} (hn : nl_ok t) {n : Int} (h : n ≤ 260) : mp_ok (ld_t0 t n) ∧ nl_ok (ld_t0 t n) ∧ hy_F ldrX t (ld_t0 t n) := by
  refine ⟨⟨⟨?_, ?_⟩, ?_⟩, hn, (hy_F.rf.up rfl).up rfl⟩
  · show (0 : Int) ≤ 0; decide
  · show (0 : Int) ≤ 260; decide
  · exact h
theorem ld_read_s {t : hy_T} (hn : nl_ok t) {n : Int} (h : n ≤ 260) : nl_ok (ld_read t n).2 ∧ hy_F ldrX t (ld_read t n).2 := by
  obtain ⟨a1, a2, a3⟩ := ld_t0_s hn h
  have b := ld_rowN_s 0 9 0 a1 a2
  have c := ld_rowsN_s 7 1 (p := ld_row (ld_t0 t n) 0) b.1 b.2.2
  have d := ld_end_s (p := ld_rowsN 7 1 (ld_row (ld_t0 t n) 0)) c.1 c.2.2
  have e := (b.tr c).tr d
  exact ⟨e.2.2, (a3.tr' (e.2.1.w (fun r j q => by revert q; simp [ldrX, ldX]; omega))).up rfl⟩
section LA
variable {sc : List Int32} {t : hy_T}
theorem c_M_readsRow {row : Nat} (hr : row < 8) (h : mp_ok t) (hn : nl_ok t) : hy_Ct sc hm_M_readsRow 2 [.inr (some 59), .inl (row : Int)] t (hy_e (some (hy_b (ld_row t row).1)) (ld_row t row).2) := by
  refine hy_mk_ct ok_M_readsRow ck_M_readsRow (Nat.le_of_ble_eq_true rfl) ?_
  generalize hG : ld_row t row = G
  have loop : ∀ (m : Nat), ∀ (u : hy_T) (many : Nat) (v3 v4 v5 v6 : hy_V), many ≤ 8 → 9 ≤ m + many → mp_ok u → nl_ok u → ld_rowN row m u many = G → hy_W sc hm_M_readsRow 2 2 [.inr (some 59), .inl (row : Int), .inl (many : Int), v3, v4, v5, v6] [] u (hy_e (some (hy_b G.1)) G.2) := by
    intro m
    induction m with
    | zero => intro u many v3 v4 v5 v6 h8 h9; omega
    | succ m ih =>
      intro u many v3 v4 v5 v6 h8 h9 hu hnu hv
      have hp := hu.1
      have hh := mp_here_in u
      simp only [ld_rowN] at hv
      by_cases c1 : many = 8 ∧ ¬ ld_run (mp_here u) ∧ ¬ ld_let (mp_here u)
      · rw [if_pos c1] at hv
        refine hy_aload (i := 2) rfl rfl ?_
        refine hy_cV0e (i := 3) rfl mj_M_here (by decide) rfl (Nat.le_of_ble_eq_true rfl) rfl rfl rfl (c_M_here (by assumption)) ?_
        refine hy_istore (i := 4) rfl ?_
        refine hy_iload (i := 5) rfl rfl ?_
        refine hy_const (i := 6) rfl (by decide) ?_
        refine hy_const (i := 7) rfl (by decide) ?_
        refine hy_cS3e (i := 8) rfl (by decide) mj_M_in (by decide) rfl (Nat.le_of_ble_eq_true rfl) (c_M_in) ?_
        refine hy_istore (i := 9) rfl ?_
        refine hy_iload (i := 10) rfl rfl ?_
        refine hy_const (i := 11) rfl (by decide) ?_
        refine hy_ic_ne (i := 12) (tt := 25) rfl (fun zc1 => ?_) (fun zc1 => ?_)
        · omega
        · refine hy_iload (i := 13) rfl rfl ?_
          refine hy_ib_ne (i := 14) (tt := 25) rfl (fun zc2 => ?_) (fun zc2 => ?_)
          · simp only [decide_eq_true_eq] at *; omega
          · refine hy_iload (i := 15) rfl rfl ?_
            refine hy_const (i := 16) rfl (by decide) ?_
            refine hy_ic_eq (i := 17) (tt := 25) rfl (fun zc3 => ?_) (fun zc3 => ?_)
            · omega
            · refine hy_iload (i := 18) rfl rfl ?_
              refine hy_const (i := 19) rfl (by decide) ?_
              refine hy_const (i := 20) rfl (by decide) ?_
              refine hy_cS3e (i := 21) rfl (by decide) mj_M_in (by decide) rfl (Nat.le_of_ble_eq_true rfl) (c_M_in) ?_
              refine hy_ib_ne (i := 22) (tt := 25) rfl (fun zc4 => ?_) (fun zc4 => ?_)
              · simp only [decide_eq_true_eq] at *; omega
              · refine hy_const (i := 23) rfl (by decide) ?_
                refine hy_zreturn (i := 24) rfl rfl (by first | decide | exact hy_b01 _) ?_
                rw [← hv]; exact ⟨rfl, rfl⟩
      · rw [if_neg c1] at hv
        have rest : ∀ (w : Bool) (v5 v6 : hy_V), w = decide (ld_run (mp_here u)) → hy_W sc hm_M_readsRow 2 25 [.inr (some 59), .inl (row : Int), .inl (many : Int), .inl (mp_here u), .inl (hy_b w), v5, v6] [] u (hy_e (some (hy_b G.1)) G.2) := by
          intro w v5 v6 hw
          have ht : (ld_times u : Int) = if w = true then mp_here u - 48 else 1 := by
            unfold ld_times
            by_cases hr : ld_run (mp_here u)
            · rw [if_pos hr, hw, decide_eq_true hr, if_pos rfl]; omega
            · rw [if_neg hr, hw, decide_eq_false hr]; rfl
          have h1 := ld_t1_s hu hnu
          have ok1 := h1.1
          have e0 : ld_t1 u 59 0 = u 59 0 := h1.2.1 59 0 rfl
          have tm : ∀ (x : Int), x = ld_times u → hy_W sc hm_M_readsRow 2 33 [.inr (some 59), .inl (row : Int), .inl (many : Int), .inl (mp_here u), .inl (hy_b w), .inl x, v6] [] u (hy_e (some (hy_b G.1)) G.2) := by
            intro x hx
            subst hx
            have htl : 1 ≤ ld_times u := by
              rcases hx : w with _ | _
              · rw [hx] at ht; simp at ht; omega
              · have hrr : ld_run (mp_here u) := of_decide_eq_true (by rw [← hw, hx])
                rw [hx, if_pos rfl] at ht; omega
            by_cases c2 : (ld_run (mp_here u) ∨ ld_let (mp_here u)) ∧ 8 < many + ld_times u
            · rw [if_pos c2] at hv
              refine hy_iload (i := 33) rfl rfl ?_
              refine hy_ib_ne (i := 34) (tt := 43) rfl (fun zc1 => ?_) (fun zc1 => ?_)
              · refine hy_iload (i := 43) rfl rfl ?_
                refine hy_iload (i := 44) rfl rfl ?_
                refine hy_iadd (i := 45) rfl (by omega) ?_
                refine hy_const (i := 46) rfl (by decide) ?_
                refine hy_ic_le (i := 47) (tt := 54) rfl (fun zc2 => ?_) (fun zc2 => ?_)
                · omega
                · refine hy_aload (i := 48) rfl rfl ?_
                  refine hy_const (i := 49) rfl (by decide) ?_
                  refine hy_aload (i := 50) rfl rfl ?_
                  refine hy_get (i := 51) (fk := 10) rfl rfl rfl ?_
                  refine hy_cV2e (i := 52) rfl mj_M_wrongAt (by decide) rfl (Nat.le_of_ble_eq_true rfl) rfl rfl rfl (c_M_wrongAt (by decide) hp) ?_
                  refine hy_zreturn (i := 53) rfl rfl (by first | decide | exact hy_b01 _) ?_
                  rw [← hv]; exact ⟨rfl, rfl⟩
              · refine hy_iload (i := 35) rfl rfl ?_
                refine hy_const (i := 36) rfl (by decide) ?_
                refine hy_ic_eq (i := 37) (tt := 43) rfl (fun zc2 => ?_) (fun zc2 => ?_)
                · refine hy_iload (i := 43) rfl rfl ?_
                  refine hy_iload (i := 44) rfl rfl ?_
                  refine hy_iadd (i := 45) rfl (by omega) ?_
                  refine hy_const (i := 46) rfl (by decide) ?_
                  refine hy_ic_le (i := 47) (tt := 54) rfl (fun zc3 => ?_) (fun zc3 => ?_)
                  · omega
                  · refine hy_aload (i := 48) rfl rfl ?_
                    refine hy_const (i := 49) rfl (by decide) ?_
                    refine hy_aload (i := 50) rfl rfl ?_
                    refine hy_get (i := 51) (fk := 10) rfl rfl rfl ?_
                    refine hy_cV2e (i := 52) rfl mj_M_wrongAt (by decide) rfl (Nat.le_of_ble_eq_true rfl) rfl rfl rfl (c_M_wrongAt (by decide) hp) ?_
                    refine hy_zreturn (i := 53) rfl rfl (by first | decide | exact hy_b01 _) ?_
                    rw [← hv]; exact ⟨rfl, rfl⟩
                · refine hy_iload (i := 38) rfl rfl ?_
                  refine hy_const (i := 39) rfl (by decide) ?_
                  refine hy_const (i := 40) rfl (by decide) ?_
                  refine hy_cS3e (i := 41) rfl (by decide) mj_M_in (by decide) rfl (Nat.le_of_ble_eq_true rfl) (c_M_in) ?_
                  refine hy_ib_eq (i := 42) (tt := 54) rfl (fun zc3 => ?_) (fun zc3 => ?_)
                  · exfalso; have := c2.1; have g1 : ¬ ld_run (mp_here u) := of_decide_eq_false (by rw [← hw]; assumption); simp only [decide_eq_false_iff_not] at *; omega
                  · refine hy_iload (i := 43) rfl rfl ?_
                    refine hy_iload (i := 44) rfl rfl ?_
                    refine hy_iadd (i := 45) rfl (by omega) ?_
                    refine hy_const (i := 46) rfl (by decide) ?_
                    refine hy_ic_le (i := 47) (tt := 54) rfl (fun zc4 => ?_) (fun zc4 => ?_)
                    · omega
                    · refine hy_aload (i := 48) rfl rfl ?_
                      refine hy_const (i := 49) rfl (by decide) ?_
                      refine hy_aload (i := 50) rfl rfl ?_
                      refine hy_get (i := 51) (fk := 10) rfl rfl rfl ?_
                      refine hy_cV2e (i := 52) rfl mj_M_wrongAt (by decide) rfl (Nat.le_of_ble_eq_true rfl) rfl rfl rfl (c_M_wrongAt (by decide) hp) ?_
                      refine hy_zreturn (i := 53) rfl rfl (by first | decide | exact hy_b01 _) ?_
                      rw [← hv]; exact ⟨rfl, rfl⟩
            · rw [if_neg c2] at hv
              have c3 : (ld_run (mp_here u) ∨ ld_let (mp_here u)) → many + ld_times u ≤ 8 := fun h => by
                refine Decidable.byContradiction (fun q => c2 ⟨h, by omega⟩)
              have two : ∀ (v3 : hy_V), hy_W sc hm_M_readsRow 2 62 [.inr (some 59), .inl (row : Int), .inl (many : Int), v3, .inl (hy_b w), .inl (ld_times u : Int), v6] [] (ld_t1 u) (hy_e (some (hy_b G.1)) G.2) := by
                intro v3
                have hp1 := ok1.1
                by_cases c4 : ld_let (mp_here (ld_t1 u))
                · rw [if_neg (fun q => q c4)] at hv
                  by_cases c5 : mp_here (ld_t1 u) ≠ 46 ∧ sp_told (u 59 0) (mp_here (ld_t1 u) - 97) = false
                  · rw [if_pos c5] at hv
                    refine hy_aload (i := 62) rfl rfl ?_
                    refine hy_cV0e (i := 63) rfl mj_M_here (by decide) rfl (Nat.le_of_ble_eq_true rfl) rfl rfl rfl (c_M_here (by assumption)) ?_
                    refine hy_istore (i := 64) rfl ?_
                    refine hy_iload (i := 65) rfl rfl ?_
                    refine hy_const (i := 66) rfl (by decide) ?_
                    refine hy_ic_eq (i := 67) (tt := 79) rfl (fun zc1 => ?_) (fun zc1 => ?_)
                    · omega
                    · refine hy_iload (i := 68) rfl rfl ?_
                      refine hy_const (i := 69) rfl (by decide) ?_
                      refine hy_const (i := 70) rfl (by decide) ?_
                      refine hy_cS3e (i := 71) rfl (by decide) mj_M_in (by decide) rfl (Nat.le_of_ble_eq_true rfl) (c_M_in) ?_
                      refine hy_ib_ne (i := 72) (tt := 79) rfl (fun zc2 => ?_) (fun zc2 => ?_)
                      · refine hy_iload (i := 79) rfl rfl ?_
                        refine hy_const (i := 80) rfl (by decide) ?_
                        refine hy_ic_eq (i := 81) (tt := 94) rfl (fun zc3 => ?_) (fun zc3 => ?_)
                        · omega
                        · refine hy_aload (i := 82) rfl rfl ?_
                          refine hy_iload (i := 83) rfl rfl ?_
                          refine hy_const (i := 84) rfl (by decide) ?_
                          refine hy_isub (i := 85) rfl (by omega) ?_
                          refine hy_cV1e (i := 86) rfl mj_M_isColour (by decide) rfl (Nat.le_of_ble_eq_true rfl) rfl rfl rfl (c_M_isColour) ?_
                          rw [e0]
                          refine hy_ib_ne (i := 87) (tt := 94) rfl (fun zc4 => ?_) (fun zc4 => ?_)
                          · exact bb_abs (by assumption) c5.2
                          · refine hy_aload (i := 88) rfl rfl ?_
                            refine hy_const (i := 89) rfl (by decide) ?_
                            refine hy_aload (i := 90) rfl rfl ?_
                            refine hy_get (i := 91) (fk := 10) rfl rfl rfl ?_
                            refine hy_cV2e (i := 92) rfl mj_M_wrongAt (by decide) rfl (Nat.le_of_ble_eq_true rfl) rfl rfl rfl (c_M_wrongAt (by decide) hp1) ?_
                            refine hy_zreturn (i := 93) rfl rfl (by first | decide | exact hy_b01 _) ?_
                            rw [← hv]; exact ⟨rfl, rfl⟩
                      · simp only [decide_eq_false_iff_not] at *; omega
                  · rw [if_neg c5] at hv
                    have c6 : many + ld_times u ≤ 8 := by
                      by_cases hr : ld_run (mp_here u)
                      · exact c3 (.inl hr)
                      · have e1 : ld_t1 u = u := by unfold ld_t1; rw [if_neg hr]
                        rw [e1] at c4
                        exact c3 (.inr c4)
                    have paint : ∀ (m2 : Nat), ∀ (k : Nat), m2 + k = ld_times u → hy_W sc hm_M_readsRow 2 96 [.inr (some 59), .inl (row : Int), .inl (many : Int), .inl (mp_here (ld_t1 u)), .inl (hy_b w), .inl (ld_times u : Int), .inl (k : Int)] [] (ld_paintN (ld_t1 u) (8 * row + many) (ld_col (mp_here (ld_t1 u))) k) (hy_e (some (hy_b G.1)) G.2) := by
                      intro m2
                      induction m2 with
                      | zero =>
                        intro k hk
                        obtain rfl : k = ld_times u := by omega
                        have h2 := ld_s_paint h1.1 h1.2.2 (8 * row + many) (ld_col_in c4) (ld_times u)
                        have h3 := ld_s_st h2.1 h2.2.2 (by rw [ld_paint_here]; omega)
                        have hp2 := h2.1.1
                        refine hy_iload (i := 96) rfl rfl ?_
                        refine hy_iload (i := 97) rfl rfl ?_
                        refine hy_ic_ge (i := 98) (tt := 119) rfl (fun zc1 => ?_) (fun zc1 => ?_)
                        · refine hy_iload (i := 119) rfl rfl ?_
                          refine hy_iload (i := 120) rfl rfl ?_
                          refine hy_iadd (i := 121) rfl (by omega) ?_
                          refine hy_istore (i := 122) rfl ?_
                          refine hy_aload (i := 123) rfl rfl ?_
                          refine hy_aload (i := 124) rfl rfl ?_
                          refine hy_get (i := 125) (fk := 10) rfl rfl rfl ?_
                          refine hy_const (i := 126) rfl (by decide) ?_
                          refine hy_iadd (i := 127) rfl (by omega) ?_
                          refine hy_put (i := 128) (fk := 10) rfl rfl rfl rfl ?_
                          refine hy_goto (i := 129) (tt := 2) rfl ?_
                          exact ih _ (many + ld_times u) _ _ _ _ (by omega) (by omega) h3.1 h3.2.2 hv
                        · omega
                      | succ m2 ih2 =>
                        intro k hk
                        have ec : mp_here (ld_t1 u) = 46 → ld_col (mp_here (ld_t1 u)) = 12 := fun h => by unfold ld_col; rw [if_pos h]
                        have ed : ¬ mp_here (ld_t1 u) = 46 → ld_col (mp_here (ld_t1 u)) = mp_here (ld_t1 u) - 97 := fun h => by unfold ld_col; rw [if_neg h]
                        refine hy_iload (i := 96) rfl rfl ?_
                        refine hy_iload (i := 97) rfl rfl ?_
                        refine hy_ic_ge (i := 98) (tt := 119) rfl (fun zc1 => ?_) (fun zc1 => ?_)
                        · omega
                        · refine hy_aload (i := 99) rfl rfl ?_
                          refine hy_getr (i := 100) rfl rfl ?_
                          refine hy_const (i := 101) rfl (by decide) ?_
                          refine hy_iload (i := 102) rfl rfl ?_
                          refine hy_imul (i := 103) rfl (by omega) ?_
                          refine hy_iload (i := 104) rfl rfl ?_
                          refine hy_iadd (i := 105) rfl (by omega) ?_
                          refine hy_iload (i := 106) rfl rfl ?_
                          refine hy_iadd (i := 107) rfl (by omega) ?_
                          refine hy_iload (i := 108) rfl rfl ?_
                          refine hy_const (i := 109) rfl (by decide) ?_
                          refine hy_ic_ne (i := 110) (tt := 113) rfl (fun zc2 => ?_) (fun zc2 => ?_)
                          · refine hy_iload (i := 113) rfl rfl ?_
                            refine hy_const (i := 114) rfl (by decide) ?_
                            refine hy_isub (i := 115) rfl (by omega) ?_
                            refine hy_iast (i := 116) rfl rfl (by omega) (k := 8 * row + many + k) (by omega) ?_
                            refine hy_iinc (i := 117) rfl rfl (by omega) ?_
                            refine hy_goto (i := 118) (tt := 96) rfl ?_
                            first | (rw [← ec (by assumption)]; exact ih2 (k + 1) (by omega)) | (rw [← ed (by assumption)]; exact ih2 (k + 1) (by omega))
                          · refine hy_const (i := 111) rfl (by decide) ?_
                            refine hy_goto (i := 112) (tt := 116) rfl ?_
                            refine hy_iast (i := 116) rfl rfl (by omega) (k := 8 * row + many + k) (by omega) ?_
                            refine hy_iinc (i := 117) rfl rfl (by omega) ?_
                            refine hy_goto (i := 118) (tt := 96) rfl ?_
                            first | (rw [← ec (by assumption)]; exact ih2 (k + 1) (by omega)) | (rw [← ed (by assumption)]; exact ih2 (k + 1) (by omega))
                    refine hy_aload (i := 62) rfl rfl ?_
                    refine hy_cV0e (i := 63) rfl mj_M_here (by decide) rfl (Nat.le_of_ble_eq_true rfl) rfl rfl rfl (c_M_here (by assumption)) ?_
                    refine hy_istore (i := 64) rfl ?_
                    refine hy_iload (i := 65) rfl rfl ?_
                    refine hy_const (i := 66) rfl (by decide) ?_
                    refine hy_ic_eq (i := 67) (tt := 79) rfl (fun zc1 => ?_) (fun zc1 => ?_)
                    · refine hy_iload (i := 79) rfl rfl ?_
                      refine hy_const (i := 80) rfl (by decide) ?_
                      refine hy_ic_eq (i := 81) (tt := 94) rfl (fun zc2 => ?_) (fun zc2 => ?_)
                      · refine hy_const (i := 94) rfl (by decide) ?_
                        refine hy_istore (i := 95) rfl ?_
                        exact paint (ld_times u) 0 rfl
                      · refine hy_aload (i := 82) rfl rfl ?_
                        refine hy_iload (i := 83) rfl rfl ?_
                        refine hy_const (i := 84) rfl (by decide) ?_
                        refine hy_isub (i := 85) rfl (by omega) ?_
                        refine hy_cV1e (i := 86) rfl mj_M_isColour (by decide) rfl (Nat.le_of_ble_eq_true rfl) rfl rfl rfl (c_M_isColour) ?_
                        rw [e0]
                        refine hy_ib_ne (i := 87) (tt := 94) rfl (fun zc3 => ?_) (fun zc3 => ?_)
                        · refine hy_const (i := 94) rfl (by decide) ?_
                          refine hy_istore (i := 95) rfl ?_
                          exact paint (ld_times u) 0 rfl
                        · exact absurd ⟨by assumption, by assumption⟩ c5
                    · refine hy_iload (i := 68) rfl rfl ?_
                      refine hy_const (i := 69) rfl (by decide) ?_
                      refine hy_const (i := 70) rfl (by decide) ?_
                      refine hy_cS3e (i := 71) rfl (by decide) mj_M_in (by decide) rfl (Nat.le_of_ble_eq_true rfl) (c_M_in) ?_
                      refine hy_ib_ne (i := 72) (tt := 79) rfl (fun zc2 => ?_) (fun zc2 => ?_)
                      · refine hy_iload (i := 79) rfl rfl ?_
                        refine hy_const (i := 80) rfl (by decide) ?_
                        refine hy_ic_eq (i := 81) (tt := 94) rfl (fun zc3 => ?_) (fun zc3 => ?_)
                        · refine hy_const (i := 94) rfl (by decide) ?_
                          refine hy_istore (i := 95) rfl ?_
                          exact paint (ld_times u) 0 rfl
                        · refine hy_aload (i := 82) rfl rfl ?_
                          refine hy_iload (i := 83) rfl rfl ?_
                          refine hy_const (i := 84) rfl (by decide) ?_
                          refine hy_isub (i := 85) rfl (by omega) ?_
                          refine hy_cV1e (i := 86) rfl mj_M_isColour (by decide) rfl (Nat.le_of_ble_eq_true rfl) rfl rfl rfl (c_M_isColour) ?_
                          rw [e0]
                          refine hy_ib_ne (i := 87) (tt := 94) rfl (fun zc4 => ?_) (fun zc4 => ?_)
                          · refine hy_const (i := 94) rfl (by decide) ?_
                            refine hy_istore (i := 95) rfl ?_
                            exact paint (ld_times u) 0 rfl
                          · exact absurd ⟨by assumption, by assumption⟩ c5
                      · simp only [decide_eq_false_iff_not] at *; omega
                · rw [if_pos c4] at hv
                  refine hy_aload (i := 62) rfl rfl ?_
                  refine hy_cV0e (i := 63) rfl mj_M_here (by decide) rfl (Nat.le_of_ble_eq_true rfl) rfl rfl rfl (c_M_here (by assumption)) ?_
                  refine hy_istore (i := 64) rfl ?_
                  refine hy_iload (i := 65) rfl rfl ?_
                  refine hy_const (i := 66) rfl (by decide) ?_
                  refine hy_ic_eq (i := 67) (tt := 79) rfl (fun zc1 => ?_) (fun zc1 => ?_)
                  · omega
                  · refine hy_iload (i := 68) rfl rfl ?_
                    refine hy_const (i := 69) rfl (by decide) ?_
                    refine hy_const (i := 70) rfl (by decide) ?_
                    refine hy_cS3e (i := 71) rfl (by decide) mj_M_in (by decide) rfl (Nat.le_of_ble_eq_true rfl) (c_M_in) ?_
                    refine hy_ib_ne (i := 72) (tt := 79) rfl (fun zc2 => ?_) (fun zc2 => ?_)
                    · simp only [decide_eq_true_eq] at *; omega
                    · refine hy_aload (i := 73) rfl rfl ?_
                      refine hy_const (i := 74) rfl (by decide) ?_
                      refine hy_aload (i := 75) rfl rfl ?_
                      refine hy_get (i := 76) (fk := 10) rfl rfl rfl ?_
                      refine hy_cV2e (i := 77) rfl mj_M_wrongAt (by decide) rfl (Nat.le_of_ble_eq_true rfl) rfl rfl rfl (c_M_wrongAt (by decide) hp1) ?_
                      refine hy_zreturn (i := 78) rfl rfl (by first | decide | exact hy_b01 _) ?_
                      rw [← hv]; exact ⟨rfl, rfl⟩
              have e2 : w = true → ld_t1 u = mp_st u := fun h => by unfold ld_t1; rw [if_pos (of_decide_eq_true (by rw [← hw]; exact h))]
              have e3 : w = false → ld_t1 u = u := fun h => by unfold ld_t1; rw [if_neg (of_decide_eq_false (by rw [← hw]; exact h))]
              refine hy_iload (i := 33) rfl rfl ?_
              refine hy_ib_ne (i := 34) (tt := 43) rfl (fun zc1 => ?_) (fun zc1 => ?_)
              · refine hy_iload (i := 43) rfl rfl ?_
                refine hy_iload (i := 44) rfl rfl ?_
                refine hy_iadd (i := 45) rfl (by omega) ?_
                refine hy_const (i := 46) rfl (by decide) ?_
                refine hy_ic_le (i := 47) (tt := 54) rfl (fun zc2 => ?_) (fun zc2 => ?_)
                · refine hy_iload (i := 54) rfl rfl ?_
                  refine hy_ib_eq (i := 55) (tt := 62) rfl (fun zc3 => ?_) (fun zc3 => ?_)
                  · first | (have q := two (.inl (mp_here u)); rw [e2 (by assumption)] at q; exact q) | (have q := two (.inl (mp_here u)); rw [e3 (by assumption)] at q; exact q)
                  · refine hy_aload (i := 56) rfl rfl ?_
                    refine hy_aload (i := 57) rfl rfl ?_
                    refine hy_get (i := 58) (fk := 10) rfl rfl rfl ?_
                    refine hy_const (i := 59) rfl (by decide) ?_
                    refine hy_iadd (i := 60) rfl (by omega) ?_
                    refine hy_put (i := 61) (fk := 10) rfl rfl rfl rfl ?_
                    first | (have q := two (.inl (mp_here u)); rw [e2 (by assumption)] at q; exact q) | (have q := two (.inl (mp_here u)); rw [e3 (by assumption)] at q; exact q)
                · exfalso; have := c3 (by first | exact .inl (of_decide_eq_true (by rw [← hw]; assumption)) | exact .inr (.inl (by assumption)) | exact .inr (.inr (of_decide_eq_true (by assumption)))); omega
              · refine hy_iload (i := 35) rfl rfl ?_
                refine hy_const (i := 36) rfl (by decide) ?_
                refine hy_ic_eq (i := 37) (tt := 43) rfl (fun zc2 => ?_) (fun zc2 => ?_)
                · refine hy_iload (i := 43) rfl rfl ?_
                  refine hy_iload (i := 44) rfl rfl ?_
                  refine hy_iadd (i := 45) rfl (by omega) ?_
                  refine hy_const (i := 46) rfl (by decide) ?_
                  refine hy_ic_le (i := 47) (tt := 54) rfl (fun zc3 => ?_) (fun zc3 => ?_)
                  · refine hy_iload (i := 54) rfl rfl ?_
                    refine hy_ib_eq (i := 55) (tt := 62) rfl (fun zc4 => ?_) (fun zc4 => ?_)
                    · first | (have q := two (.inl (mp_here u)); rw [e2 (by assumption)] at q; exact q) | (have q := two (.inl (mp_here u)); rw [e3 (by assumption)] at q; exact q)
                    · refine hy_aload (i := 56) rfl rfl ?_
                      refine hy_aload (i := 57) rfl rfl ?_
                      refine hy_get (i := 58) (fk := 10) rfl rfl rfl ?_
                      refine hy_const (i := 59) rfl (by decide) ?_
                      refine hy_iadd (i := 60) rfl (by omega) ?_
                      refine hy_put (i := 61) (fk := 10) rfl rfl rfl rfl ?_
                      first | (have q := two (.inl (mp_here u)); rw [e2 (by assumption)] at q; exact q) | (have q := two (.inl (mp_here u)); rw [e3 (by assumption)] at q; exact q)
                  · exfalso; have := c3 (by first | exact .inl (of_decide_eq_true (by rw [← hw]; assumption)) | exact .inr (.inl (by assumption)) | exact .inr (.inr (of_decide_eq_true (by assumption)))); omega
                · refine hy_iload (i := 38) rfl rfl ?_
                  refine hy_const (i := 39) rfl (by decide) ?_
                  refine hy_const (i := 40) rfl (by decide) ?_
                  refine hy_cS3e (i := 41) rfl (by decide) mj_M_in (by decide) rfl (Nat.le_of_ble_eq_true rfl) (c_M_in) ?_
                  refine hy_ib_eq (i := 42) (tt := 54) rfl (fun zc3 => ?_) (fun zc3 => ?_)
                  · refine hy_iload (i := 54) rfl rfl ?_
                    refine hy_ib_eq (i := 55) (tt := 62) rfl (fun zc4 => ?_) (fun zc4 => ?_)
                    · first | (have q := two (.inl (mp_here u)); rw [e2 (by assumption)] at q; exact q) | (have q := two (.inl (mp_here u)); rw [e3 (by assumption)] at q; exact q)
                    · refine hy_aload (i := 56) rfl rfl ?_
                      refine hy_aload (i := 57) rfl rfl ?_
                      refine hy_get (i := 58) (fk := 10) rfl rfl rfl ?_
                      refine hy_const (i := 59) rfl (by decide) ?_
                      refine hy_iadd (i := 60) rfl (by omega) ?_
                      refine hy_put (i := 61) (fk := 10) rfl rfl rfl rfl ?_
                      first | (have q := two (.inl (mp_here u)); rw [e2 (by assumption)] at q; exact q) | (have q := two (.inl (mp_here u)); rw [e3 (by assumption)] at q; exact q)
                  · refine hy_iload (i := 43) rfl rfl ?_
                    refine hy_iload (i := 44) rfl rfl ?_
                    refine hy_iadd (i := 45) rfl (by omega) ?_
                    refine hy_const (i := 46) rfl (by decide) ?_
                    refine hy_ic_le (i := 47) (tt := 54) rfl (fun zc4 => ?_) (fun zc4 => ?_)
                    · refine hy_iload (i := 54) rfl rfl ?_
                      refine hy_ib_eq (i := 55) (tt := 62) rfl (fun zc5 => ?_) (fun zc5 => ?_)
                      · first | (have q := two (.inl (mp_here u)); rw [e2 (by assumption)] at q; exact q) | (have q := two (.inl (mp_here u)); rw [e3 (by assumption)] at q; exact q)
                      · refine hy_aload (i := 56) rfl rfl ?_
                        refine hy_aload (i := 57) rfl rfl ?_
                        refine hy_get (i := 58) (fk := 10) rfl rfl rfl ?_
                        refine hy_const (i := 59) rfl (by decide) ?_
                        refine hy_iadd (i := 60) rfl (by omega) ?_
                        refine hy_put (i := 61) (fk := 10) rfl rfl rfl rfl ?_
                        first | (have q := two (.inl (mp_here u)); rw [e2 (by assumption)] at q; exact q) | (have q := two (.inl (mp_here u)); rw [e3 (by assumption)] at q; exact q)
                    · exfalso; have := c3 (by first | exact .inl (of_decide_eq_true (by rw [← hw]; assumption)) | exact .inr (.inl (by assumption)) | exact .inr (.inr (of_decide_eq_true (by assumption)))); omega
          refine hy_iload (i := 25) rfl rfl ?_
          refine hy_ib_eq (i := 26) (tt := 31) rfl (fun zc1 => ?_) (fun zc1 => ?_)
          · refine hy_const (i := 31) rfl (by decide) ?_
            refine hy_istore (i := 32) rfl ?_
            first | exact tm _ (by rw [ht, if_pos (by assumption)]) | exact tm _ (by rw [ht, if_neg (fun q => bb_abs q (by assumption))])
          · refine hy_iload (i := 27) rfl rfl ?_
            refine hy_const (i := 28) rfl (by decide) ?_
            refine hy_isub (i := 29) rfl (by omega) ?_
            refine hy_goto (i := 30) (tt := 32) rfl ?_
            refine hy_istore (i := 32) rfl ?_
            first | exact tm _ (by rw [ht, if_pos (by assumption)]) | exact tm _ (by rw [ht, if_neg (fun q => bb_abs q (by assumption))])
        refine hy_aload (i := 2) rfl rfl ?_
        refine hy_cV0e (i := 3) rfl mj_M_here (by decide) rfl (Nat.le_of_ble_eq_true rfl) rfl rfl rfl (c_M_here (by assumption)) ?_
        refine hy_istore (i := 4) rfl ?_
        refine hy_iload (i := 5) rfl rfl ?_
        refine hy_const (i := 6) rfl (by decide) ?_
        refine hy_const (i := 7) rfl (by decide) ?_
        refine hy_cS3e (i := 8) rfl (by decide) mj_M_in (by decide) rfl (Nat.le_of_ble_eq_true rfl) (c_M_in) ?_
        refine hy_istore (i := 9) rfl ?_
        refine hy_iload (i := 10) rfl rfl ?_
        refine hy_const (i := 11) rfl (by decide) ?_
        refine hy_ic_ne (i := 12) (tt := 25) rfl (fun zc1 => ?_) (fun zc1 => ?_)
        · exact rest _ _ _ rfl
        · refine hy_iload (i := 13) rfl rfl ?_
          refine hy_ib_ne (i := 14) (tt := 25) rfl (fun zc2 => ?_) (fun zc2 => ?_)
          · exact rest _ _ _ rfl
          · refine hy_iload (i := 15) rfl rfl ?_
            refine hy_const (i := 16) rfl (by decide) ?_
            refine hy_ic_eq (i := 17) (tt := 25) rfl (fun zc3 => ?_) (fun zc3 => ?_)
            · exact rest _ _ _ rfl
            · refine hy_iload (i := 18) rfl rfl ?_
              refine hy_const (i := 19) rfl (by decide) ?_
              refine hy_const (i := 20) rfl (by decide) ?_
              refine hy_cS3e (i := 21) rfl (by decide) mj_M_in (by decide) rfl (Nat.le_of_ble_eq_true rfl) (c_M_in) ?_
              refine hy_ib_ne (i := 22) (tt := 25) rfl (fun zc4 => ?_) (fun zc4 => ?_)
              · exact rest _ _ _ rfl
              · exfalso; simp only [decide_eq_false_iff_not] at *; exact c1 ⟨by omega, by omega, by omega⟩
  refine hy_const (i := 0) rfl (by decide) ?_
  refine hy_istore (i := 1) rfl ?_
  exact loop 9 t 0 _ _ _ _ (by decide) (by decide) h hn hG
abbrev ld_ntc (t : hy_T) (n : Int) : Prop := (1 ≤ n ∧ n ≤ 160) ∧ n ≤ t 59 9
theorem c_M_land {n : Int} (hn : nl_ok t) : hy_Ct sc hm_M_land 3 [.inr (some 59), .inl n] t (hy_e (some (if ld_ntc t n then (if (ld_read t n).1 = true then ld_cntN (ld_read t n).2 64 else (ld_read t n).2 59 12) else -1)) (if ld_ntc t n then (if (ld_read t n).1 = true then ld_cpN (ld_read t n).2 64 else (ld_read t n).2) else t)) := by
  refine hy_mk_ct ok_M_land ck_M_land (Nat.le_of_ble_eq_true rfl) ?_
  by_cases hq : ld_ntc t n
  · rw [if_pos hq, if_pos hq]
    obtain ⟨a1, a2, a3⟩ := ld_t0_s hn (n := n) (by omega)
    have b := ld_rowN_s 0 9 0 a1 a2
    have copy : ∀ (u : hy_T) (v2 : hy_V), ∀ (m : Nat), ∀ (k : Nat), m + k = 64 → hy_W sc hm_M_land 3 67 [.inr (some 59), .inl n, v2, .inl (ld_cntN u k), .inl (k : Int)] [] (ld_cpN u k) (hy_e (some (ld_cntN u 64)) (ld_cpN u 64)) := by
      intro u v2 m
      induction m with
      | zero =>
        intro k hm
        obtain rfl : k = 64 := by omega
        refine hy_iload (i := 67) rfl rfl ?_
        refine hy_const (i := 68) rfl (by decide) ?_
        refine hy_ic_ge (i := 69) (tt := 92) rfl (fun zc1 => ?_) (fun zc1 => ?_)
        · refine hy_iload (i := 92) rfl rfl ?_
          refine hy_ireturn (i := 93) rfl rfl ?_
          exact ⟨rfl, rfl⟩
        · omega
      | succ m ih =>
        intro k hm
        have hin := ld_cntN_in u k
        have e96 : ld_cpN u k 96 k = u 96 k := ld_cpN_F u k 96 k rfl
        have e1 : ld_cntN u (k + 1) = ld_cntN u k + (if u 96 k = 12 then 0 else 1) := rfl
        have ih' := ih (k + 1) (by omega)
        rw [e1] at ih'
        refine hy_iload (i := 67) rfl rfl ?_
        refine hy_const (i := 68) rfl (by decide) ?_
        refine hy_ic_ge (i := 69) (tt := 92) rfl (fun zc1 => ?_) (fun zc1 => ?_)
        · omega
        · refine hy_aload (i := 70) rfl rfl ?_
          refine hy_getr (i := 71) rfl rfl ?_
          refine hy_iload (i := 72) rfl rfl ?_
          refine hy_aload (i := 73) rfl rfl ?_
          refine hy_getr (i := 74) rfl rfl ?_
          refine hy_iload (i := 75) rfl rfl ?_
          refine hy_iald (i := 76) rfl rfl (by omega) (k := k) (by omega) ?_
          refine hy_iast (i := 77) rfl rfl (by omega) (k := k) (by omega) ?_
          refine hy_iload (i := 78) rfl rfl ?_
          refine hy_aload (i := 79) rfl rfl ?_
          refine hy_getr (i := 80) rfl rfl ?_
          refine hy_iload (i := 81) rfl rfl ?_
          refine hy_iald (i := 82) rfl rfl (by omega) (k := k) (by omega) ?_
          rw [show hy_up (ld_cpN u k) 63 k (ld_cpN u k 96 k) 63 k = u 96 k by rw [e96]; simp [hy_up]]
          refine hy_const (i := 83) rfl (by decide) ?_
          refine hy_ic_ne (i := 84) (tt := 87) rfl (fun zc2 => ?_) (fun zc2 => ?_)
          · refine hy_const (i := 87) rfl (by decide) ?_
            refine hy_iadd (i := 88) rfl (by omega) ?_
            refine hy_istore (i := 89) rfl ?_
            refine hy_iinc (i := 90) rfl rfl (by omega) ?_
            refine hy_goto (i := 91) (tt := 67) rfl ?_
            first | (rw [if_pos (by assumption)] at ih'; exact ih') | (rw [if_neg (by assumption)] at ih'; exact ih')
          · refine hy_const (i := 85) rfl (by decide) ?_
            refine hy_goto (i := 86) (tt := 88) rfl ?_
            refine hy_iadd (i := 88) rfl (by omega) ?_
            refine hy_istore (i := 89) rfl ?_
            refine hy_iinc (i := 90) rfl rfl (by omega) ?_
            refine hy_goto (i := 91) (tt := 67) rfl ?_
            first | (rw [if_pos (by assumption)] at ih'; exact ih') | (rw [if_neg (by assumption)] at ih'; exact ih')
    have fin : ∀ (p : Bool × hy_T), mp_ok p.2 → nl_ok p.2 → ((ld_end p).1, hy_up (ld_end p).2 59 9 0) = ld_read t n → ∀ v3, hy_W sc hm_M_land 3 42 [.inr (some 59), .inl n, .inl (hy_b p.1), v3, .inr none] [] p.2 (hy_e (some (if (ld_read t n).1 = true then ld_cntN (ld_read t n).2 64 else (ld_read t n).2 59 12)) (if (ld_read t n).1 = true then ld_cpN (ld_read t n).2 64 else (ld_read t n).2)) := by
      intro p hp hnp hv v3
      have hpl := hp.1
      rw [← hv]
      unfold ld_end
      by_cases hc : p.1 = true ∧ p.2 59 10 < p.2 59 11
      · rw [if_pos hc]
        refine hy_iload (i := 42) rfl rfl ?_
        refine hy_ib_eq (i := 43) (tt := 55) rfl (fun zc1 => ?_) (fun zc1 => ?_)
        · exact bb_abs hc.1 zc1
        · refine hy_aload (i := 44) rfl rfl ?_
          refine hy_get (i := 45) (fk := 10) rfl rfl rfl ?_
          refine hy_aload (i := 46) rfl rfl ?_
          refine hy_get (i := 47) (fk := 11) rfl rfl rfl ?_
          refine hy_ic_ge (i := 48) (tt := 55) rfl (fun zc2 => ?_) (fun zc2 => ?_)
          · omega
          · refine hy_aload (i := 49) rfl rfl ?_
            refine hy_const (i := 50) rfl (by decide) ?_
            refine hy_aload (i := 51) rfl rfl ?_
            refine hy_get (i := 52) (fk := 10) rfl rfl rfl ?_
            refine hy_cV2e (i := 53) rfl mj_M_wrongAt (by decide) rfl (Nat.le_of_ble_eq_true rfl) rfl rfl rfl (c_M_wrongAt (by decide) hpl) ?_
            refine hy_istore (i := 54) rfl ?_
            refine hy_aload (i := 55) rfl rfl ?_
            refine hy_const (i := 56) rfl (by decide) ?_
            refine hy_put (i := 57) (fk := 9) rfl rfl rfl rfl ?_
            refine hy_iload (i := 58) rfl rfl ?_
            refine hy_ib_ne (i := 59) (tt := 63) rfl (fun zc3 => ?_) (fun zc3 => ?_)
            · cases (show false = true by assumption)
            · refine hy_aload (i := 60) rfl rfl ?_
              refine hy_get (i := 61) (fk := 12) rfl rfl rfl ?_
              refine hy_ireturn (i := 62) rfl rfl ?_
              exact ⟨rfl, rfl⟩
      · rw [if_neg hc]
        refine hy_iload (i := 42) rfl rfl ?_
        refine hy_ib_eq (i := 43) (tt := 55) rfl (fun zc1 => ?_) (fun zc1 => ?_)
        · refine hy_aload (i := 55) rfl rfl ?_
          refine hy_const (i := 56) rfl (by decide) ?_
          refine hy_put (i := 57) (fk := 9) rfl rfl rfl rfl ?_
          refine hy_iload (i := 58) rfl rfl ?_
          refine hy_ib_ne (i := 59) (tt := 63) rfl (fun zc2 => ?_) (fun zc2 => ?_)
          · refine hy_const (i := 63) rfl (by decide) ?_
            refine hy_istore (i := 64) rfl ?_
            refine hy_const (i := 65) rfl (by decide) ?_
            refine hy_istore (i := 66) rfl ?_
            dsimp only; rw [if_pos (by assumption), if_pos (by assumption)]; exact copy _ _ 64 0 rfl
          · refine hy_aload (i := 60) rfl rfl ?_
            refine hy_get (i := 61) (fk := 12) rfl rfl rfl ?_
            refine hy_ireturn (i := 62) rfl rfl ?_
            dsimp only; first | (rw [if_neg (fun q => bb_abs q (by assumption)), if_neg (fun q => bb_abs q (by assumption))]; exact ⟨rfl, rfl⟩)
        · refine hy_aload (i := 44) rfl rfl ?_
          refine hy_get (i := 45) (fk := 10) rfl rfl rfl ?_
          refine hy_aload (i := 46) rfl rfl ?_
          refine hy_get (i := 47) (fk := 11) rfl rfl rfl ?_
          refine hy_ic_ge (i := 48) (tt := 55) rfl (fun zc2 => ?_) (fun zc2 => ?_)
          · refine hy_aload (i := 55) rfl rfl ?_
            refine hy_const (i := 56) rfl (by decide) ?_
            refine hy_put (i := 57) (fk := 9) rfl rfl rfl rfl ?_
            refine hy_iload (i := 58) rfl rfl ?_
            refine hy_ib_ne (i := 59) (tt := 63) rfl (fun zc3 => ?_) (fun zc3 => ?_)
            · refine hy_const (i := 63) rfl (by decide) ?_
              refine hy_istore (i := 64) rfl ?_
              refine hy_const (i := 65) rfl (by decide) ?_
              refine hy_istore (i := 66) rfl ?_
              dsimp only; rw [if_pos (by assumption), if_pos (by assumption)]; exact copy _ _ 64 0 rfl
            · refine hy_aload (i := 60) rfl rfl ?_
              refine hy_get (i := 61) (fk := 12) rfl rfl rfl ?_
              refine hy_ireturn (i := 62) rfl rfl ?_
              dsimp only; first | (rw [if_neg (fun q => bb_abs q (by assumption)), if_neg (fun q => bb_abs q (by assumption))]; exact ⟨rfl, rfl⟩)
          · exact absurd ⟨by assumption, by omega⟩ hc
    have rows : ∀ (m : Nat), ∀ (row : Nat) (p : Bool × hy_T), m + row = 8 → 1 ≤ row → mp_ok p.2 → nl_ok p.2 → ld_rowsN m row p = ld_rowsN 7 1 (ld_row (ld_t0 t n) 0) → hy_W sc hm_M_land 3 23 [.inr (some 59), .inl n, .inl (hy_b p.1), .inl (row : Int), .inr none] [] p.2 (hy_e (some (if (ld_read t n).1 = true then ld_cntN (ld_read t n).2 64 else (ld_read t n).2 59 12)) (if (ld_read t n).1 = true then ld_cpN (ld_read t n).2 64 else (ld_read t n).2)) := by
      intro m
      induction m with
      | zero =>
        intro row p hm h1 hp hnp hv
        refine hy_iload (i := 23) rfl rfl ?_
        refine hy_const (i := 24) rfl (by decide) ?_
        refine hy_ic_ge (i := 25) (tt := 42) rfl (fun zc1 => ?_) (fun zc1 => ?_)
        · exact fin p hp hnp (by rw [show p = _ from hv]; rfl) _
        · omega
      | succ m ih =>
        intro row p hm h1 hp hnp hv
        by_cases hx : p.1 = true
        · have ht := ld_take_s hp hnp
          have ok2 := ht.1
          have nl2 := ht.2.2
          have hr := ld_rowN_s row 9 0 ok2 nl2
          have hv2 : ld_rowsN m (row + 1) (if (mp_take p.2 47).1 = true then ld_row (mp_take p.2 47).2 row else (false, (mp_take p.2 47).2)) = ld_rowsN 7 1 (ld_row (ld_t0 t n) 0) := by
            rw [← hv]
            show _ = if p.1 = true then _ else _
            rw [if_pos hx]
          by_cases hk : (mp_take p.2 47).1 = true
          · rw [if_pos hk] at hv2
            refine hy_iload (i := 23) rfl rfl ?_
            refine hy_const (i := 24) rfl (by decide) ?_
            refine hy_ic_ge (i := 25) (tt := 42) rfl (fun zc1 => ?_) (fun zc1 => ?_)
            · omega
            · refine hy_iload (i := 26) rfl rfl ?_
              refine hy_ib_eq (i := 27) (tt := 42) rfl (fun zc2 => ?_) (fun zc2 => ?_)
              · exact bb_abs hx (by assumption)
              · refine hy_aload (i := 28) rfl rfl ?_
                refine hy_const (i := 29) rfl (by decide) ?_
                refine hy_cV1e (i := 30) rfl mj_M_takes (by decide) rfl (Nat.le_of_ble_eq_true rfl) rfl rfl rfl (c_M_takes (by assumption)) ?_
                refine hy_ib_eq (i := 31) (tt := 38) rfl (fun zc3 => ?_) (fun zc3 => ?_)
                · exact bb_abs hk (by assumption)
                · refine hy_aload (i := 32) rfl rfl ?_
                  refine hy_iload (i := 33) rfl rfl ?_
                  refine hy_cV1e (i := 34) rfl mj_M_readsRow (by decide) rfl (Nat.le_of_ble_eq_true rfl) rfl rfl rfl (c_M_readsRow (row := row) (by omega) ok2 nl2) ?_
                  refine hy_ib_eq (i := 35) (tt := 38) rfl (fun zc4 => ?_) (fun zc4 => ?_)
                  · refine hy_const (i := 38) rfl (by decide) ?_
                    refine hy_istore (i := 39) rfl ?_
                    refine hy_iinc (i := 40) rfl rfl (by omega) ?_
                    refine hy_goto (i := 41) (tt := 23) rfl ?_
                    first | exact ih (row + 1) (true, (ld_row (mp_take p.2 47).2 row).2) (by omega) (by omega) hr.1 hr.2.2 (by rw [← hv2]; exact congrArg (ld_rowsN m (row + 1)) (Prod.ext (show (ld_row (mp_take p.2 47).2 row).1 = true by assumption).symm rfl)) | exact ih (row + 1) (false, (ld_row (mp_take p.2 47).2 row).2) (by omega) (by omega) hr.1 hr.2.2 (by rw [← hv2]; exact congrArg (ld_rowsN m (row + 1)) (Prod.ext (show (ld_row (mp_take p.2 47).2 row).1 = false by assumption).symm rfl))
                  · refine hy_const (i := 36) rfl (by decide) ?_
                    refine hy_goto (i := 37) (tt := 39) rfl ?_
                    refine hy_istore (i := 39) rfl ?_
                    refine hy_iinc (i := 40) rfl rfl (by omega) ?_
                    refine hy_goto (i := 41) (tt := 23) rfl ?_
                    first | exact ih (row + 1) (true, (ld_row (mp_take p.2 47).2 row).2) (by omega) (by omega) hr.1 hr.2.2 (by rw [← hv2]; exact congrArg (ld_rowsN m (row + 1)) (Prod.ext (show (ld_row (mp_take p.2 47).2 row).1 = true by assumption).symm rfl)) | exact ih (row + 1) (false, (ld_row (mp_take p.2 47).2 row).2) (by omega) (by omega) hr.1 hr.2.2 (by rw [← hv2]; exact congrArg (ld_rowsN m (row + 1)) (Prod.ext (show (ld_row (mp_take p.2 47).2 row).1 = false by assumption).symm rfl))
          · rw [if_neg hk] at hv2
            refine hy_iload (i := 23) rfl rfl ?_
            refine hy_const (i := 24) rfl (by decide) ?_
            refine hy_ic_ge (i := 25) (tt := 42) rfl (fun zc1 => ?_) (fun zc1 => ?_)
            · omega
            · refine hy_iload (i := 26) rfl rfl ?_
              refine hy_ib_eq (i := 27) (tt := 42) rfl (fun zc2 => ?_) (fun zc2 => ?_)
              · exact bb_abs hx (by assumption)
              · refine hy_aload (i := 28) rfl rfl ?_
                refine hy_const (i := 29) rfl (by decide) ?_
                refine hy_cV1e (i := 30) rfl mj_M_takes (by decide) rfl (Nat.le_of_ble_eq_true rfl) rfl rfl rfl (c_M_takes (by assumption)) ?_
                refine hy_ib_eq (i := 31) (tt := 38) rfl (fun zc3 => ?_) (fun zc3 => ?_)
                · refine hy_const (i := 38) rfl (by decide) ?_
                  refine hy_istore (i := 39) rfl ?_
                  refine hy_iinc (i := 40) rfl rfl (by omega) ?_
                  refine hy_goto (i := 41) (tt := 23) rfl ?_
                  exact ih (row + 1) (false, (mp_take p.2 47).2) (by omega) (by omega) ok2 nl2 hv2
                · exact absurd (by assumption) hk
        · have hv2 : p = ld_rowsN 7 1 (ld_row (ld_t0 t n) 0) := by
            rw [← hv]
            show _ = if p.1 = true then _ else _
            rw [if_neg hx]
          refine hy_iload (i := 23) rfl rfl ?_
          refine hy_const (i := 24) rfl (by decide) ?_
          refine hy_ic_ge (i := 25) (tt := 42) rfl (fun zc1 => ?_) (fun zc1 => ?_)
          · omega
          · refine hy_iload (i := 26) rfl rfl ?_
            refine hy_ib_eq (i := 27) (tt := 42) rfl (fun zc2 => ?_) (fun zc2 => ?_)
            · exact fin p hp hnp (by rw [hv2]; rfl) _
            · exact absurd (by assumption) hx
    refine hy_iload (i := 0) rfl rfl ?_
    refine hy_const (i := 1) rfl (by decide) ?_
    refine hy_const (i := 2) rfl (by decide) ?_
    refine hy_cS3e (i := 3) rfl (by decide) mj_M_in (by decide) rfl (Nat.le_of_ble_eq_true rfl) (c_M_in) ?_
    refine hy_ib_eq (i := 4) (tt := 9) rfl (fun zc1 => ?_) (fun zc1 => ?_)
    · simp only [decide_eq_false_iff_not] at zc1; omega
    · refine hy_iload (i := 5) rfl rfl ?_
      refine hy_aload (i := 6) rfl rfl ?_
      refine hy_get (i := 7) (fk := 9) rfl rfl rfl ?_
      refine hy_ic_le (i := 8) (tt := 11) rfl (fun zc2 => ?_) (fun zc2 => ?_)
      · refine hy_aload (i := 11) rfl rfl ?_
        refine hy_const (i := 12) rfl (by decide) ?_
        refine hy_put (i := 13) (fk := 10) rfl rfl rfl rfl ?_
        refine hy_aload (i := 14) rfl rfl ?_
        refine hy_iload (i := 15) rfl rfl ?_
        refine hy_put (i := 16) (fk := 11) rfl rfl rfl rfl ?_
        refine hy_aload (i := 17) rfl rfl ?_
        refine hy_const (i := 18) rfl (by decide) ?_
        refine hy_cV1e (i := 19) rfl mj_M_readsRow (by decide) rfl (Nat.le_of_ble_eq_true rfl) rfl rfl rfl (c_M_readsRow (t := ld_t0 t n) (row := 0) (by decide) a1 a2) ?_
        refine hy_istore (i := 20) rfl ?_
        refine hy_const (i := 21) rfl (by decide) ?_
        refine hy_istore (i := 22) rfl ?_
        exact rows 7 1 (ld_row (ld_t0 t n) 0) rfl (by decide) b.1 b.2.2 rfl
      · omega
  · rw [if_neg hq, if_neg hq]
    refine hy_iload (i := 0) rfl rfl ?_
    refine hy_const (i := 1) rfl (by decide) ?_
    refine hy_const (i := 2) rfl (by decide) ?_
    refine hy_cS3e (i := 3) rfl (by decide) mj_M_in (by decide) rfl (Nat.le_of_ble_eq_true rfl) (c_M_in) ?_
    refine hy_ib_eq (i := 4) (tt := 9) rfl (fun zc1 => ?_) (fun zc1 => ?_)
    · refine hy_const (i := 9) rfl (by decide) ?_
      refine hy_ireturn (i := 10) rfl rfl ?_
      exact ⟨rfl, rfl⟩
    · refine hy_iload (i := 5) rfl rfl ?_
      refine hy_aload (i := 6) rfl rfl ?_
      refine hy_get (i := 7) (fk := 9) rfl rfl rfl ?_
      refine hy_ic_le (i := 8) (tt := 11) rfl (fun zc2 => ?_) (fun zc2 => ?_)
      · exfalso; simp only [decide_eq_true_eq] at zc1; exact hq ⟨by omega, by omega⟩
      · refine hy_const (i := 9) rfl (by decide) ?_
        refine hy_ireturn (i := 10) rfl rfl ?_
        exact ⟨rfl, rfl⟩
end LA
