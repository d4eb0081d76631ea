/-! the model's land, as it is read -/
abbrev ld_run (c : Int) : Prop := 49 ≤ c ∧ c ≤ 56
abbrev ld_let (c : Int) : Prop := c = 46 ∨ (97 ≤ c ∧ c ≤ 108)
def ld_col (c : Int) : Int := if c = 46 then 12 else c - 97
def ld_paintN (t : hy_T) (p : Nat) (v : Int) : Nat → hy_T
  | 0 => t
  | k + 1 => hy_up (ld_paintN t p v k) 96 (p + k) v
def ld_times (t : hy_T) : Nat := if ld_run (mp_here t) then (mp_here t - 48).toNat else 1
def ld_t1 (t : hy_T) : hy_T := if ld_run (mp_here t) then mp_st t else t
def ld_rowN (row : Nat) : Nat → hy_T → Nat → Bool × hy_T
  | 0, t, _ => (false, t)
  | n + 1, t, many =>
    if many = 8 ∧ ¬ ld_run (mp_here t) ∧ ¬ ld_let (mp_here t) then (true, t)
    else if (ld_run (mp_here t) ∨ ld_let (mp_here t)) ∧ 8 < many + ld_times t then (false, mp_wr t 6 (t 59 10))
    else if ¬ ld_let (mp_here (ld_t1 t)) then (false, mp_wr (ld_t1 t) 1 (ld_t1 t 59 10))
    else if mp_here (ld_t1 t) ≠ 46 ∧ sp_told (t 59 0) (mp_here (ld_t1 t) - 97) = false then (false, mp_wr (ld_t1 t) 7 (ld_t1 t 59 10))
    else ld_rowN row n (mp_st (ld_paintN (ld_t1 t) (8 * row + many) (ld_col (mp_here (ld_t1 t))) (ld_times t))) (many + ld_times t)
def ld_row (t : hy_T) (row : Nat) : Bool × hy_T := ld_rowN row 9 t 0
def ld_rowsN : Nat → Nat → Bool × hy_T → Bool × hy_T
  | 0, _, p => p
  | n + 1, row, p => if p.1 = true then ld_rowsN n (row + 1) (if (mp_take p.2 47).1 = true then ld_row (mp_take p.2 47).2 row else (false, (mp_take p.2 47).2)) else p
def ld_end (p : Bool × hy_T) : Bool × hy_T := if p.1 = true ∧ p.2 59 10 < p.2 59 11 then (false, mp_wr p.2 1 (p.2 59 10)) else p
def ld_t0 (t : hy_T) (n : Int) : hy_T := hy_up (hy_up t 59 10 0) 59 11 n
def ld_read (t : hy_T) (n : Int) : Bool × hy_T := ((ld_end (ld_rowsN 7 1 (ld_row (ld_t0 t n) 0))).1, hy_up (ld_end (ld_rowsN 7 1 (ld_row (ld_t0 t n) 0))).2 59 9 0)
def ld_cpN (t : hy_T) : Nat → hy_T
  | 0 => t
  | k + 1 => hy_up (ld_cpN t k) 63 k (ld_cpN t k 96 k)
def ld_cntN (t : hy_T) : Nat → Int
  | 0 => 0
  | k + 1 => ld_cntN t k + (if t 96 k = 12 then 0 else 1)
theorem ld_cntN_in (t : hy_T) : ∀ n : Nat, 0 ≤ ld_cntN t n ∧ ld_cntN t n ≤ n
  | 0 => by simp [ld_cntN]
  | n + 1 => by
    have h := ld_cntN_in t n
    simp only [ld_cntN]
    split <;> omega
theorem ld_cpN_F (t : hy_T) : ∀ n : Nat, hy_F (fun r _ => r == 63) t (ld_cpN t n)
  | 0 => hy_F.rf
  | n + 1 => (ld_cpN_F t n).up rfl
theorem ld_cpN_v (t : hy_T) : ∀ (n k : Nat), ld_cpN t n 63 k = if k < n then t 96 k else t 63 k
  | 0, k => by rw [if_neg (by omega)]; rfl
  | n + 1, k => by
    simp only [ld_cpN]
    by_cases h : k = n
    · subst h
      rw [if_pos (by omega)]
      simp only [hy_up, true_and, if_true]
      exact ld_cpN_F t k 96 k rfl
    · rw [show hy_up (ld_cpN t n) 63 n (ld_cpN t n 96 n) 63 k = ld_cpN t n 63 k by simp [hy_up, h], ld_cpN_v t n k]
      by_cases h2 : k < n
      · rw [if_pos h2, if_pos (by omega)]
      · rw [if_neg h2, if_neg (by omega)]
/-- the drafted colours are colours -/
abbrev nl_ok (t : hy_T) : Prop := ∀ f : Nat, f < 64 → 0 ≤ t 96 f ∧ t 96 f ≤ 12
abbrev ldX : Nat → Nat → Bool := fun r j => r == 96 || (r == 59 && (j == 10 || j == 12))
def ld_s (t t1 : hy_T) : Prop := mp_ok t1 ∧ hy_F ldX t t1 ∧ nl_ok t1
theorem ld_s.tr {a b c : hy_T} (h : ld_s a b) (k : ld_s b c) : ld_s a c := ⟨k.1, h.2.1.tr' k.2.1, k.2.2⟩
theorem ld_s_st {t : hy_T} (h : mp_ok t) (hn : nl_ok t) (h0 : 0 ≤ mp_here t) : ld_s t (mp_st t) := ⟨mp_st_ok h h0, hy_F.rf.up rfl, hn⟩
theorem ld_s_wr {t : hy_T} (h : mp_ok t) (hn : nl_ok t) (n w : Int) : ld_s t (mp_wr t n w) := ⟨h, hy_F.rf.up rfl, hn⟩
theorem ld_s_paint {t : hy_T} (h : mp_ok t) (hn : nl_ok t) (p : Nat) {v : Int} (hv : 0 ≤ v ∧ v ≤ 12) : ∀ k : Nat, ld_s t (ld_paintN t p v k)
  | 0 => ⟨h, hy_F.rf, hn⟩
  | k + 1 => by
    obtain ⟨a, b, c⟩ := ld_s_paint h hn p hv k
    refine ⟨mp_ok_F (X := fun r _ => r == 96) (hy_F.rf.up rfl) rfl rfl a, b.up rfl, fun f hf => ?_⟩
    simp only [ld_paintN, hy_up]
    split
    · exact hv
    · exact c f hf
theorem ld_paint_here (t : hy_T) (p : Nat) (v : Int) : ∀ k : Nat, mp_here (ld_paintN t p v k) = mp_here t
  | 0 => rfl
  | k + 1 => by
    rw [← ld_paint_here t p v k]
    rfl
theorem ld_t1_s {t : hy_T} (h : mp_ok t) (hn : nl_ok t) : ld_s t (ld_t1 t) := by
  unfold ld_t1
  split
  · next hr => exact ld_s_st h hn (by omega)
  · exact ⟨h, hy_F.rf, hn⟩
theorem ld_col_in {c : Int} (h : ld_let c) : 0 ≤ ld_col c ∧ ld_col c ≤ 12 := by
  unfold ld_col
  split <;> omega
theorem ld_rowN_s (row : Nat) : ∀ (n : Nat) {t : hy_T} (many : Nat), mp_ok t → nl_ok t → ld_s t (ld_rowN row n t many).2
  | 0, t, many, h, hn => ⟨h, hy_F.rf, hn⟩
  | n + 1, t, many, h, hn => by
    have h1 := ld_t1_s h hn
    simp only [ld_rowN]
    split
    · exact ⟨h, hy_F.rf, hn⟩
    · split
      · exact ld_s_wr h hn _ _
      · split
        · exact h1.tr (ld_s_wr h1.1 h1.2.2 _ _)
        · next hl =>
          have hl2 : ld_let (mp_here (ld_t1 t)) := Decidable.not_not.mp hl
          split
          · exact h1.tr (ld_s_wr h1.1 h1.2.2 _ _)
          · have h2 := ld_s_paint h1.1 h1.2.2 (8 * row + many) (ld_col_in hl2) (ld_times t)
            have h3 := ld_s_st h2.1 h2.2.2 (by rw [ld_paint_here]; omega)
            exact ((h1.tr h2).tr h3).tr (ld_rowN_s row n _ h3.1 h3.2.2)
theorem ld_take_s {t : hy_T} (h : mp_ok t) (hn : nl_ok t) : ld_s t (mp_take t 47).2 := by
  obtain ⟨a1, a2, -, -⟩ := mp_take_s (c := 47) h (by decide)
  exact ⟨a1, a2.w (fun r j q => by revert q; simp [ldX, mpX]), fun f hf => by rw [a2 96 f rfl]; exact hn f hf⟩
theorem ld_rowsN_s : ∀ (n row : Nat) {p : Bool × hy_T}, mp_ok p.2 → nl_ok p.2 → ld_s p.2 (ld_rowsN n row p).2
  | 0, row, p, h, hn => ⟨h, hy_F.rf, hn⟩
  | n + 1, row, p, h, hn => by
    have h1 := ld_take_s h hn
    simp only [ld_rowsN]
    split
    · split
      · have h2 := ld_rowN_s row 9 0 h1.1 h1.2.2
        exact (h1.tr h2).tr (ld_rowsN_s n (row + 1) (p := ld_row (mp_take p.2 47).2 row) h2.1 h2.2.2)
      · exact h1.tr (ld_rowsN_s n (row + 1) (p := (false, (mp_take p.2 47).2)) h1.1 h1.2.2)
    · exact ⟨h, hy_F.rf, hn⟩
theorem ld_end_s {p : Bool × hy_T} (h : mp_ok p.2) (hn : nl_ok p.2) : ld_s p.2 (ld_end p).2 := by
  unfold ld_end
  split
  · exact ld_s_wr h hn _ _
  · exact ⟨h, hy_F.rf, hn⟩
abbrev ldrX : Nat → Nat → Bool := fun r j => r == 96 || (r == 59 && (j == 9 || j == 10 || j == 11 || j == 12))
theorem ld_t0_s {t : hy_T} (hn : nl_ok t) {n : Int} (h : n ≤ 260) : mp_ok (ld_t0 t n) ∧ nl_ok (ld_t0 t n) ∧ hy_F ldrX t (ld_t0 t n) := by
  refine ⟨⟨⟨?_, ?_⟩, ?_⟩, hn, (hy_F.rf.up rfl).up rfl⟩
  · show (0 : Int) ≤ 0; decide
  · show (0 : Int) ≤ 260; decide
  · exact h
theorem ld_read_s {t : hy_T} (hn : nl_ok t) {n : Int} (h : n ≤ 260) : nl_ok (ld_read t n).2 ∧ hy_F ldrX t (ld_read t n).2 := by
  obtain ⟨a1, a2, a3⟩ := ld_t0_s hn h
  have b := ld_rowN_s 0 9 0 a1 a2
  have c := ld_rowsN_s 7 1 (p := ld_row (ld_t0 t n) 0) b.1 b.2.2
  have d := ld_end_s (p := ld_rowsN 7 1 (ld_row (ld_t0 t n) 0)) c.1 c.2.2
  have e := (b.tr c).tr d
  exact ⟨e.2.2, (a3.tr' (e.2.1.w (fun r j q => by revert q; simp [ldrX, ldX]; omega))).up rfl⟩
section LA
variable {sc : List Int32} {t : hy_T}
theorem c_M_readsRow {row : Nat} (hr : row < 8) (h : mp_ok t) (hn : nl_ok t) : hy_Ct sc hm_M_readsRow 2 [.inr (some 59), .inl (row : Int)] t (hy_e (some (hy_b (ld_row t row).1)) (ld_row t row).2) := by
  refine hy_mk_ct ok_M_readsRow ck_M_readsRow (Nat.le_of_ble_eq_true rfl) ?_
  generalize hG : ld_row t row = G
  have loop : ∀ (m : Nat), ∀ (u : hy_T) (many : Nat) (v3 v4 v5 v6 : hy_V), many ≤ 8 → 9 ≤ m + many → mp_ok u → nl_ok u → ld_rowN row m u many = G → hy_W sc hm_M_readsRow 2 2 [.inr (some 59), .inl (row : Int), .inl (many : Int), v3, v4, v5, v6] [] u (hy_e (some (hy_b G.1)) G.2) := by
    intro m
    induction m with
    | zero => intro u many v3 v4 v5 v6 h8 h9; omega
    | succ m ih =>
      intro u many v3 v4 v5 v6 h8 h9 hu hnu hv
      have hp := hu.1
      have hh := mp_here_in u
      simp only [ld_rowN] at hv
      by_cases c1 : many = 8 ∧ ¬ ld_run (mp_here u) ∧ ¬ ld_let (mp_here u)
      · rw [if_pos c1] at hv
        refine hy_aload (i := 2) rfl rfl ?_
        refine hy_cV0e (i := 3) rfl mj_M_here (by decide) rfl (Nat.le_of_ble_eq_true rfl) rfl rfl rfl (c_M_here (by assumption)) ?_
        refine hy_istore (i := 4) rfl ?_
        refine hy_iload (i := 5) rfl rfl ?_
        refine hy_const (i := 6) rfl (by decide) ?_
        refine hy_const (i := 7) rfl (by decide) ?_
        refine hy_cS3e (i := 8) rfl (by decide) mj_M_in (by decide) rfl (Nat.le_of_ble_eq_true rfl) (c_M_in) ?_
        refine hy_istore (i := 9) rfl ?_
        refine hy_iload (i := 10) rfl rfl ?_
        refine hy_const (i := 11) rfl (by decide) ?_
        refine hy_ic_ne (i := 12) (tt := 25) rfl (fun zc1 => ?_) (fun zc1 => ?_)
        · omega
        · refine hy_iload (i := 13) rfl rfl ?_
          refine hy_ib_ne (i := 14) (tt := 25) rfl (fun zc2 => ?_) (fun zc2 => ?_)
          · simp only [decide_eq_true_eq] at *; omega
          · refine hy_iload (i := 15) rfl rfl ?_
            refine hy_const (i := 16) rfl (by decide) ?_
            refine hy_ic_eq (i := 17) (tt := 25) rfl (fun zc3 => ?_) (fun zc3 => ?_)
            · omega
            · refine hy_iload (i := 18) rfl rfl ?_
              refine hy_const (i := 19) rfl (by decide) ?_
              refine hy_const (i := 20) rfl (by decide) ?_
              refine hy_cS3e (i := 21) rfl (by decide) mj_M_in (by decide) rfl (Nat.le_of_ble_eq_true rfl) (c_M_in) ?_
              refine hy_ib_ne (i := 22) (tt := 25) rfl (fun zc4 => ?_) (fun zc4 => ?_)
              · simp only [decide_eq_true_eq] at *; omega
              · refine hy_const (i := 23) rfl (by decide) ?_
                refine hy_zreturn (i := 24) rfl rfl (by first | decide | exact hy_b01 _) ?_
                rw [← hv]; exact ⟨rfl, rfl⟩
      · rw [if_neg c1] at hv
        have rest : ∀ (w : Bool) (v5 v6 : hy_V), w = decide (ld_run (mp_here u)) → hy_W sc hm_M_readsRow 2 25 [.inr (some 59), .inl (row : Int), .inl (many : Int), .inl (mp_here u), .inl (hy_b w), v5, v6] [] u (hy_e (some (hy_b G.1)) G.2) := by
          intro w v5 v6 hw
          have ht : (ld_times u : Int) = if w = true then mp_here u - 48 else 1 := by
            unfold ld_times
            by_cases hr : ld_run (mp_here u)
            · rw [if_pos hr, hw, decide_eq_true hr, if_pos rfl]; omega
            · rw [if_neg hr, hw, decide_eq_false hr]; rfl
          have h1 := ld_t1_s hu hnu
          have ok1 := h1.1
          have e0 : ld_t1 u 59 0 = u 59 0 := h1.2.1 59 0 rfl
          have tm : ∀ (x : Int), x = ld_times u → hy_W sc hm_M_readsRow 2 33 [.inr (some 59), .inl (row : Int), .inl (many : Int), .inl (mp_here u), .inl (hy_b w), .inl x, v6] [] u (hy_e (some (hy_b G.1)) G.2) := by
            intro x hx
            subst hx
            have htl : 1 ≤ ld_times u := by
              rcases hx : w with _ | _
              · rw [hx] at ht; simp at ht; omega
              · have hrr : ld_run (mp_here u) := of_decide_eq_true (by rw [← hw, hx])
                rw [hx, if_pos rfl] at ht; omega
            by_cases c2 : (ld_run (mp_here u) ∨ ld_let (mp_here u)) ∧ 8 < many + ld_times u
            · rw [if_pos c2] at hv
              refine hy_iload (i := 33) rfl rfl ?_
              refine hy_ib_ne (i := 34) (tt := 43) rfl (fun zc1 => ?_) (fun zc1 => ?_)
              · refine hy_iload (i := 43) rfl rfl ?_
                refine hy_iload (i := 44) rfl rfl ?_
                refine hy_iadd (i := 45) rfl (by omega) ?_
                refine hy_const (i := 46) rfl (by decide) ?_
                refine hy_ic_le (i := 47) (tt := 54) rfl (fun zc2 => ?_) (fun zc2 => ?_)
                · omega
                · refine hy_aload (i := 48) rfl rfl ?_
                  refine hy_const (i := 49) rfl (by decide) ?_
                  refine hy_aload (i := 50) rfl rfl ?_
                  refine hy_get (i := 51) (fk := 10) rfl rfl rfl ?_
                  refine hy_cV2e (i := 52) rfl mj_M_wrongAt (by decide) rfl (Nat.le_of_ble_eq_true rfl) rfl rfl rfl (c_M_wrongAt (by decide) hp) ?_
                  refine hy_zreturn (i := 53) rfl rfl (by first | decide | exact hy_b01 _) ?_
                  rw [← hv]; exact ⟨rfl, rfl⟩
              · refine hy_iload (i := 35) rfl rfl ?_
                refine hy_const (i := 36) rfl (by decide) ?_
                refine hy_ic_eq (i := 37) (tt := 43) rfl (fun zc2 => ?_) (fun zc2 => ?_)
                · refine hy_iload (i := 43) rfl rfl ?_
                  refine hy_iload (i := 44) rfl rfl ?_
                  refine hy_iadd (i := 45) rfl (by omega) ?_
                  refine hy_const (i := 46) rfl (by decide) ?_
                  refine hy_ic_le (i := 47) (tt := 54) rfl (fun zc3 => ?_) (fun zc3 => ?_)
                  · omega
                  · refine hy_aload (i := 48) rfl rfl ?_
                    refine hy_const (i := 49) rfl (by decide) ?_
                    refine hy_aload (i := 50) rfl rfl ?_
                    refine hy_get (i := 51) (fk := 10) rfl rfl rfl ?_
                    refine hy_cV2e (i := 52) rfl mj_M_wrongAt (by decide) rfl (Nat.le_of_ble_eq_true rfl) rfl rfl rfl (c_M_wrongAt (by decide) hp) ?_
                    refine hy_zreturn (i := 53) rfl rfl (by first | decide | exact hy_b01 _) ?_
                    rw [← hv]; exact ⟨rfl, rfl⟩
                · refine hy_iload (i := 38) rfl rfl ?_
                  refine hy_const (i := 39) rfl (by decide) ?_
                  refine hy_const (i := 40) rfl (by decide) ?_
                  refine hy_cS3e (i := 41) rfl (by decide) mj_M_in (by decide) rfl (Nat.le_of_ble_eq_true rfl) (c_M_in) ?_
                  refine hy_ib_eq (i := 42) (tt := 54) rfl (fun zc3 => ?_) (fun zc3 => ?_)
                  · exfalso; have := c2.1; have g1 : ¬ ld_run (mp_here u) := of_decide_eq_false (by rw [← hw]; assumption); simp only [decide_eq_false_iff_not] at *; omega
                  · refine hy_iload (i := 43) rfl rfl ?_
                    refine hy_iload (i := 44) rfl rfl ?_
                    refine hy_iadd (i := 45) rfl (by omega) ?_
                    refine hy_const (i := 46) rfl (by decide) ?_
                    refine hy_ic_le (i := 47) (tt := 54) rfl (fun zc4 => ?_) (fun zc4 => ?_)
                    · omega
                    · refine hy_aload (i := 48) rfl rfl ?_
                      refine hy_const (i := 49) rfl (by decide) ?_
                      refine hy_aload (i := 50) rfl rfl ?_
                      refine hy_get (i := 51) (fk := 10) rfl rfl rfl ?_
                      refine hy_cV2e (i := 52) rfl mj_M_wrongAt (by decide) rfl (Nat.le_of_ble_eq_true rfl) rfl rfl rfl (c_M_wrongAt (by decide) hp) ?_
                      refine hy_zreturn (i := 53) rfl rfl (by first | decide | exact hy_b01 _) ?_
                      rw [← hv]; exact ⟨rfl, rfl⟩
            · rw [if_neg c2] at hv
              have c3 : (ld_run (mp_here u) ∨ ld_let (mp_here u)) → many + ld_times u ≤ 8 := fun h => by
                refine Decidable.byContradiction (fun q => c2 ⟨h, by omega⟩)
              have two : ∀ (v3 : hy_V), hy_W sc hm_M_readsRow 2 62 [.inr (some 59), .inl (row : Int), .inl (many : Int), v3, .inl (hy_b w), .inl (ld_times u : Int), v6] [] (ld_t1 u) (hy_e (some (hy_b G.1)) G.2) := by
                intro v3
                have hp1 := ok1.1
                by_cases c4 : ld_let (mp_here (ld_t1 u))
                · rw [if_neg (fun q => q c4)] at hv
                  by_cases c5 : mp_here (ld_t1 u) ≠ 46 ∧ sp_told (u 59 0) (mp_here (ld_t1 u) - 97) = false
                  · rw [if_pos c5] at hv
                    refine hy_aload (i := 62) rfl rfl ?_
                    refine hy_cV0e (i := 63) rfl mj_M_here (by decide) rfl (Nat.le_of_ble_eq_true rfl) rfl rfl rfl (c_M_here (by assumption)) ?_
                    refine hy_istore (i := 64) rfl ?_
                    refine hy_iload (i := 65) rfl rfl ?_
                    refine hy_const (i := 66) rfl (by decide) ?_
                    refine hy_ic_eq (i := 67) (tt := 79) rfl (fun zc1 => ?_) (fun zc1 => ?_)
                    · omega
                    · refine hy_iload (i := 68) rfl rfl ?_
                      refine hy_const (i := 69) rfl (by decide) ?_
                      refine hy_const (i := 70) rfl (by decide) ?_
                      refine hy_cS3e (i := 71) rfl (by decide) mj_M_in (by decide) rfl (Nat.le_of_ble_eq_true rfl) (c_M_in) ?_
                      refine hy_ib_ne (i := 72) (tt := 79) rfl (fun zc2 => ?_) (fun zc2 => ?_)
                      · refine hy_iload (i := 79) rfl rfl ?_
                        refine hy_const (i := 80) rfl (by decide) ?_
                        refine hy_ic_eq (i := 81) (tt := 94) rfl (fun zc3 => ?_) (fun zc3 => ?_)
                        · omega
                        · refine hy_aload (i := 82) rfl rfl ?_
                          refine hy_iload (i := 83) rfl rfl ?_
                          refine hy_const (i := 84) rfl (by decide) ?_
                          refine hy_isub (i := 85) rfl (by omega) ?_
                          refine hy_cV1e (i := 86) rfl mj_M_isColour (by decide) rfl (Nat.le_of_ble_eq_true rfl) rfl rfl rfl (c_M_isColour) ?_
                          rw [e0]
                          refine hy_ib_ne (i := 87) (tt := 94) rfl (fun zc4 => ?_) (fun zc4 => ?_)
                          · exact bb_abs (by assumption) c5.2
                          · refine hy_aload (i := 88) rfl rfl ?_
                            refine hy_const (i := 89) rfl (by decide) ?_
                            refine hy_aload (i := 90) rfl rfl ?_
                            refine hy_get (i := 91) (fk := 10) rfl rfl rfl ?_
                            refine hy_cV2e (i := 92) rfl mj_M_wrongAt (by decide) rfl (Nat.le_of_ble_eq_true rfl) rfl rfl rfl (c_M_wrongAt (by decide) hp1) ?_
                            refine hy_zreturn (i := 93) rfl rfl (by first | decide | exact hy_b01 _) ?_
                            rw [← hv]; exact ⟨rfl, rfl⟩
                      · simp only [decide_eq_false_iff_not] at *; omega
                  · rw [if_neg c5] at hv
                    have c6 : many + ld_times u ≤ 8 := by
                      by_cases hr : ld_run (mp_here u)
                      · exact c3 (.inl hr)
                      · have e1 : ld_t1 u = u := by unfold ld_t1; rw [if_neg hr]
                        rw [e1] at c4
                        exact c3 (.inr c4)
                    have paint : ∀ (m2 : Nat), ∀ (k : Nat), m2 + k = ld_times u → hy_W sc hm_M_readsRow 2 96 [.inr (some 59), .inl (row : Int), .inl (many : Int), .inl (mp_here (ld_t1 u)), .inl (hy_b w), .inl (ld_times u : Int), .inl (k : Int)] [] (ld_paintN (ld_t1 u) (8 * row + many) (ld_col (mp_here (ld_t1 u))) k) (hy_e (some (hy_b G.1)) G.2) := by
                      intro m2
                      induction m2 with
                      | zero =>
                        intro k hk
                        obtain rfl : k = ld_times u := by omega
                        have h2 := ld_s_paint h1.1 h1.2.2 (8 * row + many) (ld_col_in c4) (ld_times u)
                        have h3 := ld_s_st h2.1 h2.2.2 (by rw [ld_paint_here]; omega)
                        have hp2 := h2.1.1
                        refine hy_iload (i := 96) rfl rfl ?_
                        refine hy_iload (i := 97) rfl rfl ?_
                        refine hy_ic_ge (i := 98) (tt := 119) rfl (fun zc1 => ?_) (fun zc1 => ?_)
                        · refine hy_iload (i := 119) rfl rfl ?_
                          refine hy_iload (i := 120) rfl rfl ?_
                          refine hy_iadd (i := 121) rfl (by omega) ?_
                          refine hy_istore (i := 122) rfl ?_
                          refine hy_aload (i := 123) rfl rfl ?_
                          refine hy_aload (i := 124) rfl rfl ?_
                          refine hy_get (i := 125) (fk := 10) rfl rfl rfl ?_
                          refine hy_const (i := 126) rfl (by decide) ?_
                          refine hy_iadd (i := 127) rfl (by omega) ?_
                          refine hy_put (i := 128) (fk := 10) rfl rfl rfl rfl ?_
                          refine hy_goto (i := 129) (tt := 2) rfl ?_
                          exact ih _ (many + ld_times u) _ _ _ _ (by omega) (by omega) h3.1 h3.2.2 hv
                        · omega
                      | succ m2 ih2 =>
                        intro k hk
                        have ec : mp_here (ld_t1 u) = 46 → ld_col (mp_here (ld_t1 u)) = 12 := fun h => by unfold ld_col; rw [if_pos h]
                        have ed : ¬ mp_here (ld_t1 u) = 46 → ld_col (mp_here (ld_t1 u)) = mp_here (ld_t1 u) - 97 := fun h => by unfold ld_col; rw [if_neg h]
                        refine hy_iload (i := 96) rfl rfl ?_
                        refine hy_iload (i := 97) rfl rfl ?_
                        refine hy_ic_ge (i := 98) (tt := 119) rfl (fun zc1 => ?_) (fun zc1 => ?_)
                        · omega
                        · refine hy_aload (i := 99) rfl rfl ?_
                          refine hy_getr (i := 100) rfl rfl ?_
                          refine hy_const (i := 101) rfl (by decide) ?_
                          refine hy_iload (i := 102) rfl rfl ?_
                          refine hy_imul (i := 103) rfl (by omega) ?_
                          refine hy_iload (i := 104) rfl rfl ?_
                          refine hy_iadd (i := 105) rfl (by omega) ?_
                          refine hy_iload (i := 106) rfl rfl ?_
                          refine hy_iadd (i := 107) rfl (by omega) ?_
                          refine hy_iload (i := 108) rfl rfl ?_
                          refine hy_const (i := 109) rfl (by decide) ?_
                          refine hy_ic_ne (i := 110) (tt := 113) rfl (fun zc2 => ?_) (fun zc2 => ?_)
                          · refine hy_iload (i := 113) rfl rfl ?_
                            refine hy_const (i := 114) rfl (by decide) ?_
                            refine hy_isub (i := 115) rfl (by omega) ?_
                            refine hy_iast (i := 116) rfl rfl (by omega) (k := 8 * row + many + k) (by omega) ?_
                            refine hy_iinc (i := 117) rfl rfl (by omega) ?_
                            refine hy_goto (i := 118) (tt := 96) rfl ?_
                            first | (rw [← ec (by assumption)]; exact ih2 (k + 1) (by omega)) | (rw [← ed (by assumption)]; exact ih2 (k + 1) (by omega))
                          · refine hy_const (i := 111) rfl (by decide) ?_
                            refine hy_goto (i := 112) (tt := 116) rfl ?_
                            refine hy_iast (i := 116) rfl rfl (by omega) (k := 8 * row + many + k) (by omega) ?_
                            refine hy_iinc (i := 117) rfl rfl (by omega) ?_
                            refine hy_goto (i := 118) (tt := 96) rfl ?_
                            first | (rw [← ec (by assumption)]; exact ih2 (k + 1) (by omega)) | (rw [← ed (by assumption)]; exact ih2 (k + 1) (by omega))
                    refine hy_aload (i := 62) rfl rfl ?_
                    refine hy_cV0e (i := 63) rfl mj_M_here (by decide) rfl (Nat.le_of_ble_eq_true rfl) rfl rfl rfl (c_M_here (by assumption)) ?_
                    refine hy_istore (i := 64) rfl ?_
                    refine hy_iload (i := 65) rfl rfl ?_
                    refine hy_const (i := 66) rfl (by decide) ?_
                    refine hy_ic_eq (i := 67) (tt := 79) rfl (fun zc1 => ?_) (fun zc1 => ?_)
                    · refine hy_iload (i := 79) rfl rfl ?_
                      refine hy_const (i := 80) rfl (by decide) ?_
                      refine hy_ic_eq (i := 81) (tt := 94) rfl (fun zc2 => ?_) (fun zc2 => ?_)
                      · refine hy_const (i := 94) rfl (by decide) ?_
                        refine hy_istore (i := 95) rfl ?_
                        exact paint (ld_times u) 0 rfl
                      · refine hy_aload (i := 82) rfl rfl ?_
                        refine hy_iload (i := 83) rfl rfl ?_
                        refine hy_const (i := 84) rfl (by decide) ?_
                        refine hy_isub (i := 85) rfl (by omega) ?_
                        refine hy_cV1e (i := 86) rfl mj_M_isColour (by decide) rfl (Nat.le_of_ble_eq_true rfl) rfl rfl rfl (c_M_isColour) ?_
                        rw [e0]
                        refine hy_ib_ne (i := 87) (tt := 94) rfl (fun zc3 => ?_) (fun zc3 => ?_)
                        · refine hy_const (i := 94) rfl (by decide) ?_
                          refine hy_istore (i := 95) rfl ?_
                          exact paint (ld_times u) 0 rfl
                        · exact absurd ⟨by assumption, by assumption⟩ c5
                    · refine hy_iload (i := 68) rfl rfl ?_
                      refine hy_const (i := 69) rfl (by decide) ?_
                      refine hy_const (i := 70) rfl (by decide) ?_
                      refine hy_cS3e (i := 71) rfl (by decide) mj_M_in (by decide) rfl (Nat.le_of_ble_eq_true rfl) (c_M_in) ?_
                      refine hy_ib_ne (i := 72) (tt := 79) rfl (fun zc2 => ?_) (fun zc2 => ?_)
                      · refine hy_iload (i := 79) rfl rfl ?_
                        refine hy_const (i := 80) rfl (by decide) ?_
                        refine hy_ic_eq (i := 81) (tt := 94) rfl (fun zc3 => ?_) (fun zc3 => ?_)
                        · refine hy_const (i := 94) rfl (by decide) ?_
                          refine hy_istore (i := 95) rfl ?_
                          exact paint (ld_times u) 0 rfl
                        · refine hy_aload (i := 82) rfl rfl ?_
                          refine hy_iload (i := 83) rfl rfl ?_
                          refine hy_const (i := 84) rfl (by decide) ?_
                          refine hy_isub (i := 85) rfl (by omega) ?_
                          refine hy_cV1e (i := 86) rfl mj_M_isColour (by decide) rfl (Nat.le_of_ble_eq_true rfl) rfl rfl rfl (c_M_isColour) ?_
                          rw [e0]
                          refine hy_ib_ne (i := 87) (tt := 94) rfl (fun zc4 => ?_) (fun zc4 => ?_)
                          · refine hy_const (i := 94) rfl (by decide) ?_
                            refine hy_istore (i := 95) rfl ?_
                            exact paint (ld_times u) 0 rfl
                          · exact absurd ⟨by assumption, by assumption⟩ c5
                      · simp only [decide_eq_false_iff_not] at *; omega
                · rw [if_pos c4] at hv
                  refine hy_aload (i := 62) rfl rfl ?_
                  refine hy_cV0e (i := 63) rfl mj_M_here (by decide) rfl (Nat.le_of_ble_eq_true rfl) rfl rfl rfl (c_M_here (by assumption)) ?_
                  refine hy_istore (i := 64) rfl ?_
                  refine hy_iload (i := 65) rfl rfl ?_
                  refine hy_const (i := 66) rfl (by decide) ?_
                  refine hy_ic_eq (i := 67) (tt := 79) rfl (fun zc1 => ?_) (fun zc1 => ?_)
                  · omega
                  · refine hy_iload (i := 68) rfl rfl ?_
                    refine hy_const (i := 69) rfl (by decide) ?_
                    refine hy_const (i := 70) rfl (by decide) ?_
                    refine hy_cS3e (i := 71) rfl (by decide) mj_M_in (by decide) rfl (Nat.le_of_ble_eq_true rfl) (c_M_in) ?_
                    refine hy_ib_ne (i := 72) (tt := 79) rfl (fun zc2 => ?_) (fun zc2 => ?_)
                    · simp only [decide_eq_true_eq] at *; omega
                    · refine hy_aload (i := 73) rfl rfl ?_
                      refine hy_const (i := 74) rfl (by decide) ?_
                      refine hy_aload (i := 75) rfl rfl ?_
                      refine hy_get (i := 76) (fk := 10) rfl rfl rfl ?_
                      refine hy_cV2e (i := 77) rfl mj_M_wrongAt (by decide) rfl (Nat.le_of_ble_eq_true rfl) rfl rfl rfl (c_M_wrongAt (by decide) hp1) ?_
                      refine hy_zreturn (i := 78) rfl rfl (by first | decide | exact hy_b01 _) ?_
                      rw [← hv]; exact ⟨rfl, rfl⟩
              have e2 : w = true → ld_t1 u = mp_st u := fun h => by unfold ld_t1; rw [if_pos (of_decide_eq_true (by rw [← hw]; exact h))]
              have e3 : w = false → ld_t1 u = u := fun h => by unfold ld_t1; rw [if_neg (of_decide_eq_false (by rw [← hw]; exact h))]
              refine hy_iload (i := 33) rfl rfl ?_
              refine hy_ib_ne (i := 34) (tt := 43) rfl (fun zc1 => ?_) (fun zc1 => ?_)
              · refine hy_iload (i := 43) rfl rfl ?_
                refine hy_iload (i := 44) rfl rfl ?_
                refine hy_iadd (i := 45) rfl (by omega) ?_
                refine hy_const (i := 46) rfl (by decide) ?_
                refine hy_ic_le (i := 47) (tt := 54) rfl (fun zc2 => ?_) (fun zc2 => ?_)
                · refine hy_iload (i := 54) rfl rfl ?_
                  refine hy_ib_eq (i := 55) (tt := 62) rfl (fun zc3 => ?_) (fun zc3 => ?_)
                  · first | (have q := two (.inl (mp_here u)); rw [e2 (by assumption)] at q; exact q) | (have q := two (.inl (mp_here u)); rw [e3 (by assumption)] at q; exact q)
                  · refine hy_aload (i := 56) rfl rfl ?_
                    refine hy_aload (i := 57) rfl rfl ?_
                    refine hy_get (i := 58) (fk := 10) rfl rfl rfl ?_
                    refine hy_const (i := 59) rfl (by decide) ?_
                    refine hy_iadd (i := 60) rfl (by omega) ?_
                    refine hy_put (i := 61) (fk := 10) rfl rfl rfl rfl ?_
                    first | (have q := two (.inl (mp_here u)); rw [e2 (by assumption)] at q; exact q) | (have q := two (.inl (mp_here u)); rw [e3 (by assumption)] at q; exact q)
                · exfalso; have := c3 (by first | exact .inl (of_decide_eq_true (by rw [← hw]; assumption)) | exact .inr (.inl (by assumption)) | exact .inr (.inr (of_decide_eq_true (by assumption)))); omega
              · refine hy_iload (i := 35) rfl rfl ?_
                refine hy_const (i := 36) rfl (by decide) ?_
                refine hy_ic_eq (i := 37) (tt := 43) rfl (fun zc2 => ?_) (fun zc2 => ?_)
                · refine hy_iload (i := 43) rfl rfl ?_
                  refine hy_iload (i := 44) rfl rfl ?_
                  refine hy_iadd (i := 45) rfl (by omega) ?_
                  refine hy_const (i := 46) rfl (by decide) ?_
                  refine hy_ic_le (i := 47) (tt := 54) rfl (fun zc3 => ?_) (fun zc3 => ?_)
                  · refine hy_iload (i := 54) rfl rfl ?_
                    refine hy_ib_eq (i := 55) (tt := 62) rfl (fun zc4 => ?_) (fun zc4 => ?_)
                    · first | (have q := two (.inl (mp_here u)); rw [e2 (by assumption)] at q; exact q) | (have q := two (.inl (mp_here u)); rw [e3 (by assumption)] at q; exact q)
                    · refine hy_aload (i := 56) rfl rfl ?_
                      refine hy_aload (i := 57) rfl rfl ?_
                      refine hy_get (i := 58) (fk := 10) rfl rfl rfl ?_
                      refine hy_const (i := 59) rfl (by decide) ?_
                      refine hy_iadd (i := 60) rfl (by omega) ?_
                      refine hy_put (i := 61) (fk := 10) rfl rfl rfl rfl ?_
                      first | (have q := two (.inl (mp_here u)); rw [e2 (by assumption)] at q; exact q) | (have q := two (.inl (mp_here u)); rw [e3 (by assumption)] at q; exact q)
                  · exfalso; have := c3 (by first | exact .inl (of_decide_eq_true (by rw [← hw]; assumption)) | exact .inr (.inl (by assumption)) | exact .inr (.inr (of_decide_eq_true (by assumption)))); omega
                · refine hy_iload (i := 38) rfl rfl ?_
                  refine hy_const (i := 39) rfl (by decide) ?_
                  refine hy_const (i := 40) rfl (by decide) ?_
                  refine hy_cS3e (i := 41) rfl (by decide) mj_M_in (by decide) rfl (Nat.le_of_ble_eq_true rfl) (c_M_in) ?_
                  refine hy_ib_eq (i := 42) (tt := 54) rfl (fun zc3 => ?_) (fun zc3 => ?_)
                  · refine hy_iload (i := 54) rfl rfl ?_
                    refine hy_ib_eq (i := 55) (tt := 62) rfl (fun zc4 => ?_) (fun zc4 => ?_)
                    · first | (have q := two (.inl (mp_here u)); rw [e2 (by assumption)] at q; exact q) | (have q := two (.inl (mp_here u)); rw [e3 (by assumption)] at q; exact q)
                    · refine hy_aload (i := 56) rfl rfl ?_
                      refine hy_aload (i := 57) rfl rfl ?_
                      refine hy_get (i := 58) (fk := 10) rfl rfl rfl ?_
                      refine hy_const (i := 59) rfl (by decide) ?_
                      refine hy_iadd (i := 60) rfl (by omega) ?_
                      refine hy_put (i := 61) (fk := 10) rfl rfl rfl rfl ?_
                      first | (have q := two (.inl (mp_here u)); rw [e2 (by assumption)] at q; exact q) | (have q := two (.inl (mp_here u)); rw [e3 (by assumption)] at q; exact q)
                  · refine hy_iload (i := 43) rfl rfl ?_
                    refine hy_iload (i := 44) rfl rfl ?_
                    refine hy_iadd (i := 45) rfl (by omega) ?_
                    refine hy_const (i := 46) rfl (by decide) ?_
                    refine hy_ic_le (i := 47) (tt := 54) rfl (fun zc4 => ?_) (fun zc4 => ?_)
                    · refine hy_iload (i := 54) rfl rfl ?_
                      refine hy_ib_eq (i := 55) (tt := 62) rfl (fun zc5 => ?_) (fun zc5 => ?_)
                      · first | (have q := two (.inl (mp_here u)); rw [e2 (by assumption)] at q; exact q) | (have q := two (.inl (mp_here u)); rw [e3 (by assumption)] at q; exact q)
                      · refine hy_aload (i := 56) rfl rfl ?_
                        refine hy_aload (i := 57) rfl rfl ?_
                        refine hy_get (i := 58) (fk := 10) rfl rfl rfl ?_
                        refine hy_const (i := 59) rfl (by decide) ?_
                        refine hy_iadd (i := 60) rfl (by omega) ?_
                        refine hy_put (i := 61) (fk := 10) rfl rfl rfl rfl ?_
                        first | (have q := two (.inl (mp_here u)); rw [e2 (by assumption)] at q; exact q) | (have q := two (.inl (mp_here u)); rw [e3 (by assumption)] at q; exact q)
                    · exfalso; have := c3 (by first | exact .inl (of_decide_eq_true (by rw [← hw]; assumption)) | exact .inr (.inl (by assumption)) | exact .inr (.inr (of_decide_eq_true (by assumption)))); omega
          refine hy_iload (i := 25) rfl rfl ?_
          refine hy_ib_eq (i := 26) (tt := 31) rfl (fun zc1 => ?_) (fun zc1 => ?_)
          · refine hy_const (i := 31) rfl (by decide) ?_
            refine hy_istore (i := 32) rfl ?_
            first | exact tm _ (by rw [ht, if_pos (by assumption)]) | exact tm _ (by rw [ht, if_neg (fun q => bb_abs q (by assumption))])
          · refine hy_iload (i := 27) rfl rfl ?_
            refine hy_const (i := 28) rfl (by decide) ?_
            refine hy_isub (i := 29) rfl (by omega) ?_
            refine hy_goto (i := 30) (tt := 32) rfl ?_
            refine hy_istore (i := 32) rfl ?_
            first | exact tm _ (by rw [ht, if_pos (by assumption)]) | exact tm _ (by rw [ht, if_neg (fun q => bb_abs q (by assumption))])
        refine hy_aload (i := 2) rfl rfl ?_
        refine hy_cV0e (i := 3) rfl mj_M_here (by decide) rfl (Nat.le_of_ble_eq_true rfl) rfl rfl rfl (c_M_here (by assumption)) ?_
        refine hy_istore (i := 4) rfl ?_
        refine hy_iload (i := 5) rfl rfl ?_
        refine hy_const (i := 6) rfl (by decide) ?_
        refine hy_const (i := 7) rfl (by decide) ?_
        refine hy_cS3e (i := 8) rfl (by decide) mj_M_in (by decide) rfl (Nat.le_of_ble_eq_true rfl) (c_M_in) ?_
        refine hy_istore (i := 9) rfl ?_
        refine hy_iload (i := 10) rfl rfl ?_
        refine hy_const (i := 11) rfl (by decide) ?_
        refine hy_ic_ne (i := 12) (tt := 25) rfl (fun zc1 => ?_) (fun zc1 => ?_)
        · exact rest _ _ _ rfl
        · refine hy_iload (i := 13) rfl rfl ?_
          refine hy_ib_ne (i := 14) (tt := 25) rfl (fun zc2 => ?_) (fun zc2 => ?_)
          · exact rest _ _ _ rfl
          · refine hy_iload (i := 15) rfl rfl ?_
            refine hy_const (i := 16) rfl (by decide) ?_
            refine hy_ic_eq (i := 17) (tt := 25) rfl (fun zc3 => ?_) (fun zc3 => ?_)
            · exact rest _ _ _ rfl
            · refine hy_iload (i := 18) rfl rfl ?_
              refine hy_const (i := 19) rfl (by decide) ?_
              refine hy_const (i := 20) rfl (by decide) ?_
              refine hy_cS3e (i := 21) rfl (by decide) mj_M_in (by decide) rfl (Nat.le_of_ble_eq_true rfl) (c_M_in) ?_
              refine hy_ib_ne (i := 22) (tt := 25) rfl (fun zc4 => ?_) (fun zc4 => ?_)
              · exact rest _ _ _ rfl
              · exfalso; simp only [decide_eq_false_iff_not] at *; exact c1 ⟨by omega, by omega, by omega⟩
  refine hy_const (i := 0) rfl (by decide) ?_
  refine hy_istore (i := 1) rfl ?_
  exact loop 9 t 0 _ _ _ _ (by decide) (by decide) h hn hG
abbrev ld_ntc (t : hy_T) (n : Int) : Prop := (1 ≤ n ∧ n ≤ 160) ∧ n ≤ t 59 9
theorem c_M_land {n : Int} (hn : nl_ok t) : hy_Ct sc hm_M_land 3 [.inr (some 59), .inl n] t (hy_e (some (if ld_ntc t n then (if (ld_read t n).1 = true then ld_cntN (ld_read t n).2 64 else (ld_read t n).2 59 12) else -1)) (if ld_ntc t n then (if (ld_read t n).1 = true then ld_cpN (ld_read t n).2 64 else (ld_read t n).2) else t)) := by
  refine hy_mk_ct ok_M_land ck_M_land (Nat.le_of_ble_eq_true rfl) ?_
  by_cases hq : ld_ntc t n
  · rw [if_pos hq, if_pos hq]
    obtain ⟨a1, a2, a3⟩ := ld_t0_s hn (n := n) (by omega)
    have b := ld_rowN_s 0 9 0 a1 a2
    have copy : ∀ (u : hy_T) (v2 : hy_V), ∀ (m : Nat), ∀ (k : Nat), m + k = 64 → hy_W sc hm_M_land 3 67 [.inr (some 59), .inl n, v2, .inl (ld_cntN u k), .inl (k : Int)] [] (ld_cpN u k) (hy_e (some (ld_cntN u 64)) (ld_cpN u 64)) := by
      intro u v2 m
      induction m with
      | zero =>
        intro k hm
        obtain rfl : k = 64 := by omega
        refine hy_iload (i := 67) rfl rfl ?_
        refine hy_const (i := 68) rfl (by decide) ?_
        refine hy_ic_ge (i := 69) (tt := 92) rfl (fun zc1 => ?_) (fun zc1 => ?_)
        · refine hy_iload (i := 92) rfl rfl ?_
          refine hy_ireturn (i := 93) rfl rfl ?_
          exact ⟨rfl, rfl⟩
        · omega
      | succ m ih =>
        intro k hm
        have hin := ld_cntN_in u k
        have e96 : ld_cpN u k 96 k = u 96 k := ld_cpN_F u k 96 k rfl
        have e1 : ld_cntN u (k + 1) = ld_cntN u k + (if u 96 k = 12 then 0 else 1) := rfl
        have ih' := ih (k + 1) (by omega)
        rw [e1] at ih'
        refine hy_iload (i := 67) rfl rfl ?_
        refine hy_const (i := 68) rfl (by decide) ?_
        refine hy_ic_ge (i := 69) (tt := 92) rfl (fun zc1 => ?_) (fun zc1 => ?_)
        · omega
        · refine hy_aload (i := 70) rfl rfl ?_
          refine hy_getr (i := 71) rfl rfl ?_
          refine hy_iload (i := 72) rfl rfl ?_
          refine hy_aload (i := 73) rfl rfl ?_
          refine hy_getr (i := 74) rfl rfl ?_
          refine hy_iload (i := 75) rfl rfl ?_
          refine hy_iald (i := 76) rfl rfl (by omega) (k := k) (by omega) ?_
          refine hy_iast (i := 77) rfl rfl (by omega) (k := k) (by omega) ?_
          refine hy_iload (i := 78) rfl rfl ?_
          refine hy_aload (i := 79) rfl rfl ?_
          refine hy_getr (i := 80) rfl rfl ?_
          refine hy_iload (i := 81) rfl rfl ?_
          refine hy_iald (i := 82) rfl rfl (by omega) (k := k) (by omega) ?_
          rw [show hy_up (ld_cpN u k) 63 k (ld_cpN u k 96 k) 63 k = u 96 k by rw [e96]; simp [hy_up]]
          refine hy_const (i := 83) rfl (by decide) ?_
          refine hy_ic_ne (i := 84) (tt := 87) rfl (fun zc2 => ?_) (fun zc2 => ?_)
          · refine hy_const (i := 87) rfl (by decide) ?_
            refine hy_iadd (i := 88) rfl (by omega) ?_
            refine hy_istore (i := 89) rfl ?_
            refine hy_iinc (i := 90) rfl rfl (by omega) ?_
            refine hy_goto (i := 91) (tt := 67) rfl ?_
            first | (rw [if_pos (by assumption)] at ih'; exact ih') | (rw [if_neg (by assumption)] at ih'; exact ih')
          · refine hy_const (i := 85) rfl (by decide) ?_
            refine hy_goto (i := 86) (tt := 88) rfl ?_
            refine hy_iadd (i := 88) rfl (by omega) ?_
            refine hy_istore (i := 89) rfl ?_
            refine hy_iinc (i := 90) rfl rfl (by omega) ?_
            refine hy_goto (i := 91) (tt := 67) rfl ?_
            first | (rw [if_pos (by assumption)] at ih'; exact ih') | (rw [if_neg (by assumption)] at ih'; exact ih')
    have fin : ∀ (p : Bool × hy_T), mp_ok p.2 → nl_ok p.2 → ((ld_end p).1, hy_up (ld_end p).2 59 9 0) = ld_read t n → ∀ v3, hy_W sc hm_M_land 3 42 [.inr (some 59), .inl n, .inl (hy_b p.1), v3, .inr none] [] p.2 (hy_e (some (if (ld_read t n).1 = true then ld_cntN (ld_read t n).2 64 else (ld_read t n).2 59 12)) (if (ld_read t n).1 = true then ld_cpN (ld_read t n).2 64 else (ld_read t n).2)) := by
      intro p hp hnp hv v3
      have hpl := hp.1
      rw [← hv]
      unfold ld_end
      by_cases hc : p.1 = true ∧ p.2 59 10 < p.2 59 11
      · rw [if_pos hc]
        refine hy_iload (i := 42) rfl rfl ?_
        refine hy_ib_eq (i := 43) (tt := 55) rfl (fun zc1 => ?_) (fun zc1 => ?_)
        · exact bb_abs hc.1 zc1
        · refine hy_aload (i := 44) rfl rfl ?_
          refine hy_get (i := 45) (fk := 10) rfl rfl rfl ?_
          refine hy_aload (i := 46) rfl rfl ?_
          refine hy_get (i := 47) (fk := 11) rfl rfl rfl ?_
          refine hy_ic_ge (i := 48) (tt := 55) rfl (fun zc2 => ?_) (fun zc2 => ?_)
          · omega
          · refine hy_aload (i := 49) rfl rfl ?_
            refine hy_const (i := 50) rfl (by decide) ?_
            refine hy_aload (i := 51) rfl rfl ?_
            refine hy_get (i := 52) (fk := 10) rfl rfl rfl ?_
            refine hy_cV2e (i := 53) rfl mj_M_wrongAt (by decide) rfl (Nat.le_of_ble_eq_true rfl) rfl rfl rfl (c_M_wrongAt (by decide) hpl) ?_
            refine hy_istore (i := 54) rfl ?_
            refine hy_aload (i := 55) rfl rfl ?_
            refine hy_const (i := 56) rfl (by decide) ?_
            refine hy_put (i := 57) (fk := 9) rfl rfl rfl rfl ?_
            refine hy_iload (i := 58) rfl rfl ?_
            refine hy_ib_ne (i := 59) (tt := 63) rfl (fun zc3 => ?_) (fun zc3 => ?_)
            · cases (show false = true by assumption)
            · refine hy_aload (i := 60) rfl rfl ?_
              refine hy_get (i := 61) (fk := 12) rfl rfl rfl ?_
              refine hy_ireturn (i := 62) rfl rfl ?_
              exact ⟨rfl, rfl⟩
      · rw [if_neg hc]
        refine hy_iload (i := 42) rfl rfl ?_
        refine hy_ib_eq (i := 43) (tt := 55) rfl (fun zc1 => ?_) (fun zc1 => ?_)
        · refine hy_aload (i := 55) rfl rfl ?_
          refine hy_const (i := 56) rfl (by decide) ?_
          refine hy_put (i := 57) (fk := 9) rfl rfl rfl rfl ?_
          refine hy_iload (i := 58) rfl rfl ?_
          refine hy_ib_ne (i := 59) (tt := 63) rfl (fun zc2 => ?_) (fun zc2 => ?_)
          · refine hy_const (i := 63) rfl (by decide) ?_
            refine hy_istore (i := 64) rfl ?_
            refine hy_const (i := 65) rfl (by decide) ?_
            refine hy_istore (i := 66) rfl ?_
            dsimp only; rw [if_pos (by assumption), if_pos (by assumption)]; exact copy _ _ 64 0 rfl
          · refine hy_aload (i := 60) rfl rfl ?_
            refine hy_get (i := 61) (fk := 12) rfl rfl rfl ?_
            refine hy_ireturn (i := 62) rfl rfl ?_
            dsimp only; first | (rw [if_neg (fun q => bb_abs q (by assumption)), if_neg (fun q => bb_abs q (by assumption))]; exact ⟨rfl, rfl⟩)
        · refine hy_aload (i := 44) rfl rfl ?_
          refine hy_get (i := 45) (fk := 10) rfl rfl rfl ?_
          refine hy_aload (i := 46) rfl rfl ?_
          refine hy_get (i := 47) (fk := 11) rfl rfl rfl ?_
          refine hy_ic_ge (i := 48) (tt := 55) rfl (fun zc2 => ?_) (fun zc2 => ?_)
          · refine hy_aload (i := 55) rfl rfl ?_
            refine hy_const (i := 56) rfl (by decide) ?_
            refine hy_put (i := 57) (fk := 9) rfl rfl rfl rfl ?_
            refine hy_iload (i := 58) rfl rfl ?_
            refine hy_ib_ne (i := 59) (tt := 63) rfl (fun zc3 => ?_) (fun zc3 => ?_)
            · refine hy_const (i := 63) rfl (by decide) ?_
              refine hy_istore (i := 64) rfl ?_
              refine hy_const (i := 65) rfl (by decide) ?_
              refine hy_istore (i := 66) rfl ?_
              dsimp only; rw [if_pos (by assumption), if_pos (by assumption)]; exact copy _ _ 64 0 rfl
            · refine hy_aload (i := 60) rfl rfl ?_
              refine hy_get (i := 61) (fk := 12) rfl rfl rfl ?_
              refine hy_ireturn (i := 62) rfl rfl ?_
              dsimp only; first | (rw [if_neg (fun q => bb_abs q (by assumption)), if_neg (fun q => bb_abs q (by assumption))]; exact ⟨rfl, rfl⟩)
          · exact absurd ⟨by assumption, by omega⟩ hc
    have rows : ∀ (m : Nat), ∀ (row : Nat) (p : Bool × hy_T), m + row = 8 → 1 ≤ row → mp_ok p.2 → nl_ok p.2 → ld_rowsN m row p = ld_rowsN 7 1 (ld_row (ld_t0 t n) 0) → hy_W sc hm_M_land 3 23 [.inr (some 59), .inl n, .inl (hy_b p.1), .inl (row : Int), .inr none] [] p.2 (hy_e (some (if (ld_read t n).1 = true then ld_cntN (ld_read t n).2 64 else (ld_read t n).2 59 12)) (if (ld_read t n).1 = true then ld_cpN (ld_read t n).2 64 else (ld_read t n).2)) := by
      intro m
      induction m with
      | zero =>
        intro row p hm h1 hp hnp hv
        refine hy_iload (i := 23) rfl rfl ?_
        refine hy_const (i := 24) rfl (by decide) ?_
        refine hy_ic_ge (i := 25) (tt := 42) rfl (fun zc1 => ?_) (fun zc1 => ?_)
        · exact fin p hp hnp (by rw [show p = _ from hv]; rfl) _
        · omega
      | succ m ih =>
        intro row p hm h1 hp hnp hv
        by_cases hx : p.1 = true
        · have ht := ld_take_s hp hnp
          have ok2 := ht.1
          have nl2 := ht.2.2
          have hr := ld_rowN_s row 9 0 ok2 nl2
          have hv2 : ld_rowsN m (row + 1) (if (mp_take p.2 47).1 = true then ld_row (mp_take p.2 47).2 row else (false, (mp_take p.2 47).2)) = ld_rowsN 7 1 (ld_row (ld_t0 t n) 0) := by
            rw [← hv]
            show _ = if p.1 = true then _ else _
            rw [if_pos hx]
          by_cases hk : (mp_take p.2 47).1 = true
          · rw [if_pos hk] at hv2
            refine hy_iload (i := 23) rfl rfl ?_
            refine hy_const (i := 24) rfl (by decide) ?_
            refine hy_ic_ge (i := 25) (tt := 42) rfl (fun zc1 => ?_) (fun zc1 => ?_)
            · omega
            · refine hy_iload (i := 26) rfl rfl ?_
              refine hy_ib_eq (i := 27) (tt := 42) rfl (fun zc2 => ?_) (fun zc2 => ?_)
              · exact bb_abs hx (by assumption)
              · refine hy_aload (i := 28) rfl rfl ?_
                refine hy_const (i := 29) rfl (by decide) ?_
                refine hy_cV1e (i := 30) rfl mj_M_takes (by decide) rfl (Nat.le_of_ble_eq_true rfl) rfl rfl rfl (c_M_takes (by assumption)) ?_
                refine hy_ib_eq (i := 31) (tt := 38) rfl (fun zc3 => ?_) (fun zc3 => ?_)
                · exact bb_abs hk (by assumption)
                · refine hy_aload (i := 32) rfl rfl ?_
                  refine hy_iload (i := 33) rfl rfl ?_
                  refine hy_cV1e (i := 34) rfl mj_M_readsRow (by decide) rfl (Nat.le_of_ble_eq_true rfl) rfl rfl rfl (c_M_readsRow (row := row) (by omega) ok2 nl2) ?_
                  refine hy_ib_eq (i := 35) (tt := 38) rfl (fun zc4 => ?_) (fun zc4 => ?_)
                  · refine hy_const (i := 38) rfl (by decide) ?_
                    refine hy_istore (i := 39) rfl ?_
                    refine hy_iinc (i := 40) rfl rfl (by omega) ?_
                    refine hy_goto (i := 41) (tt := 23) rfl ?_
                    first | exact ih (row + 1) (true, (ld_row (mp_take p.2 47).2 row).2) (by omega) (by omega) hr.1 hr.2.2 (by rw [← hv2]; exact congrArg (ld_rowsN m (row + 1)) (Prod.ext (show (ld_row (mp_take p.2 47).2 row).1 = true by assumption).symm rfl)) | exact ih (row + 1) (false, (ld_row (mp_take p.2 47).2 row).2) (by omega) (by omega) hr.1 hr.2.2 (by rw [← hv2]; exact congrArg (ld_rowsN m (row + 1)) (Prod.ext (show (ld_row (mp_take p.2 47).2 row).1 = false by assumption).symm rfl))
                  · refine hy_const (i := 36) rfl (by decide) ?_
                    refine hy_goto (i := 37) (tt := 39) rfl ?_
                    refine hy_istore (i := 39) rfl ?_
                    refine hy_iinc (i := 40) rfl rfl (by omega) ?_
                    refine hy_goto (i := 41) (tt := 23) rfl ?_
                    first | exact ih (row + 1) (true, (ld_row (mp_take p.2 47).2 row).2) (by omega) (by omega) hr.1 hr.2.2 (by rw [← hv2]; exact congrArg (ld_rowsN m (row + 1)) (Prod.ext (show (ld_row (mp_take p.2 47).2 row).1 = true by assumption).symm rfl)) | exact ih (row + 1) (false, (ld_row (mp_take p.2 47).2 row).2) (by omega) (by omega) hr.1 hr.2.2 (by rw [← hv2]; exact congrArg (ld_rowsN m (row + 1)) (Prod.ext (show (ld_row (mp_take p.2 47).2 row).1 = false by assumption).symm rfl))
          · rw [if_neg hk] at hv2
            refine hy_iload (i := 23) rfl rfl ?_
            refine hy_const (i := 24) rfl (by decide) ?_
            refine hy_ic_ge (i := 25) (tt := 42) rfl (fun zc1 => ?_) (fun zc1 => ?_)
            · omega
            · refine hy_iload (i := 26) rfl rfl ?_
              refine hy_ib_eq (i := 27) (tt := 42) rfl (fun zc2 => ?_) (fun zc2 => ?_)
              · exact bb_abs hx (by assumption)
              · refine hy_aload (i := 28) rfl rfl ?_
                refine hy_const (i := 29) rfl (by decide) ?_
                refine hy_cV1e (i := 30) rfl mj_M_takes (by decide) rfl (Nat.le_of_ble_eq_true rfl) rfl rfl rfl (c_M_takes (by assumption)) ?_
                refine hy_ib_eq (i := 31) (tt := 38) rfl (fun zc3 => ?_) (fun zc3 => ?_)
                · refine hy_const (i := 38) rfl (by decide) ?_
                  refine hy_istore (i := 39) rfl ?_
                  refine hy_iinc (i := 40) rfl rfl (by omega) ?_
                  refine hy_goto (i := 41) (tt := 23) rfl ?_
                  exact ih (row + 1) (false, (mp_take p.2 47).2) (by omega) (by omega) ok2 nl2 hv2
                · exact absurd (by assumption) hk
        · have hv2 : p = ld_rowsN 7 1 (ld_row (ld_t0 t n) 0) := by
            rw [← hv]
            show _ = if p.1 = true then _ else _
            rw [if_neg hx]
          refine hy_iload (i := 23) rfl rfl ?_
          refine hy_const (i := 24) rfl (by decide) ?_
          refine hy_ic_ge (i := 25) (tt := 42) rfl (fun zc1 => ?_) (fun zc1 => ?_)
          · omega
          · refine hy_iload (i := 26) rfl rfl ?_
            refine hy_ib_eq (i := 27) (tt := 42) rfl (fun zc2 => ?_) (fun zc2 => ?_)
            · exact fin p hp hnp (by rw [hv2]; rfl) _
            · exact absurd (by assumption) hx
    refine hy_iload (i := 0) rfl rfl ?_
    refine hy_const (i := 1) rfl (by decide) ?_
    refine hy_const (i := 2) rfl (by decide) ?_
    refine hy_cS3e (i := 3) rfl (by decide) mj_M_in (by decide) rfl (Nat.le_of_ble_eq_true rfl) (c_M_in) ?_
    refine hy_ib_eq (i := 4) (tt := 9) rfl (fun zc1 => ?_) (fun zc1 => ?_)
    · simp only [decide_eq_false_iff_not] at zc1; omega
    · refine hy_iload (i := 5) rfl rfl ?_
      refine hy_aload (i := 6) rfl rfl ?_
      refine hy_get (i := 7) (fk := 9) rfl rfl rfl ?_
      refine hy_ic_le (i := 8) (tt := 11) rfl (fun zc2 => ?_) (fun zc2 => ?_)
      · refine hy_aload (i := 11) rfl rfl ?_
        refine hy_const (i := 12) rfl (by decide) ?_
        refine hy_put (i := 13) (fk := 10) rfl rfl rfl rfl ?_
        refine hy_aload (i := 14) rfl rfl ?_
        refine hy_iload (i := 15) rfl rfl ?_
        refine hy_put (i := 16) (fk := 11) rfl rfl rfl rfl ?_
        refine hy_aload (i := 17) rfl rfl ?_
        refine hy_const (i := 18) rfl (by decide) ?_
        refine hy_cV1e (i := 19) rfl mj_M_readsRow (by decide) rfl (Nat.le_of_ble_eq_true rfl) rfl rfl rfl (c_M_readsRow (t := ld_t0 t n) (row := 0) (by decide) a1 a2) ?_
        refine hy_istore (i := 20) rfl ?_
        refine hy_const (i := 21) rfl (by decide) ?_
        refine hy_istore (i := 22) rfl ?_
        exact rows 7 1 (ld_row (ld_t0 t n) 0) rfl (by decide) b.1 b.2.2 rfl
      · omega
  · rw [if_neg hq, if_neg hq]
    refine hy_iload (i := 0) rfl rfl ?_
    refine hy_const (i := 1) rfl (by decide) ?_
    refine hy_const (i := 2) rfl (by decide) ?_
    refine hy_cS3e (i := 3) rfl (by decide) mj_M_in (by decide) rfl (Nat.le_of_ble_eq_true rfl) (c_M_in) ?_
    refine hy_ib_eq (i := 4) (tt := 9) rfl (fun zc1 => ?_) (fun zc1 => ?_)
    · refine hy_const (i := 9) rfl (by decide) ?_
      refine hy_ireturn (i := 10) rfl rfl ?_
      exact ⟨rfl, rfl⟩
    · refine hy_iload (i := 5) rfl rfl ?_
      refine hy_aload (i := 6) rfl rfl ?_
      refine hy_get (i := 7) (fk := 9) rfl rfl rfl ?_
      refine hy_ic_le (i := 8) (tt := 11) rfl (fun zc2 => ?_) (fun zc2 => ?_)
      · exfalso; simp only [decide_eq_true_eq] at zc1; exact hq ⟨by omega, by omega⟩
      · refine hy_const (i := 9) rfl (by decide) ?_
        refine hy_ireturn (i := 10) rfl rfl ?_
        exact ⟨rfl, rfl⟩
end LA
/-! the model: ways, seas -/
def pc_sum (C : Nat → Int) : Nat → Int
  | 0 => 0
  | n + 1 => pc_sum C n + C n
theorem pc_sum_su (C : Nat → Int) (k : Nat) (v : Int) : ∀ n : Nat, pc_sum (su C k v) n = pc_sum C n + (if k < n then v - C k else 0)
  | 0 => by simp [pc_sum]
  | n + 1 => by
    simp only [pc_sum, pc_sum_su C k v n, su]
    by_cases h : n = k
    · rw [if_pos h, if_neg (by omega), if_pos (by omega), h]; omega
    · rw [if_neg h]
      by_cases h2 : k < n
      · rw [if_pos h2, if_pos (by omega)]; omega
      · rw [if_neg h2, if_neg (by omega)]; omega
theorem pc_sum_le {C : Nat → Int} {lo hi : Int} : ∀ n : Nat, (∀ f : Nat, f < n → lo ≤ C f ∧ C f ≤ hi) → lo * n ≤ pc_sum C n ∧ pc_sum C n ≤ hi * n
  | 0, _ => by simp [pc_sum]
  | n + 1, h => by
    have ih := pc_sum_le n (fun f hf => h f (by omega))
    have h1 := h n (by omega)
    simp only [pc_sum]
    rw [show (lo * ((n + 1 : Nat) : Int)) = lo * n + lo by rw [Int.natCast_add, Int.mul_add]; simp, show (hi * ((n + 1 : Nat) : Int)) = hi * n + hi by rw [Int.natCast_add, Int.mul_add]; simp]
    omega
/-- a step that makes a way cheaper -/
def pc_better (U : Nat → Bool) (h : Int) (C : Nat → Int) (f w : Nat) : Prop :=
  C f < 1000000000 ∧ pa_beside f w ≠ -1 ∧ (h = 0 ∨ U (pa_beside f w).toNat = true) ∧ C f + 1 + (if U (pa_beside f w).toNat = true then 0 else 100) < C (pa_beside f w).toNat
def pc_step (U : Nat → Bool) (C : Nat → Int) (f w : Nat) : Nat → Int := su C (pa_beside f w).toNat (C f + 1 + (if U (pa_beside f w).toNat = true then 0 else 100))
abbrev pc_in (C : Nat → Int) : Prop := ∀ f : Nat, f < 64 → 0 ≤ C f ∧ C f ≤ 1000000000
theorem pc_step_s {U : Nat → Bool} {h : Int} {C : Nat → Int} {f w : Nat} (hf : f < 64) (hi : pc_in C) (hb : pc_better U h C f w) : pc_in (pc_step U C f w) ∧ pc_sum (pc_step U C f w) 64 < pc_sum C 64 := by
  obtain ⟨b1, b2, b3, b4⟩ := hb
  have hin := pa_beside_in (f := (f : Int)) (by omega) w
  have hk : (pa_beside f w).toNat < 64 := by omega
  have h1 := hi f hf
  have h2 := hi _ hk
  have h3 : 0 ≤ (if U (pa_beside f w).toNat = true then (0 : Int) else 100) := by split <;> decide
  constructor
  · intro g hg
    unfold pc_step
    simp only [su]
    split
    · omega
    · exact hi g hg
  · unfold pc_step
    rw [pc_sum_su, if_pos hk]
    omega
abbrev sX97 : Nat → Nat → Bool := fun r _ => r == 97
section MW1
variable {sc : List Int32} {t : hy_T}
theorem c_M_laysCosts {a u h : Int} {I : (Nat → Int) → Prop} {U : Nat → Bool} (hu : 0 ≤ u ∧ u < 13) (hg : mg_ok t) (hU : ∀ f : Nat, f < 64 → decide (t 79 (t 63 f).toNat = t 79 u.toNat) = U f) (h01 : h = 0 ∨ h = 1)
    (h0 : ∀ C, (∀ f : Nat, f < 64 → C f = if (f : Int) = a then 0 else 1000000000) → I C)
    (hI : ∀ C f w, I C → f < 64 → w < 4 → pc_better U h C f w → I (pc_step U C f w)) :
    hy_Ct sc hm_M_laysCosts 2 [.inr (some 59), .inl a, .inl u, .inl h] t (fun r t' => r = none ∧ hy_F sX97 t t' ∧ I (t' 97) ∧ pc_in (t' 97) ∧ ∀ f w : Nat, f < 64 → w < 4 → ¬ pc_better U h (t' 97) f w) := by
  refine hy_mk_ct ok_M_laysCosts ck_M_laysCosts (Nat.le_of_ble_eq_true rfl) ?_
  have un : ∀ (t1 : hy_T), hy_F sX97 t t1 → ∀ (to : Int), 0 ≤ to ∧ to < 64 → hy_Ct sc hm_M_isUnseen 0 [.inr (some 59), .inl to, .inl u] t1 (hy_e (some (hy_b (U to.toNat))) t1) := by
    intro t1 hF to hto
    have h63 : ∀ j, t1 63 j = t 63 j := fun j => hF 63 j rfl
    have h79 : ∀ j, t1 79 j = t 79 j := fun j => hF 79 j rfl
    have hgt := hg to.toNat (by omega)
    have hc := c_M_isUnseen (sc := sc) (t := t1) (f := to) (u := u) hto hu (by rw [h63]; exact hgt)
    rw [h63, h79, h79, hU to.toNat (by omega)] at hc
    exact hc
  -- one pass, and then the next one
  have passes : ∀ (N : Nat), ∀ (t1 : hy_T) (g : Int) (v5 v6 v7 v8 : hy_V), hy_F sX97 t t1 → I (t1 97) → pc_in (t1 97) → (g = 0 ∨ g = 1) → (g = 0 → ∀ f w : Nat, f < 64 → w < 4 → ¬ pc_better U h (t1 97) f w) → (g = 1 → pc_sum (t1 97) 64 < N) → hy_W sc hm_M_laysCosts 2 19 [.inr (some 59), .inl a, .inl u, .inl h, .inl g, v5, v6, v7, v8] [] t1 (fun r t' => r = none ∧ hy_F sX97 t t' ∧ I (t' 97) ∧ pc_in (t' 97) ∧ ∀ f w : Nat, f < 64 → w < 4 → ¬ pc_better U h (t' 97) f w) := by
    intro N
    induction N with
    | zero =>
      intro t1 g v5 v6 v7 v8 hF hi hin hg01 hst hs
      have := (pc_sum_le (C := t1 97) 64 hin).1
      refine hy_iload (i := 19) rfl rfl ?_
      refine hy_if_eq (i := 20) (tt := 90) rfl (fun zc1 => ?_) (fun zc1 => ?_)
      · refine hy_return (i := 90) rfl rfl ?_
        exact ⟨rfl, hF, hi, hin, hst (by omega)⟩
      · omega
    | succ N ih =>
      intro t1 g v5 v6 v7 v8 hF hi hin hg01 hst hs
      by_cases hg0 : g = 0
      · skip
        refine hy_iload (i := 19) rfl rfl ?_
        refine hy_if_eq (i := 20) (tt := 90) rfl (fun zc1 => ?_) (fun zc1 => ?_)
        · refine hy_return (i := 90) rfl rfl ?_
          exact ⟨rfl, hF, hi, hin, hst hg0⟩
        · exact absurd hg0 (by assumption)
      · have hs1 := hs (by omega)
        -- the fields, by number; what was looked at and no change yet: no better step there
        have fields : ∀ (m : Nat), ∀ (f : Nat) (t2 : hy_T) (g2 : Int) (v6 v7 v8 : hy_V), m + f = 64 → hy_F sX97 t t2 → I (t2 97) → pc_in (t2 97) → (g2 = 0 ∨ g2 = 1) → (g2 = 0 → t2 97 = t1 97 ∧ ∀ f' w : Nat, f' < f → w < 4 → ¬ pc_better U h (t1 97) f' w) → (g2 = 1 → pc_sum (t2 97) 64 < pc_sum (t1 97) 64) → hy_W sc hm_M_laysCosts 2 25 [.inr (some 59), .inl a, .inl u, .inl h, .inl g2, .inl (f : Int), v6, v7, v8] [] t2 (fun r t' => r = none ∧ hy_F sX97 t t' ∧ I (t' 97) ∧ pc_in (t' 97) ∧ ∀ f w : Nat, f < 64 → w < 4 → ¬ pc_better U h (t' 97) f w) := by
          intro m
          induction m with
          | zero =>
            intro f t2 g2 v6 v7 v8 hm hF2 hi2 hin2 hg2 hz ho
            obtain rfl : f = 64 := by omega
            refine hy_iload (i := 25) rfl rfl ?_
            refine hy_const (i := 26) rfl (by decide) ?_
            refine hy_ic_ge (i := 27) (tt := 89) rfl (fun zc1 => ?_) (fun zc1 => ?_)
            · refine hy_goto (i := 89) (tt := 19) rfl ?_
              exact ih t2 g2 _ _ _ _ hF2 hi2 hin2 hg2 (fun q f' w hf hw => by rw [(hz q).1]; exact (hz q).2 f' w hf hw) (fun q => by have := ho q; omega)
            · omega
          | succ m ih2 =>
            intro f t2 g2 v6 v7 v8 hm hF2 hi2 hin2 hg2 hz ho
            have ways : ∀ (m3 : Nat), ∀ (w : Nat) (t3 : hy_T) (g3 : Int) (v7 v8 : hy_V), m3 + w = 4 → hy_F sX97 t t3 → I (t3 97) → pc_in (t3 97) → (g3 = 0 ∨ g3 = 1) → (g3 = 0 → t3 97 = t1 97 ∧ (∀ f' w : Nat, f' < f → w < 4 → ¬ pc_better U h (t1 97) f' w) ∧ ∀ w' : Nat, w' < w → ¬ pc_better U h (t1 97) f w') → (g3 = 1 → pc_sum (t3 97) 64 < pc_sum (t1 97) 64) → hy_W sc hm_M_laysCosts 2 30 [.inr (some 59), .inl a, .inl u, .inl h, .inl g3, .inl (f : Int), .inl (w : Int), v7, v8] [] t3 (fun r t' => r = none ∧ hy_F sX97 t t' ∧ I (t' 97) ∧ pc_in (t' 97) ∧ ∀ f w : Nat, f < 64 → w < 4 → ¬ pc_better U h (t' 97) f w) := by
              intro m3
              induction m3 with
              | zero =>
                intro w t3 g3 v7 v8 hm3 hF3 hi3 hin3 hg3 hz3 ho3
                refine hy_iload (i := 30) rfl rfl ?_
                refine hy_const (i := 31) rfl (by decide) ?_
                refine hy_ic_ge (i := 32) (tt := 87) rfl (fun zc1 => ?_) (fun zc1 => ?_)
                · refine hy_iinc (i := 87) rfl rfl (by omega) ?_
                  refine hy_goto (i := 88) (tt := 25) rfl ?_
                  exact ih2 (f + 1) t3 g3 _ _ _ (by omega) hF3 hi3 hin3 hg3 (fun q => ⟨(hz3 q).1, fun f' w' hf hw => by rcases Nat.lt_succ_iff_lt_or_eq.mp hf with h | rfl; exact (hz3 q).2.1 f' w' h hw; exact (hz3 q).2.2 w' (by omega)⟩) ho3
                · omega
              | succ m3 ih3 =>
                intro w t3 g3 v7 v8 hm3 hF3 hi3 hin3 hg3 hz3 ho3
                have hcf := hin3 f (by omega)
                have hbi := pa_beside_in (f := (f : Int)) (by omega) w
                have hui := fun hto => un t3 hF3 (pa_beside f w) hto
                by_cases hfar : 1000000000 ≤ t3 97 f
                · have nb : ∀ w', ¬ pc_better U h (t3 97) f w' := fun w' q => by have := q.1; omega
                  refine hy_iload (i := 30) rfl rfl ?_
                  refine hy_const (i := 31) rfl (by decide) ?_
                  refine hy_ic_ge (i := 32) (tt := 87) rfl (fun zc1 => ?_) (fun zc1 => ?_)
                  · omega
                  · refine hy_aload (i := 33) rfl rfl ?_
                    refine hy_getr (i := 34) rfl rfl ?_
                    refine hy_iload (i := 35) rfl rfl ?_
                    refine hy_iald (i := 36) rfl rfl (by omega) (k := f) (by omega) ?_
                    refine hy_const (i := 37) rfl (by decide) ?_
                    refine hy_ic_ge (i := 38) (tt := 87) rfl (fun zc2 => ?_) (fun zc2 => ?_)
                    · refine hy_iinc (i := 87) rfl rfl (by omega) ?_
                      refine hy_goto (i := 88) (tt := 25) rfl ?_
                      exact ih2 (f + 1) t3 g3 _ _ _ (by omega) hF3 hi3 hin3 hg3 (fun q => ⟨(hz3 q).1, fun f' w' hf hw => by rcases Nat.lt_succ_iff_lt_or_eq.mp hf with h | rfl; exact (hz3 q).2.1 f' w' h hw; rw [← (hz3 q).1]; exact nb w'⟩) ho3
                    · omega
                · by_cases hb : pc_better U h (t3 97) f w
                  · obtain ⟨b1, b2, b3, b4⟩ := id hb
                    have hto : 0 ≤ pa_beside f w ∧ pa_beside f w < 64 := by omega
                    have hin4 := hin3 (pa_beside f w).toNat (by omega)
                    obtain ⟨s1, s2⟩ := pc_step_s (by omega) hin3 hb
                    have hi4 := hI _ f w hi3 (by omega) (by omega) hb
                    have nx : ∀ (v : Int) (v8 : hy_V), v = t3 97 f + 1 + (if U (pa_beside f w).toNat = true then 0 else 100) → hy_W sc hm_M_laysCosts 2 85 [.inr (some 59), .inl a, .inl u, .inl h, .inl 1, .inl (f : Int), .inl (w : Int), .inl (pa_beside f w), v8] [] (hy_up t3 97 (pa_beside f w).toNat v) (fun r t' => r = none ∧ hy_F sX97 t t' ∧ I (t' 97) ∧ pc_in (t' 97) ∧ ∀ f w : Nat, f < 64 → w < 4 → ¬ pc_better U h (t' 97) f w) := by
                      intro v v8 hv
                      subst hv
                      have er : hy_up t3 97 (pa_beside f w).toNat (t3 97 f + 1 + (if U (pa_beside f w).toNat = true then 0 else 100)) 97 = pc_step U (t3 97) f w := hy_up_row t3 97 _ _
                      refine hy_iinc (i := 85) rfl rfl (by omega) ?_
                      refine hy_goto (i := 86) (tt := 30) rfl ?_
                      refine ih3 (w + 1) _ 1 _ _ (by omega) (hF3.up rfl) (by rw [er]; exact hi4) (by rw [er]; exact s1) (.inr rfl) (fun q => by cases q) (fun _ => ?_)
                      rw [er]
                      rcases hg3 with q | q
                      · rw [← (hz3 q).1]; exact s2
                      · have := ho3 q; omega
                    refine hy_iload (i := 30) rfl rfl ?_
                    refine hy_const (i := 31) rfl (by decide) ?_
                    refine hy_ic_ge (i := 32) (tt := 87) rfl (fun zc1 => ?_) (fun zc1 => ?_)
                    · omega
                    · refine hy_aload (i := 33) rfl rfl ?_
                      refine hy_getr (i := 34) rfl rfl ?_
                      refine hy_iload (i := 35) rfl rfl ?_
                      refine hy_iald (i := 36) rfl rfl (by omega) (k := f) (by omega) ?_
                      refine hy_const (i := 37) rfl (by decide) ?_
                      refine hy_ic_ge (i := 38) (tt := 87) rfl (fun zc2 => ?_) (fun zc2 => ?_)
                      · omega
                      · refine hy_aload (i := 39) rfl rfl ?_
                        refine hy_iload (i := 40) rfl rfl ?_
                        refine hy_iload (i := 41) rfl rfl ?_
                        refine hy_cV2e (i := 42) rfl mj_M_beside (by decide) rfl (Nat.le_of_ble_eq_true rfl) rfl rfl rfl (c_M_beside (by omega) (by omega)) ?_
                        refine hy_istore (i := 43) rfl ?_
                        refine hy_iload (i := 44) rfl rfl ?_
                        refine hy_const (i := 45) rfl (by decide) ?_
                        refine hy_ic_eq (i := 46) (tt := 85) rfl (fun zc3 => ?_) (fun zc3 => ?_)
                        · exact absurd (by assumption) b2
                        · refine hy_iload (i := 47) rfl rfl ?_
                          refine hy_if_eq (i := 48) (tt := 55) rfl (fun zc4 => ?_) (fun zc4 => ?_)
                          · refine hy_aload (i := 55) rfl rfl ?_
                            refine hy_getr (i := 56) rfl rfl ?_
                            refine hy_iload (i := 57) rfl rfl ?_
                            refine hy_iald (i := 58) rfl rfl (by omega) (k := f) (by omega) ?_
                            refine hy_const (i := 59) rfl (by decide) ?_
                            refine hy_iadd (i := 60) rfl (by omega) ?_
                            refine hy_aload (i := 61) rfl rfl ?_
                            refine hy_iload (i := 62) rfl rfl ?_
                            refine hy_iload (i := 63) rfl rfl ?_
                            refine hy_cV2e (i := 64) rfl mj_M_isUnseen (by decide) rfl (Nat.le_of_ble_eq_true rfl) rfl rfl rfl (hui hto) ?_
                            refine hy_ib_eq (i := 65) (tt := 68) rfl (fun zc5 => ?_) (fun zc5 => ?_)
                            · refine hy_const (i := 68) rfl (by decide) ?_
                              refine hy_iadd (i := 69) rfl (by omega) ?_
                              refine hy_istore (i := 70) rfl ?_
                              refine hy_iload (i := 71) rfl rfl ?_
                              refine hy_aload (i := 72) rfl rfl ?_
                              refine hy_getr (i := 73) rfl rfl ?_
                              refine hy_iload (i := 74) rfl rfl ?_
                              refine hy_iald (i := 75) rfl rfl (by omega) rfl ?_
                              refine hy_ic_lt (i := 76) (tt := 78) rfl (fun zc6 => ?_) (fun zc6 => ?_)
                              · refine hy_aload (i := 78) rfl rfl ?_
                                refine hy_getr (i := 79) rfl rfl ?_
                                refine hy_iload (i := 80) rfl rfl ?_
                                refine hy_iload (i := 81) rfl rfl ?_
                                refine hy_iast (i := 82) rfl rfl (by omega) rfl ?_
                                refine hy_const (i := 83) rfl (by decide) ?_
                                refine hy_istore (i := 84) rfl ?_
                                first | exact bb_abs (p := U (pa_beside f w).toNat) (by assumption) (by assumption) | exact nx _ _ (by rw [if_pos (by assumption)]) | exact nx _ _ (by rw [if_neg (fun q => bb_abs q (by assumption))])
                              · exfalso; first | (rw [if_pos (by assumption)] at b4; omega) | (rw [if_neg (fun q => bb_abs q (by assumption))] at b4; omega)
                            · refine hy_const (i := 66) rfl (by decide) ?_
                              refine hy_goto (i := 67) (tt := 69) rfl ?_
                              refine hy_iadd (i := 69) rfl (by omega) ?_
                              refine hy_istore (i := 70) rfl ?_
                              refine hy_iload (i := 71) rfl rfl ?_
                              refine hy_aload (i := 72) rfl rfl ?_
                              refine hy_getr (i := 73) rfl rfl ?_
                              refine hy_iload (i := 74) rfl rfl ?_
                              refine hy_iald (i := 75) rfl rfl (by omega) rfl ?_
                              refine hy_ic_lt (i := 76) (tt := 78) rfl (fun zc6 => ?_) (fun zc6 => ?_)
                              · refine hy_aload (i := 78) rfl rfl ?_
                                refine hy_getr (i := 79) rfl rfl ?_
                                refine hy_iload (i := 80) rfl rfl ?_
                                refine hy_iload (i := 81) rfl rfl ?_
                                refine hy_iast (i := 82) rfl rfl (by omega) rfl ?_
                                refine hy_const (i := 83) rfl (by decide) ?_
                                refine hy_istore (i := 84) rfl ?_
                                first | exact bb_abs (p := U (pa_beside f w).toNat) (by assumption) (by assumption) | exact nx _ _ (by rw [if_pos (by assumption)]) | exact nx _ _ (by rw [if_neg (fun q => bb_abs q (by assumption))])
                              · exfalso; first | (rw [if_pos (by assumption)] at b4; omega) | (rw [if_neg (fun q => bb_abs q (by assumption))] at b4; omega)
                          · refine hy_aload (i := 49) rfl rfl ?_
                            refine hy_iload (i := 50) rfl rfl ?_
                            refine hy_iload (i := 51) rfl rfl ?_
                            refine hy_cV2e (i := 52) rfl mj_M_isUnseen (by decide) rfl (Nat.le_of_ble_eq_true rfl) rfl rfl rfl (hui hto) ?_
                            refine hy_ib_ne (i := 53) (tt := 55) rfl (fun zc5 => ?_) (fun zc5 => ?_)
                            · refine hy_aload (i := 55) rfl rfl ?_
                              refine hy_getr (i := 56) rfl rfl ?_
                              refine hy_iload (i := 57) rfl rfl ?_
                              refine hy_iald (i := 58) rfl rfl (by omega) (k := f) (by omega) ?_
                              refine hy_const (i := 59) rfl (by decide) ?_
                              refine hy_iadd (i := 60) rfl (by omega) ?_
                              refine hy_aload (i := 61) rfl rfl ?_
                              refine hy_iload (i := 62) rfl rfl ?_
                              refine hy_iload (i := 63) rfl rfl ?_
                              refine hy_cV2e (i := 64) rfl mj_M_isUnseen (by decide) rfl (Nat.le_of_ble_eq_true rfl) rfl rfl rfl (hui hto) ?_
                              refine hy_ib_eq (i := 65) (tt := 68) rfl (fun zc6 => ?_) (fun zc6 => ?_)
                              · refine hy_const (i := 68) rfl (by decide) ?_
                                refine hy_iadd (i := 69) rfl (by omega) ?_
                                refine hy_istore (i := 70) rfl ?_
                                refine hy_iload (i := 71) rfl rfl ?_
                                refine hy_aload (i := 72) rfl rfl ?_
                                refine hy_getr (i := 73) rfl rfl ?_
                                refine hy_iload (i := 74) rfl rfl ?_
                                refine hy_iald (i := 75) rfl rfl (by omega) rfl ?_
                                refine hy_ic_lt (i := 76) (tt := 78) rfl (fun zc7 => ?_) (fun zc7 => ?_)
                                · refine hy_aload (i := 78) rfl rfl ?_
                                  refine hy_getr (i := 79) rfl rfl ?_
                                  refine hy_iload (i := 80) rfl rfl ?_
                                  refine hy_iload (i := 81) rfl rfl ?_
                                  refine hy_iast (i := 82) rfl rfl (by omega) rfl ?_
                                  refine hy_const (i := 83) rfl (by decide) ?_
                                  refine hy_istore (i := 84) rfl ?_
                                  first | exact bb_abs (p := U (pa_beside f w).toNat) (by assumption) (by assumption) | exact nx _ _ (by rw [if_pos (by assumption)]) | exact nx _ _ (by rw [if_neg (fun q => bb_abs q (by assumption))])
                                · exfalso; first | (rw [if_pos (by assumption)] at b4; omega) | (rw [if_neg (fun q => bb_abs q (by assumption))] at b4; omega)
                              · refine hy_const (i := 66) rfl (by decide) ?_
                                refine hy_goto (i := 67) (tt := 69) rfl ?_
                                refine hy_iadd (i := 69) rfl (by omega) ?_
                                refine hy_istore (i := 70) rfl ?_
                                refine hy_iload (i := 71) rfl rfl ?_
                                refine hy_aload (i := 72) rfl rfl ?_
                                refine hy_getr (i := 73) rfl rfl ?_
                                refine hy_iload (i := 74) rfl rfl ?_
                                refine hy_iald (i := 75) rfl rfl (by omega) rfl ?_
                                refine hy_ic_lt (i := 76) (tt := 78) rfl (fun zc7 => ?_) (fun zc7 => ?_)
                                · refine hy_aload (i := 78) rfl rfl ?_
                                  refine hy_getr (i := 79) rfl rfl ?_
                                  refine hy_iload (i := 80) rfl rfl ?_
                                  refine hy_iload (i := 81) rfl rfl ?_
                                  refine hy_iast (i := 82) rfl rfl (by omega) rfl ?_
                                  refine hy_const (i := 83) rfl (by decide) ?_
                                  refine hy_istore (i := 84) rfl ?_
                                  first | exact bb_abs (p := U (pa_beside f w).toNat) (by assumption) (by assumption) | exact nx _ _ (by rw [if_pos (by assumption)]) | exact nx _ _ (by rw [if_neg (fun q => bb_abs q (by assumption))])
                                · exfalso; first | (rw [if_pos (by assumption)] at b4; omega) | (rw [if_neg (fun q => bb_abs q (by assumption))] at b4; omega)
                            · exfalso; rcases b3 with q | q; exact absurd q (by assumption); exact bb_abs q (by assumption)
                  · have nx : ∀ (v7 v8 : hy_V), hy_W sc hm_M_laysCosts 2 85 [.inr (some 59), .inl a, .inl u, .inl h, .inl g3, .inl (f : Int), .inl (w : Int), v7, v8] [] t3 (fun r t' => r = none ∧ hy_F sX97 t t' ∧ I (t' 97) ∧ pc_in (t' 97) ∧ ∀ f w : Nat, f < 64 → w < 4 → ¬ pc_better U h (t' 97) f w) := by
                      intro v7 v8
                      refine hy_iinc (i := 85) rfl rfl (by omega) ?_
                      refine hy_goto (i := 86) (tt := 30) rfl ?_
                      exact ih3 (w + 1) _ g3 _ _ (by omega) hF3 hi3 hin3 hg3 (fun q => ⟨(hz3 q).1, (hz3 q).2.1, fun w' hw => by rcases Nat.lt_succ_iff_lt_or_eq.mp hw with h | rfl; exact (hz3 q).2.2 w' h; rw [← (hz3 q).1]; exact hb⟩) ho3
                    by_cases h1 : pa_beside f w = -1
                    · skip
                      refine hy_iload (i := 30) rfl rfl ?_
                      refine hy_const (i := 31) rfl (by decide) ?_
                      refine hy_ic_ge (i := 32) (tt := 87) rfl (fun zc1 => ?_) (fun zc1 => ?_)
                      · omega
                      · refine hy_aload (i := 33) rfl rfl ?_
                        refine hy_getr (i := 34) rfl rfl ?_
                        refine hy_iload (i := 35) rfl rfl ?_
                        refine hy_iald (i := 36) rfl rfl (by omega) (k := f) (by omega) ?_
                        refine hy_const (i := 37) rfl (by decide) ?_
                        refine hy_ic_ge (i := 38) (tt := 87) rfl (fun zc2 => ?_) (fun zc2 => ?_)
                        · omega
                        · refine hy_aload (i := 39) rfl rfl ?_
                          refine hy_iload (i := 40) rfl rfl ?_
                          refine hy_iload (i := 41) rfl rfl ?_
                          refine hy_cV2e (i := 42) rfl mj_M_beside (by decide) rfl (Nat.le_of_ble_eq_true rfl) rfl rfl rfl (c_M_beside (by omega) (by omega)) ?_
                          refine hy_istore (i := 43) rfl ?_
                          refine hy_iload (i := 44) rfl rfl ?_
                          refine hy_const (i := 45) rfl (by decide) ?_
                          refine hy_ic_eq (i := 46) (tt := 85) rfl (fun zc3 => ?_) (fun zc3 => ?_)
                          · exact nx _ _
                          · exact absurd h1 (by assumption)
                    · have hto : 0 ≤ pa_beside f w ∧ pa_beside f w < 64 := by omega
                      have hin4 := hin3 (pa_beside f w).toNat (by omega)
                      refine hy_iload (i := 30) rfl rfl ?_
                      refine hy_const (i := 31) rfl (by decide) ?_
                      refine hy_ic_ge (i := 32) (tt := 87) rfl (fun zc1 => ?_) (fun zc1 => ?_)
                      · omega
                      · refine hy_aload (i := 33) rfl rfl ?_
                        refine hy_getr (i := 34) rfl rfl ?_
                        refine hy_iload (i := 35) rfl rfl ?_
                        refine hy_iald (i := 36) rfl rfl (by omega) (k := f) (by omega) ?_
                        refine hy_const (i := 37) rfl (by decide) ?_
                        refine hy_ic_ge (i := 38) (tt := 87) rfl (fun zc2 => ?_) (fun zc2 => ?_)
                        · omega
                        · refine hy_aload (i := 39) rfl rfl ?_
                          refine hy_iload (i := 40) rfl rfl ?_
                          refine hy_iload (i := 41) rfl rfl ?_
                          refine hy_cV2e (i := 42) rfl mj_M_beside (by decide) rfl (Nat.le_of_ble_eq_true rfl) rfl rfl rfl (c_M_beside (by omega) (by omega)) ?_
                          refine hy_istore (i := 43) rfl ?_
                          refine hy_iload (i := 44) rfl rfl ?_
                          refine hy_const (i := 45) rfl (by decide) ?_
                          refine hy_ic_eq (i := 46) (tt := 85) rfl (fun zc3 => ?_) (fun zc3 => ?_)
                          · exact absurd (by assumption) h1
                          · refine hy_iload (i := 47) rfl rfl ?_
                            refine hy_if_eq (i := 48) (tt := 55) rfl (fun zc4 => ?_) (fun zc4 => ?_)
                            · refine hy_aload (i := 55) rfl rfl ?_
                              refine hy_getr (i := 56) rfl rfl ?_
                              refine hy_iload (i := 57) rfl rfl ?_
                              refine hy_iald (i := 58) rfl rfl (by omega) (k := f) (by omega) ?_
                              refine hy_const (i := 59) rfl (by decide) ?_
                              refine hy_iadd (i := 60) rfl (by omega) ?_
                              refine hy_aload (i := 61) rfl rfl ?_
                              refine hy_iload (i := 62) rfl rfl ?_
                              refine hy_iload (i := 63) rfl rfl ?_
                              refine hy_cV2e (i := 64) rfl mj_M_isUnseen (by decide) rfl (Nat.le_of_ble_eq_true rfl) rfl rfl rfl (hui hto) ?_
                              refine hy_ib_eq (i := 65) (tt := 68) rfl (fun zc5 => ?_) (fun zc5 => ?_)
                              · refine hy_const (i := 68) rfl (by decide) ?_
                                refine hy_iadd (i := 69) rfl (by omega) ?_
                                refine hy_istore (i := 70) rfl ?_
                                refine hy_iload (i := 71) rfl rfl ?_
                                refine hy_aload (i := 72) rfl rfl ?_
                                refine hy_getr (i := 73) rfl rfl ?_
                                refine hy_iload (i := 74) rfl rfl ?_
                                refine hy_iald (i := 75) rfl rfl (by omega) rfl ?_
                                refine hy_ic_lt (i := 76) (tt := 78) rfl (fun zc6 => ?_) (fun zc6 => ?_)
                                · exfalso; refine hb ⟨by omega, h1, ?_, ?_⟩
                                  · first | exact .inl (by assumption) | exact .inr (by assumption)
                                  · first | (rw [if_pos (by assumption)]; omega) | (rw [if_neg (fun q => bb_abs q (by assumption))]; omega)
                                · refine hy_goto (i := 77) (tt := 85) rfl ?_
                                  exact nx _ _
                              · refine hy_const (i := 66) rfl (by decide) ?_
                                refine hy_goto (i := 67) (tt := 69) rfl ?_
                                refine hy_iadd (i := 69) rfl (by omega) ?_
                                refine hy_istore (i := 70) rfl ?_
                                refine hy_iload (i := 71) rfl rfl ?_
                                refine hy_aload (i := 72) rfl rfl ?_
                                refine hy_getr (i := 73) rfl rfl ?_
                                refine hy_iload (i := 74) rfl rfl ?_
                                refine hy_iald (i := 75) rfl rfl (by omega) rfl ?_
                                refine hy_ic_lt (i := 76) (tt := 78) rfl (fun zc6 => ?_) (fun zc6 => ?_)
                                · exfalso; refine hb ⟨by omega, h1, ?_, ?_⟩
                                  · first | exact .inl (by assumption) | exact .inr (by assumption)
                                  · first | (rw [if_pos (by assumption)]; omega) | (rw [if_neg (fun q => bb_abs q (by assumption))]; omega)
                                · refine hy_goto (i := 77) (tt := 85) rfl ?_
                                  exact nx _ _
                            · refine hy_aload (i := 49) rfl rfl ?_
                              refine hy_iload (i := 50) rfl rfl ?_
                              refine hy_iload (i := 51) rfl rfl ?_
                              refine hy_cV2e (i := 52) rfl mj_M_isUnseen (by decide) rfl (Nat.le_of_ble_eq_true rfl) rfl rfl rfl (hui hto) ?_
                              refine hy_ib_ne (i := 53) (tt := 55) rfl (fun zc5 => ?_) (fun zc5 => ?_)
                              · refine hy_aload (i := 55) rfl rfl ?_
                                refine hy_getr (i := 56) rfl rfl ?_
                                refine hy_iload (i := 57) rfl rfl ?_
                                refine hy_iald (i := 58) rfl rfl (by omega) (k := f) (by omega) ?_
                                refine hy_const (i := 59) rfl (by decide) ?_
                                refine hy_iadd (i := 60) rfl (by omega) ?_
                                refine hy_aload (i := 61) rfl rfl ?_
                                refine hy_iload (i := 62) rfl rfl ?_
                                refine hy_iload (i := 63) rfl rfl ?_
                                refine hy_cV2e (i := 64) rfl mj_M_isUnseen (by decide) rfl (Nat.le_of_ble_eq_true rfl) rfl rfl rfl (hui hto) ?_
                                refine hy_ib_eq (i := 65) (tt := 68) rfl (fun zc6 => ?_) (fun zc6 => ?_)
                                · refine hy_const (i := 68) rfl (by decide) ?_
                                  refine hy_iadd (i := 69) rfl (by omega) ?_
                                  refine hy_istore (i := 70) rfl ?_
                                  refine hy_iload (i := 71) rfl rfl ?_
                                  refine hy_aload (i := 72) rfl rfl ?_
                                  refine hy_getr (i := 73) rfl rfl ?_
                                  refine hy_iload (i := 74) rfl rfl ?_
                                  refine hy_iald (i := 75) rfl rfl (by omega) rfl ?_
                                  refine hy_ic_lt (i := 76) (tt := 78) rfl (fun zc7 => ?_) (fun zc7 => ?_)
                                  · exfalso; refine hb ⟨by omega, h1, ?_, ?_⟩
                                    · first | exact .inl (by assumption) | exact .inr (by assumption)
                                    · first | (rw [if_pos (by assumption)]; omega) | (rw [if_neg (fun q => bb_abs q (by assumption))]; omega)
                                  · refine hy_goto (i := 77) (tt := 85) rfl ?_
                                    exact nx _ _
                                · refine hy_const (i := 66) rfl (by decide) ?_
                                  refine hy_goto (i := 67) (tt := 69) rfl ?_
                                  refine hy_iadd (i := 69) rfl (by omega) ?_
                                  refine hy_istore (i := 70) rfl ?_
                                  refine hy_iload (i := 71) rfl rfl ?_
                                  refine hy_aload (i := 72) rfl rfl ?_
                                  refine hy_getr (i := 73) rfl rfl ?_
                                  refine hy_iload (i := 74) rfl rfl ?_
                                  refine hy_iald (i := 75) rfl rfl (by omega) rfl ?_
                                  refine hy_ic_lt (i := 76) (tt := 78) rfl (fun zc7 => ?_) (fun zc7 => ?_)
                                  · exfalso; refine hb ⟨by omega, h1, ?_, ?_⟩
                                    · first | exact .inl (by assumption) | exact .inr (by assumption)
                                    · first | (rw [if_pos (by assumption)]; omega) | (rw [if_neg (fun q => bb_abs q (by assumption))]; omega)
                                  · refine hy_goto (i := 77) (tt := 85) rfl ?_
                                    exact nx _ _
                              · refine hy_goto (i := 54) (tt := 85) rfl ?_
                                exact nx _ _
            refine hy_iload (i := 25) rfl rfl ?_
            refine hy_const (i := 26) rfl (by decide) ?_
            refine hy_ic_ge (i := 27) (tt := 89) rfl (fun zc1 => ?_) (fun zc1 => ?_)
            · omega
            · refine hy_const (i := 28) rfl (by decide) ?_
              refine hy_istore (i := 29) rfl ?_
              exact ways 4 0 t2 g2 _ _ rfl hF2 hi2 hin2 hg2 (fun q => ⟨(hz q).1, (hz q).2, fun w' hw => absurd hw (by omega)⟩) ho
        refine hy_iload (i := 19) rfl rfl ?_
        refine hy_if_eq (i := 20) (tt := 90) rfl (fun zc1 => ?_) (fun zc1 => ?_)
        · exact absurd (by assumption) hg0
        · refine hy_const (i := 21) rfl (by decide) ?_
          refine hy_istore (i := 22) rfl ?_
          refine hy_const (i := 23) rfl (by decide) ?_
          refine hy_istore (i := 24) rfl ?_
          exact fields 64 0 t1 0 _ _ _ rfl hF hi hin (.inl rfl) (fun _ => ⟨rfl, fun f' w' hf => absurd hf (by omega)⟩) (fun q => by cases q)
  have start : ∀ (m : Nat), ∀ (k : Nat) (t1 : hy_T) (v5 v6 v7 v8 : hy_V), m + k = 64 → hy_F sX97 t t1 → (∀ f : Nat, f < k → t1 97 f = if (f : Int) = a then 0 else 1000000000) → hy_W sc hm_M_laysCosts 2 2 [.inr (some 59), .inl a, .inl u, .inl h, .inl (k : Int), v5, v6, v7, v8] [] t1 (fun r t' => r = none ∧ hy_F sX97 t t' ∧ I (t' 97) ∧ pc_in (t' 97) ∧ ∀ f w : Nat, f < 64 → w < 4 → ¬ pc_better U h (t' 97) f w) := by
    intro m
    induction m with
    | zero =>
      intro k t1 v5 v6 v7 v8 hm hF hv
      obtain rfl : k = 64 := by omega
      have hin : pc_in (t1 97) := fun f hf => by rw [hv f hf]; split <;> decide
      have hs := (pc_sum_le (C := t1 97) 64 hin).2
      refine hy_iload (i := 2) rfl rfl ?_
      refine hy_const (i := 3) rfl (by decide) ?_
      refine hy_ic_ge (i := 4) (tt := 17) rfl (fun zc1 => ?_) (fun zc1 => ?_)
      · refine hy_const (i := 17) rfl (by decide) ?_
        refine hy_istore (i := 18) rfl ?_
        exact passes 64000000001 t1 1 _ _ _ _ hF (h0 _ hv) hin (.inr rfl) (fun q => by cases q) (fun _ => by omega)
      · omega
    | succ m ih =>
      intro k t1 v5 v6 v7 v8 hm hF hv
      refine hy_iload (i := 2) rfl rfl ?_
      refine hy_const (i := 3) rfl (by decide) ?_
      refine hy_ic_ge (i := 4) (tt := 17) rfl (fun zc1 => ?_) (fun zc1 => ?_)
      · omega
      · refine hy_aload (i := 5) rfl rfl ?_
        refine hy_getr (i := 6) rfl rfl ?_
        refine hy_iload (i := 7) rfl rfl ?_
        refine hy_iload (i := 8) rfl rfl ?_
        refine hy_iload (i := 9) rfl rfl ?_
        refine hy_ic_ne (i := 10) (tt := 13) rfl (fun zc2 => ?_) (fun zc2 => ?_)
        · refine hy_const (i := 13) rfl (by decide) ?_
          refine hy_iast (i := 14) rfl rfl (by omega) (k := k) (by omega) ?_
          refine hy_iinc (i := 15) rfl rfl (by omega) ?_
          refine hy_goto (i := 16) (tt := 2) rfl ?_
          refine ih (k + 1) _ _ _ _ _ (by omega) (hF.up rfl) (fun f hf => ?_)
          by_cases hfk : f = k
          · subst hfk
            simp only [hy_up, true_and, if_true]
            first | (rw [if_pos (by assumption)]; done) | (rw [if_neg (by assumption)]; done)
          · rw [show ∀ v, hy_up t1 97 k v 97 f = t1 97 f from fun v => by simp [hy_up, hfk]]
            exact hv f (by omega)
        · refine hy_const (i := 11) rfl (by decide) ?_
          refine hy_goto (i := 12) (tt := 14) rfl ?_
          refine hy_iast (i := 14) rfl rfl (by omega) (k := k) (by omega) ?_
          refine hy_iinc (i := 15) rfl rfl (by omega) ?_
          refine hy_goto (i := 16) (tt := 2) rfl ?_
          refine ih (k + 1) _ _ _ _ _ (by omega) (hF.up rfl) (fun f hf => ?_)
          by_cases hfk : f = k
          · subst hfk
            simp only [hy_up, true_and, if_true]
            first | (rw [if_pos (by assumption)]; done) | (rw [if_neg (by assumption)]; done)
          · rw [show ∀ v, hy_up t1 97 k v 97 f = t1 97 f from fun v => by simp [hy_up, hfk]]
            exact hv f (by omega)
  refine hy_const (i := 0) rfl (by decide) ?_
  refine hy_istore (i := 1) rfl ?_
  exact start 64 0 t _ _ _ _ rfl hy_F.rf (fun f hf => absurd hf (by omega))
end MW1

abbrev wmX : Nat → Nat → Bool := fun r j => meX r j || r == 97
abbrev pc_wc (t : hy_T) (a b u e q w : Int) : Prop := (0 ≤ a ∧ a ≤ 63) ∧ (0 ≤ b ∧ b ≤ 63) ∧ mq_ecq t e u q ∧ 0 ≤ w ∧ w ≤ 2
def pc_U (t : hy_T) (e q u : Int) (f : Nat) : Bool := decide (mq_as t e q (t 63 f).toNat = mq_as t e q u.toNat)
def pc_h (w : Int) : Int := if w = 0 then 1 else 0
def pc_ans (c w : Int) : Int := if w = 0 then (if c = 1000000000 then -2 else c) else if w = 1 then c / 100 else c % 100
section MW2
variable {sc : List Int32} {t : hy_T}
theorem c_M_way {a b u e q w : Int} {I : (Nat → Int) → Prop} (hk : ml_ok t) (hp : me_pal t) (hg : mg_ok t)
    (h0 : ∀ C, (∀ f : Nat, f < 64 → C f = if (f : Int) = a then 0 else 1000000000) → I C)
    (hI : ∀ C f w', I C → f < 64 → w' < 4 → pc_better (pc_U t e q u) (pc_h w) C f w' → I (pc_step (pc_U t e q u) C f w')) :
    hy_Ct sc hm_M_way 7 [.inr (some 59), .inl a, .inl b, .inl u, .inl e, .inl q, .inl w] t (fun r t' => r = some (if pc_wc t a b u e q w then pc_ans (t' 97 b.toNat) w else -1) ∧ hy_F wmX t t' ∧ (pc_wc t a b u e q w → I (t' 97) ∧ pc_in (t' 97) ∧ ∀ f w' : Nat, f < 64 → w' < 4 → ¬ pc_better (pc_U t e q u) (pc_h w) (t' 97) f w')) := by
  refine hy_mk_ct ok_M_way ck_M_way (Nat.le_of_ble_eq_true rfl) ?_
  by_cases hq : pc_wc t a b u e q w
  · simp only [if_pos hq]
    obtain ⟨q1, q2, q3, q4⟩ := id hq
    have hu := sp_told_in q3.2.1
    have costs : ∀ (t1 : hy_T), hy_F meX t t1 → (∀ j : Nat, j ≤ 12 → t1 79 j = mq_as t e q j) → hy_Ct sc hm_M_laysCosts 2 [.inr (some 59), .inl a, .inl u, .inl (pc_h w)] t1 (fun r t' => r = none ∧ hy_F sX97 t1 t' ∧ I (t' 97) ∧ pc_in (t' 97) ∧ ∀ f w' : Nat, f < 64 → w' < 4 → ¬ pc_better (pc_U t e q u) (pc_h w) (t' 97) f w') := by
      intro t1 hF hA
      have h63 : ∀ j, t1 63 j = t 63 j := fun j => hF 63 j rfl
      refine c_M_laysCosts (I := I) (U := pc_U t e q u) ⟨by omega, by omega⟩ (fun f hf => by rw [h63]; exact hg f hf) (fun f hf => ?_) ?_ h0 hI
      · have := hg f hf
        unfold pc_U
        rw [h63, hA _ (by omega), hA _ (by omega)]
      · unfold pc_h
        split
        · exact .inr rfl
        · exact .inl rfl
    have fin : ∀ (t1 t2 : hy_T) (st : List hy_V), hy_F meX t t1 → hy_F sX97 t1 t2 → I (t2 97) → pc_in (t2 97) → (∀ f w' : Nat, f < 64 → w' < 4 → ¬ pc_better (pc_U t e q u) (pc_h w) (t2 97) f w') → hy_W sc hm_M_way 7 40 [.inr (some 59), .inl a, .inl b, .inl u, .inl e, .inl q, .inl w] [] t2 (fun r t' => r = some (pc_ans (t' 97 b.toNat) w) ∧ hy_F wmX t t' ∧ (pc_wc t a b u e q w → I (t' 97) ∧ pc_in (t' 97) ∧ ∀ f w' : Nat, f < 64 → w' < 4 → ¬ pc_better (pc_U t e q u) (pc_h w) (t' 97) f w')) := by
      intro t1 t2 st hF hF2 hi hin hst
      have hb := hin b.toNat (by omega)
      refine hy_iload (i := 40) rfl rfl ?_
      refine hy_if_ne (i := 41) (tt := 55) rfl (fun zc1 => ?_) (fun zc1 => ?_)
      · refine hy_iload (i := 55) rfl rfl ?_
        refine hy_const (i := 56) rfl (by decide) ?_
        refine hy_ic_ne (i := 57) (tt := 65) rfl (fun zc2 => ?_) (fun zc2 => ?_)
        · refine hy_aload (i := 65) rfl rfl ?_
          refine hy_getr (i := 66) rfl rfl ?_
          refine hy_iload (i := 67) rfl rfl ?_
          refine hy_iald (i := 68) rfl rfl (by omega) rfl ?_
          refine hy_const (i := 69) rfl (by decide) ?_
          refine hy_irem (i := 70) rfl (by omega) (by omega) ?_
          refine hy_ireturn (i := 71) rfl rfl ?_
          refine ⟨congrArg some ?_, (hF.w (fun r j q => by revert q; simp [wmX, meX]; omega)).tr' (hF2.w (fun r j q => by revert q; simp [wmX, meX])), fun _ => ⟨hi, hin, hst⟩⟩
          unfold pc_ans
          (repeat (first | rw [if_pos (by omega)] | rw [if_neg (by omega)]))
        · refine hy_aload (i := 58) rfl rfl ?_
          refine hy_getr (i := 59) rfl rfl ?_
          refine hy_iload (i := 60) rfl rfl ?_
          refine hy_iald (i := 61) rfl rfl (by omega) rfl ?_
          refine hy_const (i := 62) rfl (by decide) ?_
          refine hy_idiv (i := 63) rfl (by omega) (by omega) ?_
          refine hy_goto (i := 64) (tt := 71) rfl ?_
          refine hy_ireturn (i := 71) rfl rfl ?_
          refine ⟨congrArg some ?_, (hF.w (fun r j q => by revert q; simp [wmX, meX]; omega)).tr' (hF2.w (fun r j q => by revert q; simp [wmX, meX])), fun _ => ⟨hi, hin, hst⟩⟩
          unfold pc_ans
          (repeat (first | rw [if_pos (by omega)] | rw [if_neg (by omega)]))
      · refine hy_aload (i := 42) rfl rfl ?_
        refine hy_getr (i := 43) rfl rfl ?_
        refine hy_iload (i := 44) rfl rfl ?_
        refine hy_iald (i := 45) rfl rfl (by omega) rfl ?_
        refine hy_const (i := 46) rfl (by decide) ?_
        refine hy_ic_ne (i := 47) (tt := 50) rfl (fun zc2 => ?_) (fun zc2 => ?_)
        · refine hy_aload (i := 50) rfl rfl ?_
          refine hy_getr (i := 51) rfl rfl ?_
          refine hy_iload (i := 52) rfl rfl ?_
          refine hy_iald (i := 53) rfl rfl (by omega) rfl ?_
          refine hy_goto (i := 54) (tt := 71) rfl ?_
          refine hy_ireturn (i := 71) rfl rfl ?_
          refine ⟨congrArg some ?_, (hF.w (fun r j q => by revert q; simp [wmX, meX]; omega)).tr' (hF2.w (fun r j q => by revert q; simp [wmX, meX])), fun _ => ⟨hi, hin, hst⟩⟩
          unfold pc_ans
          (repeat (first | rw [if_pos (by omega)] | rw [if_neg (by omega)]))
        · refine hy_const (i := 48) rfl (by decide) ?_
          refine hy_goto (i := 49) (tt := 71) rfl ?_
          refine hy_ireturn (i := 71) rfl rfl ?_
          refine ⟨congrArg some ?_, (hF.w (fun r j q => by revert q; simp [wmX, meX]; omega)).tr' (hF2.w (fun r j q => by revert q; simp [wmX, meX])), fun _ => ⟨hi, hin, hst⟩⟩
          unfold pc_ans
          (repeat (first | rw [if_pos (by omega)] | rw [if_neg (by omega)]))
    refine hy_iload (i := 0) rfl rfl ?_
    refine hy_const (i := 1) rfl (by decide) ?_
    refine hy_const (i := 2) rfl (by decide) ?_
    refine hy_cS3e (i := 3) rfl (by decide) mj_M_in (by decide) rfl (Nat.le_of_ble_eq_true rfl) (c_M_in) ?_
    refine hy_ib_eq (i := 4) (tt := 25) rfl (fun zc1 => ?_) (fun zc1 => ?_)
    · simp only [decide_eq_false_iff_not] at zc1; omega
    · refine hy_iload (i := 5) rfl rfl ?_
      refine hy_const (i := 6) rfl (by decide) ?_
      refine hy_const (i := 7) rfl (by decide) ?_
      refine hy_cS3e (i := 8) rfl (by decide) mj_M_in (by decide) rfl (Nat.le_of_ble_eq_true rfl) (c_M_in) ?_
      refine hy_ib_eq (i := 9) (tt := 25) rfl (fun zc2 => ?_) (fun zc2 => ?_)
      · simp only [decide_eq_false_iff_not] at zc2; omega
      · refine hy_aload (i := 10) rfl rfl ?_
        refine hy_iload (i := 11) rfl rfl ?_
        refine hy_cV1e (i := 12) rfl mj_M_isColour (by decide) rfl (Nat.le_of_ble_eq_true rfl) rfl rfl rfl (c_M_isColour) ?_
        refine hy_ib_eq (i := 13) (tt := 25) rfl (fun zc3 => ?_) (fun zc3 => ?_)
        · exact bb_abs q3.2.1 (by assumption)
        · refine hy_iload (i := 14) rfl rfl ?_
          refine hy_cS1e (i := 15) rfl (by decide) mj_M_isEmpire (by decide) rfl (Nat.le_of_ble_eq_true rfl) (c_M_isEmpire) ?_
          refine hy_ib_eq (i := 16) (tt := 25) rfl (fun zc4 => ?_) (fun zc4 => ?_)
          · simp only [decide_eq_false_iff_not] at zc4; omega
          · refine hy_iload (i := 17) rfl rfl ?_
            refine hy_cS1e (i := 18) rfl (by decide) mj_M_isQuarter (by decide) rfl (Nat.le_of_ble_eq_true rfl) (c_M_isQuarter) ?_
            refine hy_ib_eq (i := 19) (tt := 25) rfl (fun zc5 => ?_) (fun zc5 => ?_)
            · simp only [decide_eq_false_iff_not] at zc5; omega
            · refine hy_iload (i := 20) rfl rfl ?_
              refine hy_const (i := 21) rfl (by decide) ?_
              refine hy_const (i := 22) rfl (by decide) ?_
              refine hy_cS3e (i := 23) rfl (by decide) mj_M_in (by decide) rfl (Nat.le_of_ble_eq_true rfl) (c_M_in) ?_
              refine hy_ib_ne (i := 24) (tt := 27) rfl (fun zc6 => ?_) (fun zc6 => ?_)
              · refine hy_aload (i := 27) rfl rfl ?_
                refine hy_iload (i := 28) rfl rfl ?_
                refine hy_iload (i := 29) rfl rfl ?_
                refine hy_cV2 (i := 30) rfl mj_M_laysAs (by decide) rfl (Nat.le_of_ble_eq_true rfl) rfl rfl rfl (c_M_laysAs (by assumption) (by assumption) (by omega)) (fun r7_ t7_ h7 => ?_)
                obtain ⟨rfl, hF7, hA7⟩ := h7
                dsimp only [hy_st, List.nil_append]
                refine hy_aload (i := 31) rfl rfl ?_
                refine hy_iload (i := 32) rfl rfl ?_
                refine hy_iload (i := 33) rfl rfl ?_
                refine hy_iload (i := 34) rfl rfl ?_
                refine hy_if_ne (i := 35) (tt := 38) rfl (fun zc7 => ?_) (fun zc7 => ?_)
                · refine hy_const (i := 38) rfl (by decide) ?_
                  have cc := costs _ (show hy_F meX t _ by assumption) (by assumption)
                  unfold pc_h at cc
                  first | rw [if_pos (show w = 0 by assumption)] at cc | rw [if_neg (show ¬ w = 0 by assumption)] at cc
                  refine hy_cV3 (i := 39) rfl mj_M_laysCosts (by decide) rfl (Nat.le_of_ble_eq_true rfl) rfl rfl rfl (cc) (fun r8_ t8_ h8 => ?_)
                  obtain ⟨rfl, hF8, hi8, hin8, hst8⟩ := h8
                  dsimp only [hy_st, List.nil_append]
                  refine fin _ _ [] (show hy_F meX t _ by assumption) (by assumption) (by assumption) (by assumption) ?_
                  unfold pc_h
                  first | (rw [if_pos (show w = 0 by assumption)]; assumption) | (rw [if_neg (show ¬ w = 0 by assumption)]; assumption)
                · refine hy_const (i := 36) rfl (by decide) ?_
                  refine hy_goto (i := 37) (tt := 39) rfl ?_
                  have cc := costs _ (show hy_F meX t _ by assumption) (by assumption)
                  unfold pc_h at cc
                  first | rw [if_pos (show w = 0 by assumption)] at cc | rw [if_neg (show ¬ w = 0 by assumption)] at cc
                  refine hy_cV3 (i := 39) rfl mj_M_laysCosts (by decide) rfl (Nat.le_of_ble_eq_true rfl) rfl rfl rfl (cc) (fun r8_ t8_ h8 => ?_)
                  obtain ⟨rfl, hF8, hi8, hin8, hst8⟩ := h8
                  dsimp only [hy_st, List.nil_append]
                  refine fin _ _ [] (show hy_F meX t _ by assumption) (by assumption) (by assumption) (by assumption) ?_
                  unfold pc_h
                  first | (rw [if_pos (show w = 0 by assumption)]; assumption) | (rw [if_neg (show ¬ w = 0 by assumption)]; assumption)
              · simp only [decide_eq_false_iff_not] at zc6; omega
  · simp only [if_neg hq]
    refine hy_iload (i := 0) rfl rfl ?_
    refine hy_const (i := 1) rfl (by decide) ?_
    refine hy_const (i := 2) rfl (by decide) ?_
    refine hy_cS3e (i := 3) rfl (by decide) mj_M_in (by decide) rfl (Nat.le_of_ble_eq_true rfl) (c_M_in) ?_
    refine hy_ib_eq (i := 4) (tt := 25) rfl (fun zc1 => ?_) (fun zc1 => ?_)
    · refine hy_const (i := 25) rfl (by decide) ?_
      refine hy_ireturn (i := 26) rfl rfl ?_
      exact ⟨rfl, hy_F.rf, fun h => absurd h hq⟩
    · refine hy_iload (i := 5) rfl rfl ?_
      refine hy_const (i := 6) rfl (by decide) ?_
      refine hy_const (i := 7) rfl (by decide) ?_
      refine hy_cS3e (i := 8) rfl (by decide) mj_M_in (by decide) rfl (Nat.le_of_ble_eq_true rfl) (c_M_in) ?_
      refine hy_ib_eq (i := 9) (tt := 25) rfl (fun zc2 => ?_) (fun zc2 => ?_)
      · refine hy_const (i := 25) rfl (by decide) ?_
        refine hy_ireturn (i := 26) rfl rfl ?_
        exact ⟨rfl, hy_F.rf, fun h => absurd h hq⟩
      · refine hy_aload (i := 10) rfl rfl ?_
        refine hy_iload (i := 11) rfl rfl ?_
        refine hy_cV1e (i := 12) rfl mj_M_isColour (by decide) rfl (Nat.le_of_ble_eq_true rfl) rfl rfl rfl (c_M_isColour) ?_
        refine hy_ib_eq (i := 13) (tt := 25) rfl (fun zc3 => ?_) (fun zc3 => ?_)
        · refine hy_const (i := 25) rfl (by decide) ?_
          refine hy_ireturn (i := 26) rfl rfl ?_
          exact ⟨rfl, hy_F.rf, fun h => absurd h hq⟩
        · refine hy_iload (i := 14) rfl rfl ?_
          refine hy_cS1e (i := 15) rfl (by decide) mj_M_isEmpire (by decide) rfl (Nat.le_of_ble_eq_true rfl) (c_M_isEmpire) ?_
          refine hy_ib_eq (i := 16) (tt := 25) rfl (fun zc4 => ?_) (fun zc4 => ?_)
          · refine hy_const (i := 25) rfl (by decide) ?_
            refine hy_ireturn (i := 26) rfl rfl ?_
            exact ⟨rfl, hy_F.rf, fun h => absurd h hq⟩
          · refine hy_iload (i := 17) rfl rfl ?_
            refine hy_cS1e (i := 18) rfl (by decide) mj_M_isQuarter (by decide) rfl (Nat.le_of_ble_eq_true rfl) (c_M_isQuarter) ?_
            refine hy_ib_eq (i := 19) (tt := 25) rfl (fun zc5 => ?_) (fun zc5 => ?_)
            · refine hy_const (i := 25) rfl (by decide) ?_
              refine hy_ireturn (i := 26) rfl rfl ?_
              exact ⟨rfl, hy_F.rf, fun h => absurd h hq⟩
            · refine hy_iload (i := 20) rfl rfl ?_
              refine hy_const (i := 21) rfl (by decide) ?_
              refine hy_const (i := 22) rfl (by decide) ?_
              refine hy_cS3e (i := 23) rfl (by decide) mj_M_in (by decide) rfl (Nat.le_of_ble_eq_true rfl) (c_M_in) ?_
              refine hy_ib_ne (i := 24) (tt := 27) rfl (fun zc6 => ?_) (fun zc6 => ?_)
              · exfalso; simp only [decide_eq_true_eq] at *; exact hq ⟨by assumption, by assumption, ⟨by assumption, by assumption, by assumption⟩, by assumption⟩
              · refine hy_const (i := 25) rfl (by decide) ?_
                refine hy_ireturn (i := 26) rfl rfl ?_
                exact ⟨rfl, hy_F.rf, fun h => absurd h hq⟩
end MW2
/-! the model: seas of any land -/
abbrev se_in (t : hy_T) : Prop := ∀ f : Nat, f < 64 → -1 ≤ t 102 f ∧ t 102 f ≤ 63
abbrev seX : Nat → Nat → Bool := fun r _ => r == 102
theorem mf_joins_s {t : hy_T} {a : Nat} {b : Int} (ha : a < 64) (hb : -1 ≤ b ∧ b < 64) (hin : se_in t) : hy_F seX t (mf_joins t a b).2 ∧ se_in (mf_joins t a b).2 ∧ ((mf_joins t a b).1 = false → (mf_joins t a b).2 = t) ∧ pc_sum ((mf_joins t a b).2 102) 64 ≤ pc_sum (t 102) 64 ∧ ((mf_joins t a b).1 = true → pc_sum ((mf_joins t a b).2 102) 64 < pc_sum (t 102) 64) := by
  unfold mf_joins
  split
  · exact ⟨hy_F.rf, hin, fun _ => rfl, Int.le_refl _, fun h => by cases h⟩
  · next hc =>
    simp only [not_or] at hc
    obtain ⟨c1, c2, c3, c4⟩ := hc
    rw [show (a : Int).toNat = a from rfl] at c2 c4 ⊢
    have h1 := hin a ha
    have h2 := hin b.toNat (by omega)
    have hne : a ≠ b.toNat := fun h => c4 (by rw [← h])
    have hmin : ∀ m : Int, m = (if t 102 a < t 102 b.toNat then t 102 a else t 102 b.toNat) → (m ≤ t 102 a ∧ m ≤ t 102 b.toNat ∧ m + m < t 102 a + t 102 b.toNat ∧ -1 ≤ m) := by
      intro m hm
      rw [hm]
      split <;> omega
    generalize hm : (if t 102 a < t 102 b.toNat then t 102 a else t 102 b.toNat) = m
    obtain ⟨m1, m2, m3, m4⟩ := hmin m hm.symm
    have hs : pc_sum ((hy_up (hy_up t 102 a m) 102 b.toNat m) 102) 64 < pc_sum (t 102) 64 := by
      rw [hy_up_row, hy_up_row, pc_sum_su, pc_sum_su, if_pos ha, if_pos (by omega)]
      simp only [su]
      rw [if_neg (fun h => hne h.symm)]
      omega
    refine ⟨(hy_F.rf.up rfl).up rfl, fun f hf => ?_, (fun h => by cases h), Int.le_of_lt hs, fun _ => hs⟩
    have := hin f hf
    simp only [hy_up]
    split
    · omega
    · split
      · omega
      · exact this
theorem mf_seaP_s {t : hy_T} (hin : se_in t) : ∀ n : Nat, n ≤ 64 → hy_F seX t (mf_seaP t n).2 ∧ se_in (mf_seaP t n).2 ∧ ((mf_seaP t n).1 = false → (mf_seaP t n).2 = t) ∧ pc_sum ((mf_seaP t n).2 102) 64 ≤ pc_sum (t 102) 64 ∧ ((mf_seaP t n).1 = true → pc_sum ((mf_seaP t n).2 102) 64 < pc_sum (t 102) 64)
  | 0, _ => ⟨hy_F.rf, hin, fun _ => rfl, Int.le_refl _, fun h => by cases h⟩
  | n + 1, hn => by
    obtain ⟨i1, i2, i3, i4, i5⟩ := mf_seaP_s hin n (by omega)
    have hb0 := pa_beside_in (f := (n : Int)) (by omega) 0
    have hb2 := pa_beside_in (f := (n : Int)) (by omega) 2
    obtain ⟨j1, j2, j3, j4, j5⟩ := mf_joins_s (a := n) (b := pa_beside n 0) (by omega) hb0 i2
    obtain ⟨k1, k2, k3, k4, k5⟩ := mf_joins_s (a := n) (b := pa_beside n 2) (by omega) hb2 j2
    have f2 : (mf_seaP t (n + 1)).2 = (mf_joins (mf_joins (mf_seaP t n).2 n (pa_beside n 0)).2 n (pa_beside n 2)).2 := rfl
    have f1 : (mf_seaP t (n + 1)).1 = ((mf_joins (mf_joins (mf_seaP t n).2 n (pa_beside n 0)).2 n (pa_beside n 2)).1 || ((mf_joins (mf_seaP t n).2 n (pa_beside n 0)).1 || (mf_seaP t n).1)) := rfl
    rw [f1, f2]
    refine ⟨(i1.tr' j1).tr' k1, k2, fun h => ?_, by omega, fun h => ?_⟩
    · simp only [Bool.or_eq_false_iff] at h
      rw [k3 h.1, j3 h.2.1, i3 h.2.2]
    · simp only [Bool.or_eq_true] at h
      rcases h with h | h | h
      · have := k5 h; omega
      · have := j5 h; omega
      · have := i5 h; omega
def mf_fix : Nat → hy_T → hy_T
  | 0, t => t
  | n + 1, t => if (mf_seaP t 64).1 = true then mf_fix n (mf_seaP t 64).2 else (mf_seaP t 64).2
theorem mf_fix_s : ∀ (n : Nat) {t : hy_T}, se_in t → hy_F seX t (mf_fix n t) ∧ se_in (mf_fix n t)
  | 0, t, h => ⟨hy_F.rf, h⟩
  | n + 1, t, h => by
    obtain ⟨i1, i2, -, -, -⟩ := mf_seaP_s h 64 (Nat.le_refl _)
    simp only [mf_fix]
    split
    · obtain ⟨a1, a2⟩ := mf_fix_s n i2
      exact ⟨i1.tr' a1, a2⟩
    · exact ⟨i1, i2⟩
theorem mf_sea0N_in (t : hy_T) : ∀ n : Nat, n ≤ 64 → ∀ f : Nat, f < n → -1 ≤ mf_sea0N t n 102 f ∧ mf_sea0N t n 102 f ≤ 63
  | 0, _, f, h => absurd h (by omega)
  | n + 1, hn, f, h => by
    simp only [mf_sea0N, hy_up]
    split
    · split <;> omega
    · next hc => exact mf_sea0N_in t n (by omega) f (by have : ¬ f = n := fun q => hc ⟨trivial, q⟩; omega)
def ma_allN (S : Nat → Int) : Nat → Int
  | 0 => 0
  | n + 1 => ma_allN S n + (if S n = -1 then 0 else 1)
def ma_cntN (S : Nat → Int) (f : Int) : Nat → Int
  | 0 => 0
  | n + 1 => ma_cntN S f n + (if S n = f then 1 else 0)
def ma_seaN (S : Nat → Int) : Nat → Int
  | 0 => 0
  | n + 1 => ma_seaN S n + (if S n = n then 1 else 0)
def ma_mostN (S : Nat → Int) : Nat → Int
  | 0 => 0
  | n + 1 => if S n = n then (if ma_cntN S n 64 < ma_mostN S n then ma_mostN S n else ma_cntN S n 64) else ma_mostN S n
theorem ma_in (S : Nat → Int) : ∀ n : Nat, (0 ≤ ma_allN S n ∧ ma_allN S n ≤ n) ∧ (0 ≤ ma_seaN S n ∧ ma_seaN S n ≤ n)
  | 0 => by simp [ma_allN, ma_seaN]
  | n + 1 => by
    have h := ma_in S n
    simp only [ma_allN, ma_seaN]
    refine ⟨?_, ?_⟩ <;> split <;> omega
theorem ma_cntN_in (S : Nat → Int) (f : Int) : ∀ n : Nat, 0 ≤ ma_cntN S f n ∧ ma_cntN S f n ≤ n
  | 0 => by simp [ma_cntN]
  | n + 1 => by
    have h := ma_cntN_in S f n
    simp only [ma_cntN]
    split <;> omega
def ma_ans (S : Nat → Int) (w : Int) : Int := if w = 0 then ma_allN S 64 else if w = 1 then ma_mostN S 64 else ma_seaN S 64
abbrev ma_c (e q w : Int) : Prop := (0 ≤ e ∧ e < 6) ∧ (0 ≤ q ∧ q < 4) ∧ 0 ≤ w ∧ w ≤ 2
abbrev maX : Nat → Nat → Bool := fun r j => meX r j || r == 102
section MSE
variable {sc : List Int32} {t : hy_T}
theorem c_M_laysSeas (hg : mg_ok t) : hy_Ct sc hm_M_laysSeas 2 [.inr (some 59)] t (hy_e none (mf_fix 5000 (mf_sea0N t 64))) := by
  have loop : ∀ (N : Nat), ∀ (t1 : hy_T) (v2 : hy_V) (R : hy_T), se_in t1 → pc_sum (t1 102) 64 + 64 < N → mf_fix N t1 = R → hy_W sc hm_M_laysSeas 2 25 [.inr (some 59), .inl 1, v2] [] t1 (hy_e none R) := by
    intro N
    induction N with
    | zero =>
      intro t1 v2 R hin hs hv
      have := (pc_sum_le (C := t1 102) 64 hin).1
      omega
    | succ N ih =>
      intro t1 v2 R hin hs hv
      obtain ⟨i1, i2, i3, i4, i5⟩ := mf_seaP_s hin 64 (Nat.le_refl _)
      simp only [mf_fix] at hv
      refine c_M_seaPass ?_
      by_cases hx : (mf_seaP t1 64).1 = true
      · rw [if_pos hx] at hv
        have := i5 hx
        have q := ih (mf_seaP t1 64).2 (.inl 64) R i2 (by omega) hv
        rw [hx]
        exact q
      · rw [if_neg hx] at hv
        rw [Bool.not_eq_true] at hx
        rw [hx]
        refine hy_iload (i := 25) rfl rfl ?_
        refine hy_if_eq (i := 26) (tt := 65) rfl (fun zc1 => ?_) (fun zc1 => ?_)
        · refine hy_return (i := 65) rfl rfl ?_
          exact ⟨rfl, hv⟩
        · exact absurd rfl zc1
  have h0 : se_in (mf_sea0N t 64) := fun f hf => mf_sea0N_in t 64 (Nat.le_refl _) f hf
  have hs := (pc_sum_le (C := mf_sea0N t 64 102) 64 h0).2
  exact c_M_laysSeasOf hg (loop 5000 _ _ _ h0 (by omega) rfl)
theorem c_M_ash {e q w : Int} (hk : ml_ok t) (hp : me_pal t) (hg : mg_ok t) : hy_Ct sc hm_M_ash 7 [.inr (some 59), .inl e, .inl q, .inl w] t (fun r t' => r = some (if ma_c e q w then ma_ans (t' 102) w else -1) ∧ hy_F maX t t' ∧ (ma_c e q w → ∃ t1 : hy_T, hy_F meX t t1 ∧ (∀ j : Nat, j ≤ 12 → t1 79 j = mq_as t e q j) ∧ t' = mf_fix 5000 (mf_sea0N t1 64))) := by
  refine hy_mk_ct ok_M_ash ck_M_ash (Nat.le_of_ble_eq_true rfl) ?_
  by_cases hq : ma_c e q w
  · simp only [if_pos hq]
    have loop : ∀ (t1 t2 : hy_T), hy_F meX t t1 → (∀ j : Nat, j ≤ 12 → t1 79 j = mq_as t e q j) → t2 = mf_fix 5000 (mf_sea0N t1 64) → ∀ (m : Nat), ∀ (k : Nat) (v8 v9 : hy_V), m + k = 64 → hy_W sc hm_M_ash 7 27 [.inr (some 59), .inl e, .inl q, .inl w, .inl (ma_allN (t2 102) k), .inl (ma_seaN (t2 102) k), .inl (ma_mostN (t2 102) k), .inl (k : Int), v8, v9] [] t2 (fun r t' => r = some (ma_ans (t' 102) w) ∧ hy_F maX t t' ∧ (ma_c e q w → ∃ t1 : hy_T, hy_F meX t t1 ∧ (∀ j : Nat, j ≤ 12 → t1 79 j = mq_as t e q j) ∧ t' = mf_fix 5000 (mf_sea0N t1 64))) := by
      intro t1 t2 hF hA ht m
      have hF2 : hy_F maX t t2 := by
        rw [ht]
        refine (hF.w (fun r j q => by revert q; simp [maX, meX]; omega)).tr' (((mf_sea0N_F t1 64).w (fun r j q => by revert q; simp [maX, meX])).tr' ?_)
        exact (mf_fix_s 5000 (fun f hf => mf_sea0N_in t1 64 (Nat.le_refl _) f hf)).1.w (fun r j q => by revert q; simp [maX, meX])
      induction m with
      | zero =>
        intro k v8 v9 hm
        obtain rfl : k = 64 := by omega
        refine hy_iload (i := 27) rfl rfl ?_
        refine hy_const (i := 28) rfl (by decide) ?_
        refine hy_ic_ge (i := 29) (tt := 80) rfl (fun zc1 => ?_) (fun zc1 => ?_)
        · refine hy_iload (i := 80) rfl rfl ?_
          refine hy_if_ne (i := 81) (tt := 84) rfl (fun zc2 => ?_) (fun zc2 => ?_)
          · refine hy_iload (i := 84) rfl rfl ?_
            refine hy_const (i := 85) rfl (by decide) ?_
            refine hy_ic_ne (i := 86) (tt := 89) rfl (fun zc3 => ?_) (fun zc3 => ?_)
            · refine hy_iload (i := 89) rfl rfl ?_
              refine hy_ireturn (i := 90) rfl rfl ?_
              refine ⟨congrArg some ?_, hF2, fun _ => ⟨t1, hF, hA, ht⟩⟩
              unfold ma_ans
              (repeat (first | rw [if_pos (by omega)] | rw [if_neg (by omega)]))
            · refine hy_iload (i := 87) rfl rfl ?_
              refine hy_goto (i := 88) (tt := 90) rfl ?_
              refine hy_ireturn (i := 90) rfl rfl ?_
              refine ⟨congrArg some ?_, hF2, fun _ => ⟨t1, hF, hA, ht⟩⟩
              unfold ma_ans
              (repeat (first | rw [if_pos (by omega)] | rw [if_neg (by omega)]))
          · refine hy_iload (i := 82) rfl rfl ?_
            refine hy_goto (i := 83) (tt := 90) rfl ?_
            refine hy_ireturn (i := 90) rfl rfl ?_
            refine ⟨congrArg some ?_, hF2, fun _ => ⟨t1, hF, hA, ht⟩⟩
            unfold ma_ans
            (repeat (first | rw [if_pos (by omega)] | rw [if_neg (by omega)]))
        · omega
      | succ m ih =>
        intro k v8 v9 hm
        have hin := ma_in (t2 102) k
        have a1 : ma_allN (t2 102) (k + 1) = ma_allN (t2 102) k + (if t2 102 k = -1 then 0 else 1) := rfl
        have a2 : ma_seaN (t2 102) (k + 1) = ma_seaN (t2 102) k + (if t2 102 k = k then 1 else 0) := rfl
        have a3 : ma_mostN (t2 102) (k + 1) = if t2 102 k = k then (if ma_cntN (t2 102) k 64 < ma_mostN (t2 102) k then ma_mostN (t2 102) k else ma_cntN (t2 102) k 64) else ma_mostN (t2 102) k := rfl
        have inner : ∀ (x : Int), x = ma_allN (t2 102) (k + 1) → t2 102 k = k → ∀ (m2 : Nat), ∀ (j : Nat), m2 + j = 64 → hy_W sc hm_M_ash 7 53 [.inr (some 59), .inl e, .inl q, .inl w, .inl x, .inl (ma_seaN (t2 102) k), .inl (ma_mostN (t2 102) k), .inl (k : Int), .inl (ma_cntN (t2 102) k j), .inl (j : Int)] [] t2 (fun r t' => r = some (ma_ans (t' 102) w) ∧ hy_F maX t t' ∧ (ma_c e q w → ∃ t1 : hy_T, hy_F meX t t1 ∧ (∀ j : Nat, j ≤ 12 → t1 79 j = mq_as t e q j) ∧ t' = mf_fix 5000 (mf_sea0N t1 64))) := by
          intro x hx hkk m2
          rw [if_pos hkk] at a2 a3
          induction m2 with
          | zero =>
            intro j hm2
            obtain rfl : j = 64 := by omega
            have ih' := ih (k + 1)
            rw [a2, a3, ← hx] at ih'
            refine hy_iload (i := 53) rfl rfl ?_
            refine hy_const (i := 54) rfl (by decide) ?_
            refine hy_ic_ge (i := 55) (tt := 70) rfl (fun zc1 => ?_) (fun zc1 => ?_)
            · refine hy_iload (i := 70) rfl rfl ?_
              refine hy_const (i := 71) rfl (by decide) ?_
              refine hy_iadd (i := 72) rfl (by omega) ?_
              refine hy_istore (i := 73) rfl ?_
              refine hy_iload (i := 74) rfl rfl ?_
              refine hy_iload (i := 75) rfl rfl ?_
              refine hy_cS2e (i := 76) rfl (by decide) mj_M_max (by decide) rfl (Nat.le_of_ble_eq_true rfl) (c_M_max) ?_
              refine hy_istore (i := 77) rfl ?_
              refine hy_iinc (i := 78) rfl rfl (by omega) ?_
              refine hy_goto (i := 79) (tt := 27) rfl ?_
              exact ih' _ _ (by omega)
            · omega
          | succ m2 ih2 =>
            intro j hm2
            have hc := ma_cntN_in (t2 102) k j
            have b1 : ma_cntN (t2 102) k (j + 1) = ma_cntN (t2 102) k j + (if t2 102 j = k then 1 else 0) := rfl
            have ih2' := ih2 (j + 1) (by omega)
            rw [b1] at ih2'
            refine hy_iload (i := 53) rfl rfl ?_
            refine hy_const (i := 54) rfl (by decide) ?_
            refine hy_ic_ge (i := 55) (tt := 70) rfl (fun zc1 => ?_) (fun zc1 => ?_)
            · omega
            · refine hy_iload (i := 56) rfl rfl ?_
              refine hy_aload (i := 57) rfl rfl ?_
              refine hy_getr (i := 58) rfl rfl ?_
              refine hy_iload (i := 59) rfl rfl ?_
              refine hy_iald (i := 60) rfl rfl (by omega) (k := j) (by omega) ?_
              refine hy_iload (i := 61) rfl rfl ?_
              refine hy_ic_ne (i := 62) (tt := 65) rfl (fun zc2 => ?_) (fun zc2 => ?_)
              · refine hy_const (i := 65) rfl (by decide) ?_
                refine hy_iadd (i := 66) rfl (by omega) ?_
                refine hy_istore (i := 67) rfl ?_
                refine hy_iinc (i := 68) rfl rfl (by omega) ?_
                refine hy_goto (i := 69) (tt := 53) rfl ?_
                first | (rw [if_pos (by assumption)] at ih2'; exact ih2') | (rw [if_neg (by assumption)] at ih2'; exact ih2')
              · refine hy_const (i := 63) rfl (by decide) ?_
                refine hy_goto (i := 64) (tt := 66) rfl ?_
                refine hy_iadd (i := 66) rfl (by omega) ?_
                refine hy_istore (i := 67) rfl ?_
                refine hy_iinc (i := 68) rfl rfl (by omega) ?_
                refine hy_goto (i := 69) (tt := 53) rfl ?_
                first | (rw [if_pos (by assumption)] at ih2'; exact ih2') | (rw [if_neg (by assumption)] at ih2'; exact ih2')
        refine hy_iload (i := 27) rfl rfl ?_
        refine hy_const (i := 28) rfl (by decide) ?_
        refine hy_ic_ge (i := 29) (tt := 80) rfl (fun zc1 => ?_) (fun zc1 => ?_)
        · omega
        · refine hy_iload (i := 30) rfl rfl ?_
          refine hy_aload (i := 31) rfl rfl ?_
          refine hy_getr (i := 32) rfl rfl ?_
          refine hy_iload (i := 33) rfl rfl ?_
          refine hy_iald (i := 34) rfl rfl (by omega) (k := k) (by omega) ?_
          refine hy_const (i := 35) rfl (by decide) ?_
          refine hy_ic_ne (i := 36) (tt := 39) rfl (fun zc2 => ?_) (fun zc2 => ?_)
          · refine hy_const (i := 39) rfl (by decide) ?_
            refine hy_iadd (i := 40) rfl (by omega) ?_
            refine hy_istore (i := 41) rfl ?_
            refine hy_aload (i := 42) rfl rfl ?_
            refine hy_getr (i := 43) rfl rfl ?_
            refine hy_iload (i := 44) rfl rfl ?_
            refine hy_iald (i := 45) rfl rfl (by omega) (k := k) (by omega) ?_
            refine hy_iload (i := 46) rfl rfl ?_
            refine hy_ic_eq (i := 47) (tt := 49) rfl (fun zc3 => ?_) (fun zc3 => ?_)
            · refine hy_const (i := 49) rfl (by decide) ?_
              refine hy_istore (i := 50) rfl ?_
              refine hy_const (i := 51) rfl (by decide) ?_
              refine hy_istore (i := 52) rfl ?_
              first | exact inner _ (by rw [a1, if_pos (by assumption)]) (by assumption) 64 0 rfl | exact inner _ (by rw [a1, if_neg (by assumption)]) (by assumption) 64 0 rfl
            · refine hy_goto (i := 48) (tt := 78) rfl ?_
              refine hy_iinc (i := 78) rfl rfl (by omega) ?_
              refine hy_goto (i := 79) (tt := 27) rfl ?_
              rw [if_neg (show ¬ t2 102 k = k by assumption), Int.add_zero] at a2
              rw [if_neg (show ¬ t2 102 k = k by assumption)] at a3
              have ih' := ih (k + 1)
              rw [a1, a2, a3] at ih'
              first | (rw [if_pos (by assumption)] at ih'; exact ih' _ _ (by omega)) | (rw [if_neg (by assumption)] at ih'; exact ih' _ _ (by omega))
          · refine hy_const (i := 37) rfl (by decide) ?_
            refine hy_goto (i := 38) (tt := 40) rfl ?_
            refine hy_iadd (i := 40) rfl (by omega) ?_
            refine hy_istore (i := 41) rfl ?_
            refine hy_aload (i := 42) rfl rfl ?_
            refine hy_getr (i := 43) rfl rfl ?_
            refine hy_iload (i := 44) rfl rfl ?_
            refine hy_iald (i := 45) rfl rfl (by omega) (k := k) (by omega) ?_
            refine hy_iload (i := 46) rfl rfl ?_
            refine hy_ic_eq (i := 47) (tt := 49) rfl (fun zc3 => ?_) (fun zc3 => ?_)
            · refine hy_const (i := 49) rfl (by decide) ?_
              refine hy_istore (i := 50) rfl ?_
              refine hy_const (i := 51) rfl (by decide) ?_
              refine hy_istore (i := 52) rfl ?_
              first | exact inner _ (by rw [a1, if_pos (by assumption)]) (by assumption) 64 0 rfl | exact inner _ (by rw [a1, if_neg (by assumption)]) (by assumption) 64 0 rfl
            · refine hy_goto (i := 48) (tt := 78) rfl ?_
              refine hy_iinc (i := 78) rfl rfl (by omega) ?_
              refine hy_goto (i := 79) (tt := 27) rfl ?_
              rw [if_neg (show ¬ t2 102 k = k by assumption), Int.add_zero] at a2
              rw [if_neg (show ¬ t2 102 k = k by assumption)] at a3
              have ih' := ih (k + 1)
              rw [a1, a2, a3] at ih'
              first | (rw [if_pos (by assumption)] at ih'; exact ih' _ _ (by omega)) | (rw [if_neg (by assumption)] at ih'; exact ih' _ _ (by omega))
    refine hy_iload (i := 0) rfl rfl ?_
    refine hy_cS1e (i := 1) rfl (by decide) mj_M_isEmpire (by decide) rfl (Nat.le_of_ble_eq_true rfl) (c_M_isEmpire) ?_
    refine hy_ib_eq (i := 2) (tt := 11) rfl (fun zc1 => ?_) (fun zc1 => ?_)
    · simp only [decide_eq_false_iff_not] at zc1; omega
    · refine hy_iload (i := 3) rfl rfl ?_
      refine hy_cS1e (i := 4) rfl (by decide) mj_M_isQuarter (by decide) rfl (Nat.le_of_ble_eq_true rfl) (c_M_isQuarter) ?_
      refine hy_ib_eq (i := 5) (tt := 11) rfl (fun zc2 => ?_) (fun zc2 => ?_)
      · simp only [decide_eq_false_iff_not] at zc2; omega
      · refine hy_iload (i := 6) rfl rfl ?_
        refine hy_const (i := 7) rfl (by decide) ?_
        refine hy_const (i := 8) rfl (by decide) ?_
        refine hy_cS3e (i := 9) rfl (by decide) mj_M_in (by decide) rfl (Nat.le_of_ble_eq_true rfl) (c_M_in) ?_
        refine hy_ib_ne (i := 10) (tt := 13) rfl (fun zc3 => ?_) (fun zc3 => ?_)
        · refine hy_aload (i := 13) rfl rfl ?_
          refine hy_iload (i := 14) rfl rfl ?_
          refine hy_iload (i := 15) rfl rfl ?_
          refine hy_cV2 (i := 16) rfl mj_M_laysAs (by decide) rfl (Nat.le_of_ble_eq_true rfl) rfl rfl rfl (c_M_laysAs (by assumption) (by assumption) (by omega)) (fun r4_ t4_ h4 => ?_)
          obtain ⟨rfl, hF4, hA4⟩ := h4
          dsimp only [hy_st, List.nil_append]
          refine hy_aload (i := 17) rfl rfl ?_
          have hg4 : mg_ok t4_ := fun f hf => by rw [hF4 63 f rfl]; exact hg f hf
          refine hy_cV0v (i := 18) rfl mj_M_laysSeas (by decide) rfl (Nat.le_of_ble_eq_true rfl) rfl rfl rfl (c_M_laysSeas (by assumption)) ?_
          refine hy_const (i := 19) rfl (by decide) ?_
          refine hy_istore (i := 20) rfl ?_
          refine hy_const (i := 21) rfl (by decide) ?_
          refine hy_istore (i := 22) rfl ?_
          refine hy_const (i := 23) rfl (by decide) ?_
          refine hy_istore (i := 24) rfl ?_
          refine hy_const (i := 25) rfl (by decide) ?_
          refine hy_istore (i := 26) rfl ?_
          exact loop t4_ _ hF4 hA4 rfl 64 0 _ _ rfl
        · simp only [decide_eq_false_iff_not] at zc3; omega
  · simp only [if_neg hq]
    refine hy_iload (i := 0) rfl rfl ?_
    refine hy_cS1e (i := 1) rfl (by decide) mj_M_isEmpire (by decide) rfl (Nat.le_of_ble_eq_true rfl) (c_M_isEmpire) ?_
    refine hy_ib_eq (i := 2) (tt := 11) rfl (fun zc1 => ?_) (fun zc1 => ?_)
    · refine hy_const (i := 11) rfl (by decide) ?_
      refine hy_ireturn (i := 12) rfl rfl ?_
      exact ⟨rfl, hy_F.rf, fun h => absurd h hq⟩
    · refine hy_iload (i := 3) rfl rfl ?_
      refine hy_cS1e (i := 4) rfl (by decide) mj_M_isQuarter (by decide) rfl (Nat.le_of_ble_eq_true rfl) (c_M_isQuarter) ?_
      refine hy_ib_eq (i := 5) (tt := 11) rfl (fun zc2 => ?_) (fun zc2 => ?_)
      · refine hy_const (i := 11) rfl (by decide) ?_
        refine hy_ireturn (i := 12) rfl rfl ?_
        exact ⟨rfl, hy_F.rf, fun h => absurd h hq⟩
      · refine hy_iload (i := 6) rfl rfl ?_
        refine hy_const (i := 7) rfl (by decide) ?_
        refine hy_const (i := 8) rfl (by decide) ?_
        refine hy_cS3e (i := 9) rfl (by decide) mj_M_in (by decide) rfl (Nat.le_of_ble_eq_true rfl) (c_M_in) ?_
        refine hy_ib_ne (i := 10) (tt := 13) rfl (fun zc3 => ?_) (fun zc3 => ?_)
        · exfalso; simp only [decide_eq_true_eq] at *; exact hq ⟨by assumption, by assumption, by assumption⟩
        · refine hy_const (i := 11) rfl (by decide) ?_
          refine hy_ireturn (i := 12) rfl rfl ?_
          exact ⟨rfl, hy_F.rf, fun h => absurd h hq⟩
end MSE
/-! the model's law as it is read: a machine over a list of what waits -/
abbrev Zs : Type := Int × Nat × (Nat → Int) × List Int × Int
def az_num (B : Int → Int) : Nat → Int → Int → Int ⊕ (Int × Int)
  | 0, p, v => if 48 ≤ B p ∧ B p ≤ 57 then .inl (-2000 - p) else .inr (p, v)
  | n + 1, p, v => if 48 ≤ B p ∧ B p ≤ 57 then az_num B n (p + 1) (10 * v + B p - 48) else .inr (p, v)
def az_open (what : Int) (s : Zs) : Int ⊕ Zs := if s.2.2.2.2 = 6 then .inl (-5000 - s.1) else .inr (s.1 + 1, s.2.1, s.2.2.1, (1048576 * what) :: s.2.2.2.1, s.2.2.2.2 + 1)
abbrev az_popc (all : Bool) (x : Int) : Prop := (4 ≤ x / 1048576 ∧ x / 1048576 ≤ 6) ∨ (all = true ∧ (x / 1048576 = 2 ∨ x / 1048576 = 3))
def az_close (all : Bool) : List Int → Nat → (Nat → Int) → List Int × Nat × (Nat → Int)
  | [], m, f => ([], m, f)
  | x :: w, m, f => if az_popc all x then az_close all w (m + 1) (su f m (1048576 * (x / 1048576))) else (x :: w, m, f)
def az_fac (B : Int → Int) : Nat → Zs → Int ⊕ Zs
  | 0, _ => .inl 0
  | n + 1, s =>
    if B s.1 = 91 then (match az_open 14 s with | .inl e => .inl e | .inr s1 => az_fac B n s1)
    else if 48 ≤ B s.1 ∧ B s.1 ≤ 57 then (match az_num B 5 s.1 0 with | .inl e => .inl e | .inr q => .inr (q.1, s.2.1 + 1, su s.2.2.1 s.2.1 q.2, s.2.2.2.1, s.2.2.2.2))
    else if lp_letter (B s.1) = -1 then .inl (-1000 - s.1)
    else .inr (s.1 + 1, s.2.1 + 1, su s.2.2.1 s.2.1 (1048576 + lp_letter (B s.1)), s.2.2.2.1, s.2.2.2.2)
def az_sgn (c : Int) : Int := if c = 43 then 2 else if c = 45 then 3 else if c = 42 then 4 else if c = 47 then 5 else if c = 37 then 6 else -1
def az_has : Nat → List Int → Bool
  | 0, _ => false
  | _ + 1, [] => false
  | n + 1, x :: w => decide (x / 1048576 = 14) || az_has n w
def az_sum (B : Int → Int) (b : Nat) : Nat → Zs → Int ⊕ Zs
  | 0, _ => .inl 0
  | n + 1, s =>
    if az_sgn (B s.1) ≠ -1 then
      (match az_fac B 8 (s.1 + 1, (az_close (decide (az_sgn (B s.1) < 4)) s.2.2.2.1 s.2.1 s.2.2.1).2.1, (az_close (decide (az_sgn (B s.1) < 4)) s.2.2.2.1 s.2.1 s.2.2.1).2.2, (1048576 * az_sgn (B s.1)) :: (az_close (decide (az_sgn (B s.1) < 4)) s.2.2.2.1 s.2.1 s.2.2.1).1, s.2.2.2.2) with
       | .inl e => .inl e
       | .inr s1 => az_sum B b n s1)
    else if B s.1 = 93 ∧ az_has (s.2.2.2.1.length - b) s.2.2.2.1 = true then
      az_sum B b n (s.1 + 1, (az_close true s.2.2.2.1 s.2.1 s.2.2.1).2.1, (az_close true s.2.2.2.1 s.2.1 s.2.2.1).2.2, (az_close true s.2.2.2.1 s.2.1 s.2.2.1).1.tail, s.2.2.2.2 - 1)
    else if az_has (s.2.2.2.1.length - b) s.2.2.2.1 = true then .inl (-1000 - s.1)
    else .inr (s.1, (az_close true s.2.2.2.1 s.2.1 s.2.2.1).2.1, (az_close true s.2.2.2.1 s.2.1 s.2.2.1).2.2, (az_close true s.2.2.2.1 s.2.1 s.2.2.1).1, s.2.2.2.2)
def az_rs (B : Int → Int) (s : Zs) : Int ⊕ Zs := match az_fac B 8 s with
  | .inl e => .inl e
  | .inr s1 => az_sum B s.2.2.2.1.length 250 s1
def az_ends : List Int → Nat → (Nat → Int) → Int → List Int × Nat × (Nat → Int) × Int
  | [], m, f, o => ([], m, f, o)
  | x :: w, m, f, o => if x / 1048576 = 10 then az_ends w (m + 1) (su f m 10485760) (o - 1) else (x :: w, m, f, o)
def az_land (all : Bool) : List Int → Nat → (Nat → Int) → List Int × (Nat → Int)
  | [], _, f => ([], f)
  | x :: w, m, f => if x / 1048576 = 11 ∨ (all = true ∧ x / 1048576 = 12) then az_land all w m (su f (x % 1048576).toNat (1048576 * (f (x % 1048576).toNat / 1048576) + m)) else (x :: w, f)
def az_how (c : Int) : Int := if c = 60 then 7 else if c = 62 then 8 else if c = 61 then 9 else -1
def az_cmp2 (how : Int) (s : Zs) : Zs :=
  (s.1, (az_ends s.2.2.2.1 (s.2.1 + 1) (su s.2.2.1 s.2.1 (1048576 * how)) s.2.2.2.2).2.1, (az_ends s.2.2.2.1 (s.2.1 + 1) (su s.2.2.1 s.2.1 (1048576 * how)) s.2.2.2.2).2.2.1, (az_ends s.2.2.2.1 (s.2.1 + 1) (su s.2.2.1 s.2.1 (1048576 * how)) s.2.2.2.2).1, (az_ends s.2.2.2.1 (s.2.1 + 1) (su s.2.2.1 s.2.1 (1048576 * how)) s.2.2.2.2).2.2.2)
def az_cmp (B : Int → Int) (s : Zs) : Int ⊕ Zs := match az_rs B s with
  | .inl e => .inl e
  | .inr s1 => if az_how (B s1.1) = -1 then .inl (-1000 - s1.1) else
    (match az_rs B (s1.1 + 1, s1.2.1, s1.2.2.1, s1.2.2.2.1, s1.2.2.2.2) with
     | .inl e => .inl e
     | .inr s2 => .inr (az_cmp2 (az_how (B s1.1)) s2))
def az_shut (s : Zs) : Zs := (s.1 + 1, s.2.1, (az_land true s.2.2.2.1 s.2.1 s.2.2.1).2, (az_land true s.2.2.2.1 s.2.1 s.2.2.1).1.tail, s.2.2.2.2 - 1)
def az_shut2 (s : Zs) : Zs := (s.1, (az_ends s.2.2.2.1 s.2.1 s.2.2.1 s.2.2.2.2).2.1, (az_ends s.2.2.2.1 s.2.1 s.2.2.1 s.2.2.2.2).2.2.1, (az_ends s.2.2.2.1 s.2.1 s.2.2.1 s.2.2.2.2).1, (az_ends s.2.2.2.1 s.2.1 s.2.2.1 s.2.2.2.2).2.2.2)
def az_jop (c : Int) : Int := if c = 38 then 11 else 12
def az_jump (c : Int) (s : Zs) : Zs := (s.1 + 1, s.2.1 + 1, su (az_land (decide (c = 124)) s.2.2.2.1 s.2.1 s.2.2.1).2 s.2.1 (1048576 * az_jop c), (1048576 * az_jop c + s.2.1) :: (az_land (decide (c = 124)) s.2.2.2.1 s.2.1 s.2.2.1).1, s.2.2.2.2)
def az_cond (B : Int → Int) : Nat → Bool → Zs → Int ⊕ Zs
  | 0, _, _ => .inl 0
  | n + 1, true, s =>
    if B s.1 = 33 ∨ B s.1 = 40 then (match az_open (if B s.1 = 33 then 10 else 13) s with | .inl e => .inl e | .inr s1 => az_cond B n true s1)
    else (match az_cmp B s with | .inl e => .inl e | .inr s1 => az_cond B n false s1)
  | n + 1, false, s =>
    if B s.1 = 41 then (if (az_shut s).2.2.2.1 = [] then .inr (az_shut s) else az_cond B n false (az_shut2 (az_shut s)))
    else if B s.1 = 38 ∨ B s.1 = 124 then az_cond B n true (az_jump (B s.1) s)
    else .inl (-1000 - s.1)
def az_rc (B : Int → Int) (p : Int) (m : Nat) (f : Nat → Int) : Int ⊕ Zs :=
  if B p = 40 then az_cond B 600 true (p + 1, m, f, [13631488], 1) else .inl (-1000 - p)
/-! what is kept by it -/
def az_eff (op : Int) : Int := if op = 0 ∨ op = 1 then 1 else if op = 10 then 0 else -1
def az_dep (f : Nat → Int) (a : Nat) : Nat → Int
  | 0 => 0
  | k + 1 => if k + 1 ≤ a then 0 else az_dep f a k + az_eff (f k / 1048576)
theorem az_dep_a (f : Nat → Int) (a : Nat) : ∀ k : Nat, k ≤ a → az_dep f a k = 0
  | 0, _ => rfl
  | k + 1, h => by simp only [az_dep]; rw [if_pos h]
theorem az_dep_s (f : Nat → Int) (a k : Nat) (h : a ≤ k) : az_dep f a (k + 1) = az_dep f a k + az_eff (f k / 1048576) := by
  simp only [az_dep]
  rw [if_neg (by omega)]
theorem az_dep_le (f : Nat → Int) (a : Nat) : ∀ k : Nat, az_dep f a k ≤ k
  | 0 => by simp [az_dep]
  | k + 1 => by
    have h := az_dep_le f a k
    simp only [az_dep]
    split
    · omega
    · unfold az_eff
      split
      · omega
      · split <;> omega
/-- only the signs of the codes ahead matter -/
theorem az_dep_eq {f g : Nat → Int} {a : Nat} : ∀ k : Nat, (∀ j, j < k → f j / 1048576 = g j / 1048576) → az_dep f a k = az_dep g a k
  | 0, _ => rfl
  | k + 1, h => by
    simp only [az_dep]
    rw [az_dep_eq k (fun j hj => h j (by omega)), h k (by omega)]
theorem az_dep_su (f : Nat → Int) (a m : Nat) (v : Int) (k : Nat) (h : k ≤ m) : az_dep (su f m v) a k = az_dep f a k :=
  az_dep_eq k (fun j hj => by simp only [su]; rw [if_neg (by omega)])
def az_pend (w : List Int) (k : Nat) : Prop := ∃ x, x ∈ w ∧ x % 1048576 = k ∧ (x / 1048576 = 11 ∨ x / 1048576 = 12)
/-- a code that is well laid, or whose leap still waits -/
def az_okc (f : Nat → Int) (a m : Nat) (w : List Int) (k : Nat) : Prop :=
  (0 ≤ f k ∧ f k < 13631488 ∧ 0 ≤ az_dep f a k) ∧
  (f k / 1048576 = 1 → f k % 1048576 < 10) ∧
  (f k / 1048576 = 10 → 1 ≤ az_dep f a k) ∧
  ((f k / 1048576 = 11 ∨ f k / 1048576 = 12) → 1 ≤ az_dep f a k ∧ (az_pend w k ∨ ((k : Int) < f k % 1048576 ∧ f k % 1048576 ≤ m ∧ az_dep f a (f k % 1048576).toNat = az_dep f a k))) ∧
  (2 ≤ f k / 1048576 → f k / 1048576 ≤ 9 → 2 ≤ az_dep f a k)
def az_lc (f : Nat → Int) (a m : Nat) (w : List Int) : Prop := ∀ k : Nat, a ≤ k → k < m → az_okc f a m w k
theorem az_lc_w {f : Nat → Int} {a m : Nat} {w w' : List Int} (h : az_lc f a m w) (hw : ∀ k, az_pend w k → az_pend w' k) : az_lc f a m w' := fun k h1 h2 => by
  obtain ⟨c0, c1, c2, c3, c4⟩ := h k h1 h2
  exact ⟨c0, c1, c2, fun q => ⟨(c3 q).1, (c3 q).2.imp (hw k) id⟩, c4⟩
/-- a code is noted -/
theorem az_lc_note {f : Nat → Int} {a m : Nat} {w : List Int} (h : az_lc f a m w) (ha : a ≤ m) {x : Int} (hx : 0 ≤ x ∧ x < 13631488) (hd : 0 ≤ az_dep f a m)
    (h1 : x / 1048576 = 1 → x % 1048576 < 10) (h2 : x / 1048576 = 10 → 1 ≤ az_dep f a m) (h3 : (x / 1048576 = 11 ∨ x / 1048576 = 12) → 1 ≤ az_dep f a m ∧ az_pend w m)
    (h4 : 2 ≤ x / 1048576 → x / 1048576 ≤ 9 → 2 ≤ az_dep f a m) : az_lc (su f m x) a (m + 1) w ∧ az_dep (su f m x) a (m + 1) = az_dep f a m + az_eff (x / 1048576) := by
  have em : su f m x m = x := by simp [su]
  refine ⟨fun k k1 k2 => ?_, by rw [az_dep_s _ _ _ ha, az_dep_su f a m x m (Nat.le_refl _), em]⟩
  have ed : az_dep (su f m x) a k = az_dep f a k := az_dep_su f a m x k (by omega)
  by_cases hk : k = m
  · subst hk
    unfold az_okc
    rw [em, ed]
    exact ⟨⟨hx.1, hx.2, hd⟩, h1, h2, fun q => ⟨(h3 q).1, .inl (h3 q).2⟩, h4⟩
  · have ek : su f m x k = f k := by simp [su, hk]
    obtain ⟨c0, c1, c2, c3, c4⟩ := h k k1 (by omega)
    unfold az_okc
    rw [ek, ed]
    refine ⟨c0, c1, c2, fun q => ⟨(c3 q).1, ?_⟩, c4⟩
    rcases (c3 q).2 with q1 | ⟨q1, q2, q3⟩
    · exact .inl q1
    · refine .inr ⟨q1, by omega, ?_⟩
      rw [az_dep_su f a m x _ (by omega)]
      exact q3
/-- how many of what waits will be noted; how many are open; how many are signs of sums -/
def az_cnt : List Int → Nat
  | [] => 0
  | x :: w => (if (2 ≤ x / 1048576 ∧ x / 1048576 ≤ 6) ∨ x / 1048576 = 10 then 1 else 0) + az_cnt w
def az_cno : List Int → Nat
  | [] => 0
  | x :: w => (if x / 1048576 = 10 ∨ x / 1048576 = 13 ∨ x / 1048576 = 14 then 1 else 0) + az_cno w
def az_bin : List Int → Nat
  | [] => 0
  | x :: w => (if 2 ≤ x / 1048576 ∧ x / 1048576 ≤ 6 then 1 else 0) + az_bin w
abbrev az_ent (x : Int) : Prop := 0 ≤ x ∧ x < 15728640 ∧ x % 1048576 < 260
/-- the state of the reading, with some room left -/
def az_ok (sl : Nat) (s : Zs) : Prop := (0 ≤ s.1 ∧ s.1 ≤ 240) ∧ ((s.2.1 + az_cnt s.2.2.2.1 + sl : Nat) : Int) ≤ s.1 ∧ (s.2.2.2.1.length : Int) ≤ s.1 ∧ (s.2.2.2.2 = az_cno s.2.2.2.1 ∧ s.2.2.2.2 ≤ 6) ∧ (∀ x, x ∈ s.2.2.2.1 → az_ent x) ∧ ∀ j : Nat, j < 260 → 0 ≤ s.2.2.1 j ∧ s.2.2.1 j < 13631488
abbrev az_by (B : Int → Int) : Prop := ∀ p, -1 ≤ B p ∧ B p ≤ 255 ∧ (240 ≤ p → B p = -1)
theorem az_row_su {f : Nat → Int} (h : ∀ j : Nat, j < 260 → 0 ≤ f j ∧ f j < 13631488) (m : Nat) {x : Int} (hx : 0 ≤ x ∧ x < 13631488) : ∀ j : Nat, j < 260 → 0 ≤ su f m x j ∧ su f m x j < 13631488 := fun j hj => by
  simp only [su]
  split
  · exact hx
  · exact h j hj
theorem az_num_s {B : Int → Int} (hB : az_by B) : ∀ (n : Nat) (p v : Int) (q : Int × Int) (hi : Int), 0 ≤ v → (v + 1) * 10 ^ n ≤ hi → az_num B n p v = .inr q → p ≤ q.1 ∧ (q.1 ≤ 240 ∨ q.1 = p) ∧ (48 ≤ B p ∧ B p ≤ 57 → 0 < n → p < q.1) ∧ 0 ≤ q.2 ∧ q.2 < hi
  | 0, p, v, q, hi, hv, hh, h => by
    simp only [az_num] at h
    split at h
    · cases h
    · cases h
      exact ⟨Int.le_refl _, .inr rfl, fun _ q => absurd q (by omega), hv, by simp at hh; omega⟩
  | n + 1, p, v, q, hi, hv, hh, h => by
    simp only [az_num] at h
    split at h
    · next hd =>
      have hb := (hB p).2.2
      have hp : p < 240 := by
        refine Decidable.byContradiction (fun q => ?_)
        have := hb (by omega); omega
      obtain ⟨a1, a2, a3, a4, a5⟩ := az_num_s hB n (p + 1) _ q hi (by omega) (by
        have e : (v + 1) * 10 ^ (n + 1) = (10 * v + 10) * 10 ^ n := by rw [Int.pow_succ, show (10 * v + 10 : Int) = (v + 1) * 10 by omega, Int.mul_assoc, Int.mul_comm (10 ^ n) 10]
        rw [e] at hh
        have hm : (10 * v + B p - 48 + 1) * 10 ^ n ≤ (10 * v + 10) * 10 ^ n := Int.mul_le_mul_of_nonneg_right (by omega) (Int.le_of_lt (Int.pow_pos (by decide)))
        omega) h
      exact ⟨by omega, .inl (by omega), fun _ _ => by omega, a4, a5⟩
    · next hd =>
      cases h
      have h10 : 1 ≤ (10 : Int) ^ (n + 1) := Int.pow_pos (by decide)
      have : v + 1 ≤ (v + 1) * 10 ^ (n + 1) := by
        have := Int.mul_le_mul_of_nonneg_left h10 (show 0 ≤ v + 1 by omega)
        omega
      exact ⟨Int.le_refl _, .inr rfl, fun q => absurd q hd, hv, by omega⟩
/-! the model's law as it is read: what is kept -/
theorem az_cnt_a (u v : List Int) : az_cnt (u ++ v) = az_cnt u + az_cnt v := by
  induction u with
  | nil => simp [az_cnt]
  | cons x u ih => simp only [List.cons_append, az_cnt, ih]; omega
theorem az_cno_a (u v : List Int) : az_cno (u ++ v) = az_cno u + az_cno v := by
  induction u with
  | nil => simp [az_cno]
  | cons x u ih => simp only [List.cons_append, az_cno, ih]; omega
theorem az_has_a : ∀ (u v : List Int), az_has ((u ++ v).length - v.length) (u ++ v) = true ↔ ∃ x, x ∈ u ∧ x / 1048576 = 14 := by
  have key : ∀ (u v : List Int), az_has u.length (u ++ v) = true ↔ ∃ x, x ∈ u ∧ x / 1048576 = 14 := by
    intro u
    induction u with
    | nil => intro v; simp [az_has]
    | cons x u ih => intro v; simp [az_has, ih]
  intro u v
  rw [show (u ++ v).length - v.length = u.length by simp]
  exact key u v
/-- a sum is read over what waits (w0): with an operand behind (b = 1), or wanted (b = 0) -/
def az_sI (b a a0 : Nat) (d0 : Int) (w0 : List Int) (f0 : Nat → Int) (sl : Nat) (s : Zs) : Prop :=
  ∃ ops, s.2.2.2.1 = ops ++ w0 ∧ (∀ x, x ∈ ops → (2 ≤ x / 1048576 ∧ x / 1048576 ≤ 6) ∨ x / 1048576 = 14) ∧ az_dep s.2.2.1 a s.2.1 = d0 + b + az_bin ops ∧ az_lc s.2.2.1 a s.2.1 w0 ∧ a ≤ s.2.1 ∧ az_ok sl s ∧ a0 ≤ s.2.1 ∧ ∀ j, j < a0 → s.2.2.1 j = f0 j
abbrev az_hd (w0 : List Int) : Prop := ∀ x, w0.head? = some x → ¬ (2 ≤ x / 1048576 ∧ x / 1048576 ≤ 6)
theorem az_open_s {what : Int} (hw : what = 10 ∨ what = 13 ∨ what = 14) {sl : Nat} {s s1 : Zs} (h : az_ok sl s) (hp : s.1 < 240) (he : az_open what s = .inr s1) : az_ok sl s1 ∧ s1 = (s.1 + 1, s.2.1, s.2.2.1, (1048576 * what) :: s.2.2.2.1, s.2.2.2.2 + 1) := by
  unfold az_open at he
  split at he
  · cases he
  · next h6 =>
    cases he
    obtain ⟨h1, h2, h3, h4, h5, h7⟩ := h
    refine ⟨⟨⟨by omega, by omega⟩, ?_, ?_, ⟨?_, by dsimp only; omega⟩, ?_, h7⟩, rfl⟩
    · simp only [az_cnt]
      split <;> omega
    · simp only [List.length_cons]; omega
    · simp only [az_cno]
      rw [if_pos (by omega)]; omega
    · intro x hx
      rcases List.mem_cons.mp hx with rfl | hx
      · exact ⟨by omega, by omega, by omega⟩
      · exact h5 x hx
theorem az_close_s (all : Bool) {a : Nat} {d0 : Int} (hd : 0 ≤ d0) {w0 : List Int} (hh : az_hd w0) : ∀ (ops : List Int) (m : Nat) (f : Nat → Int), (∀ x, x ∈ ops → (2 ≤ x / 1048576 ∧ x / 1048576 ≤ 6) ∨ x / 1048576 = 14) → az_dep f a m = d0 + 1 + az_bin ops → az_lc f a m w0 → a ≤ m → m + az_cnt ops ≤ 250 → (∀ j : Nat, j < 260 → 0 ≤ f j ∧ f j < 13631488) →
    ∃ ops', (az_close all (ops ++ w0) m f).1 = ops' ++ w0 ∧ (∀ x, x ∈ ops' → x ∈ ops) ∧ az_dep (az_close all (ops ++ w0) m f).2.2 a (az_close all (ops ++ w0) m f).2.1 = d0 + 1 + az_bin ops' ∧ az_lc (az_close all (ops ++ w0) m f).2.2 a (az_close all (ops ++ w0) m f).2.1 w0 ∧ m ≤ (az_close all (ops ++ w0) m f).2.1 ∧ (az_close all (ops ++ w0) m f).2.1 + az_cnt ops' = m + az_cnt ops ∧ az_cno ops' = az_cno ops ∧ ops'.length ≤ ops.length ∧ (∀ j : Nat, j < 260 → 0 ≤ (az_close all (ops ++ w0) m f).2.2 j ∧ (az_close all (ops ++ w0) m f).2.2 j < 13631488) ∧ (∀ j, j < m → (az_close all (ops ++ w0) m f).2.2 j = f j) ∧ (all = true → ∀ x r, ops' = x :: r → x / 1048576 = 14) ∧ ((∃ x, x ∈ ops ∧ x / 1048576 = 14) → ops' ≠ [])
  | [], m, f, ho, hdep, hl, ha, hm, hf => by
    have e : az_close all ([] ++ w0) m f = (w0, m, f) := by
      cases w0 with
      | nil => rfl
      | cons x w =>
        have := hh x rfl
        simp only [List.nil_append, az_close]
        rw [if_neg (by omega)]
    rw [e]
    exact ⟨[], rfl, fun x hx => hx, hdep, hl, Nat.le_refl _, rfl, rfl, Nat.le_refl _, hf, fun _ _ => rfl, (fun _ x r h => by cases h), (fun ⟨x, hx, _⟩ => by cases hx)⟩
  | x :: ops, m, f, ho, hdep, hl, ha, hm, hf => by
    have hx := ho x List.mem_cons_self
    by_cases hp : az_popc all x
    · have hb : 2 ≤ x / 1048576 ∧ x / 1048576 ≤ 6 := by omega
      have e : az_close all (x :: ops ++ w0) m f = az_close all (ops ++ w0) (m + 1) (su f m (1048576 * (x / 1048576))) := by
        simp only [List.cons_append, az_close]
        rw [if_pos hp]
      simp only [az_bin, az_cnt, if_pos hb, if_pos (Or.inl hb : (2 ≤ x / 1048576 ∧ x / 1048576 ≤ 6) ∨ x / 1048576 = 10)] at hdep hm
      have q : 1048576 * (x / 1048576) / 1048576 = x / 1048576 := by omega
      obtain ⟨n1, n2⟩ := az_lc_note hl ha (x := 1048576 * (x / 1048576)) ⟨by omega, by omega⟩ (by omega) (by omega) (by omega) (by omega) (by omega)
      have ee : az_eff (1048576 * (x / 1048576) / 1048576) = -1 := by unfold az_eff; rw [if_neg (by omega), if_neg (by omega)]
      rw [ee] at n2
      obtain ⟨ops', r1, r2, r3, r4, r5, r6, r7, r8, r9, r10, r11, r12⟩ := az_close_s all hd hh ops (m + 1) (su f m (1048576 * (x / 1048576))) (fun y hy => ho y (List.mem_cons_of_mem _ hy)) (by omega) n1 (by omega) (by omega) (az_row_su hf m ⟨by omega, by omega⟩)
      rw [e]
      refine ⟨ops', r1, fun y hy => List.mem_cons_of_mem _ (r2 y hy), r3, r4, by omega, ?_, ?_, by simp only [List.length_cons]; omega, r9, fun j hj => ?_, r11, ?_⟩
      · simp only [az_cnt, if_pos (Or.inl hb : (2 ≤ x / 1048576 ∧ x / 1048576 ≤ 6) ∨ x / 1048576 = 10)]; omega
      · simp only [az_cno]; rw [if_neg (by omega)]; omega
      · rw [r10 j (by omega)]; simp only [su]; rw [if_neg (by omega)]
      · intro ⟨y, hy, hy14⟩
        refine r12 ?_
        rcases List.mem_cons.mp hy with rfl | hy
        · omega
        · exact ⟨y, hy, hy14⟩
    · have e : az_close all (x :: ops ++ w0) m f = (x :: ops ++ w0, m, f) := by
        simp only [List.cons_append, az_close]
        rw [if_neg hp]
      rw [e]
      refine ⟨x :: ops, rfl, fun y hy => hy, hdep, hl, Nat.le_refl _, rfl, rfl, Nat.le_refl _, hf, fun _ _ => rfl, fun hall y r h => ?_, fun _ h => by cases h⟩
      obtain ⟨rfl, -⟩ := List.cons.inj h
      simp only [az_popc, hall, true_and] at hp
      omega
theorem az_letter_in {c : Int} (h : lp_letter c ≠ -1) : 0 ≤ lp_letter c ∧ lp_letter c < 10 ∧ 0 ≤ c := by
  unfold lp_letter at h ⊢
  repeat' split
  all_goals first | omega | (exfalso; apply h; repeat' split; all_goals omega)
theorem az_fac_s {B : Int → Int} (hB : az_by B) {a a0 : Nat} {d0 : Int} (hd : 0 ≤ d0) {w0 : List Int} {f0 : Nat → Int} {sl : Nat} : ∀ (n : Nat) (s s1 : Zs), az_sI 0 a a0 d0 w0 f0 sl s → az_fac B n s = .inr s1 → az_sI 1 a a0 d0 w0 f0 sl s1 ∧ s.1 < s1.1
  | 0, s, s1, h, he => by cases he
  | n + 1, s, s1, h, he => by
    obtain ⟨ops, h1, h2, h3, h4, h5, h6, h8, h7⟩ := id h
    obtain ⟨k1, k2, k3, k4, k5, k6⟩ := id h6
    have hb := hB s.1
    simp only [az_fac] at he
    split at he
    · next h91 =>
      have hp : s.1 < 240 := by
        refine Decidable.byContradiction (fun q => ?_)
        have := hb.2.2 (by omega); omega
      cases ho : az_open 14 s with
      | inl e => rw [ho] at he; cases he
      | inr s2 =>
        rw [ho] at he
        obtain ⟨o1, o2⟩ := az_open_s (.inr (.inr rfl)) h6 hp ho
        obtain ⟨r1, r2⟩ := az_fac_s hB hd n s2 s1 ⟨14680064 :: ops, by rw [o2]; dsimp only; rw [h1]; rfl, fun x hx => by rcases List.mem_cons.mp hx with rfl | hx; exact .inr rfl; exact h2 x hx, by rw [o2]; dsimp only; rw [h3]; simp only [az_bin]; rw [if_neg (by decide)]; omega, by rw [o2]; exact h4, by rw [o2]; exact h5, o1, by rw [o2]; exact h8, by rw [o2]; exact h7⟩ he
        rw [o2] at r2
        exact ⟨r1, by dsimp only at r2; omega⟩
    · split at he
      · next h91 hdg =>
        have hp : s.1 < 240 := by
          refine Decidable.byContradiction (fun q => ?_)
          have := hb.2.2 (by omega); omega
        cases hn : az_num B 5 s.1 0 with
        | inl e => rw [hn] at he; cases he
        | inr q =>
          rw [hn] at he
          cases he
          obtain ⟨q1, q2, q3, q4, q5⟩ := az_num_s hB 5 s.1 0 q 100000 (by decide) (by decide) hn
          have q6 := q3 hdg (by decide)
          obtain ⟨n1, n2⟩ := az_lc_note h4 h5 (x := q.2) ⟨by omega, by omega⟩ (by omega) (by omega) (by omega) (by omega) (by omega)
          rw [show q.2 / 1048576 = 0 by omega] at n2
          refine ⟨⟨ops, h1, h2, ?_, n1, by dsimp only; omega, ⟨⟨by dsimp only; omega, by dsimp only; omega⟩, by dsimp only; omega, by dsimp only; omega, k4, k5, az_row_su k6 _ ⟨by omega, by omega⟩⟩, by dsimp only; omega, fun j hj => ?_⟩, q6⟩
          · dsimp only
            rw [n2, h3]
            first | (rw [show az_eff 0 = 1 from rfl]; omega) | (rw [show az_eff 1 = 1 from rfl]; omega)
          · dsimp only; simp only [su]; rw [if_neg (by omega)]; exact h7 j hj
      · split at he
        · cases he
        · next h91 hdg hlt =>
          cases he
          have hl := az_letter_in hlt
          have hp : s.1 < 240 := by
            refine Decidable.byContradiction (fun q => ?_)
            have := hb.2.2 (by omega); omega
          obtain ⟨n1, n2⟩ := az_lc_note h4 h5 (x := 1048576 + lp_letter (B s.1)) ⟨by omega, by omega⟩ (by omega) (by omega) (by omega) (by omega) (by omega)
          rw [show (1048576 + lp_letter (B s.1)) / 1048576 = 1 by omega] at n2
          refine ⟨⟨ops, h1, h2, ?_, n1, by dsimp only; omega, ⟨⟨by dsimp only; omega, by dsimp only; omega⟩, by dsimp only; omega, by dsimp only; omega, k4, k5, az_row_su k6 _ ⟨by omega, by omega⟩⟩, by dsimp only; omega, fun j hj => ?_⟩, by dsimp only; omega⟩
          · dsimp only
            rw [n2, h3]
            first | (rw [show az_eff 0 = 1 from rfl]; omega) | (rw [show az_eff 1 = 1 from rfl]; omega)
          · dsimp only; simp only [su]; rw [if_neg (by omega)]; exact h7 j hj
theorem az_sgn_in {c : Int} (h : az_sgn c ≠ -1) : 2 ≤ az_sgn c ∧ az_sgn c ≤ 6 ∧ 0 ≤ c := by
  unfold az_sgn at h ⊢
  repeat' split
  all_goals first | omega | (exfalso; apply h; repeat' split; all_goals omega)
theorem az_sum_s {B : Int → Int} (hB : az_by B) {a a0 : Nat} {d0 : Int} (hd : 0 ≤ d0) {w0 : List Int} (hh : az_hd w0) {f0 : Nat → Int} {sl : Nat} : ∀ (n : Nat) (s s1 : Zs), az_sI 1 a a0 d0 w0 f0 sl s → az_sum B w0.length n s = .inr s1 → az_sI 1 a a0 d0 w0 f0 sl s1 ∧ s1.2.2.2.1 = w0 ∧ s.1 ≤ s1.1
  | 0, s, s1, h, he => by cases he
  | n + 1, s, s1, h, he => by
    obtain ⟨ops, h1, h2, h3, h4, h5, h6, h8, h7⟩ := id h
    obtain ⟨k1, k2, k3, k4, k5, k6⟩ := id h6
    rw [h1, az_cnt_a] at k2
    rw [h1, az_cno_a] at k4
    rw [h1, List.length_append] at k3
    have hb := hB s.1
    have cl := fun all => az_close_s all hd hh ops s.2.1 s.2.2.1 h2 h3 h4 h5 (by omega) k6
    rw [← h1] at cl
    simp only [az_sum] at he
    by_cases hs : az_sgn (B s.1) ≠ -1
    · rw [if_pos hs] at he
      have hsg := az_sgn_in hs
      have hp : s.1 < 240 := by
        refine Decidable.byContradiction (fun q => ?_)
        have := hb.2.2 (by omega); omega
      obtain ⟨ops', r1, r2, r3, r4, r5, r6, r7, r8, r9, r10, r11, r12⟩ := cl (decide (az_sgn (B s.1) < 4))
      revert he r1 r3 r4 r5 r6 r9 r10
      generalize az_close (decide (az_sgn (B s.1) < 4)) s.2.2.2.1 s.2.1 s.2.2.1 = c
      intro he r1 r3 r4 r5 r6 r9 r10
      have hent : ∀ x, x ∈ (1048576 * az_sgn (B s.1)) :: c.1 → az_ent x := fun x hx => by
        rcases List.mem_cons.mp hx with rfl | hx
        · exact ⟨by omega, by omega, by omega⟩
        · rw [r1] at hx
          refine k5 x ?_
          rw [h1]
          rcases List.mem_append.mp hx with hx | hx
          · exact List.mem_append_left _ (r2 x hx)
          · exact List.mem_append_right _ hx
      have hI : az_sI 0 a a0 d0 w0 f0 sl (s.1 + 1, c.2.1, c.2.2, (1048576 * az_sgn (B s.1)) :: c.1, s.2.2.2.2) := by
        refine ⟨(1048576 * az_sgn (B s.1)) :: ops', by dsimp only; rw [r1]; rfl, fun x hx => ?_, ?_, r4, by dsimp only; omega, ⟨⟨by dsimp only; omega, by dsimp only; omega⟩, ?_, ?_, ⟨?_, by dsimp only; omega⟩, hent, r9⟩, by dsimp only; omega, fun j hj => by dsimp only; rw [r10 j (by omega)]; exact h7 j hj⟩
        · rcases List.mem_cons.mp hx with rfl | hx
          · left; omega
          · exact h2 x (r2 x hx)
        · dsimp only
          rw [r3]
          simp only [az_bin]
          rw [if_pos (by omega)]
          omega
        · dsimp only
          rw [r1]
          simp only [az_cnt]
          rw [if_pos (by omega), az_cnt_a]
          omega
        · dsimp only
          rw [r1, List.length_cons, List.length_append]
          omega
        · dsimp only
          rw [r1]
          simp only [az_cno]
          rw [if_neg (by omega), az_cno_a]
          omega
      cases hf : az_fac B 8 (s.1 + 1, c.2.1, c.2.2, (1048576 * az_sgn (B s.1)) :: c.1, s.2.2.2.2) with
      | inl e => rw [hf] at he; cases he
      | inr s2 =>
        rw [hf] at he
        obtain ⟨f1, f2⟩ := az_fac_s hB hd 8 _ _ hI hf
        obtain ⟨g1, g2, g3⟩ := az_sum_s hB hd hh n s2 s1 f1 he
        exact ⟨g1, g2, by dsimp only at f2; omega⟩
    · rw [if_neg hs] at he
      by_cases hc : B s.1 = 93 ∧ az_has (s.2.2.2.1.length - w0.length) s.2.2.2.1 = true
      · rw [if_pos hc] at he
        have hp : s.1 < 240 := by
          refine Decidable.byContradiction (fun q => ?_)
          have := hb.2.2 (by omega); omega
        obtain ⟨ops', r1, r2, r3, r4, r5, r6, r7, r8, r9, r10, r11, r12⟩ := cl true
        have h14 := hc.2
        rw [h1, az_has_a] at h14
        have hne := r12 h14
        revert he r1 r3 r4 r5 r6 r9 r10
        generalize az_close true s.2.2.2.1 s.2.1 s.2.2.1 = c
        intro he r1 r3 r4 r5 r6 r9 r10
        cases hop : ops' with
        | nil => exact absurd hop hne
        | cons x r =>
          have hx := r11 rfl x r hop
          subst hop
          have et : c.1.tail = r ++ w0 := by rw [r1]; rfl
          simp only [az_bin, az_cnt, az_cno, List.length_cons] at r3 r6 r7 r8
          rw [if_neg (by omega)] at r3 r6
          rw [if_pos (by omega)] at r7
          have hI : az_sI 1 a a0 d0 w0 f0 sl (s.1 + 1, c.2.1, c.2.2, c.1.tail, s.2.2.2.2 - 1) := by
            refine ⟨r, et, fun y hy => h2 y (r2 y (List.mem_cons_of_mem _ hy)), by dsimp only; omega, r4, by dsimp only; omega, ⟨⟨by dsimp only; omega, by dsimp only; omega⟩, ?_, ?_, ⟨?_, by dsimp only; omega⟩, fun y hy => ?_, r9⟩, by dsimp only; omega, fun j hj => by dsimp only; rw [r10 j (by omega)]; exact h7 j hj⟩
            · dsimp only; rw [et, az_cnt_a]; omega
            · dsimp only; rw [et, List.length_append]; omega
            · dsimp only; rw [et, az_cno_a]; omega
            · dsimp only at hy
              rw [et] at hy
              refine k5 y ?_
              rw [h1]
              rcases List.mem_append.mp hy with hy | hy
              · exact List.mem_append_left _ (r2 y (List.mem_cons_of_mem _ hy))
              · exact List.mem_append_right _ hy
          obtain ⟨g1, g2, g3⟩ := az_sum_s hB hd hh n _ s1 hI he
          exact ⟨g1, g2, by dsimp only at g3; omega⟩
      · rw [if_neg hc] at he
        by_cases hn : az_has (s.2.2.2.1.length - w0.length) s.2.2.2.1 = true
        · rw [if_pos hn] at he; cases he
        · rw [if_neg hn] at he
          have hno : ¬ ∃ x, x ∈ ops ∧ x / 1048576 = 14 := fun q => hn (by rw [h1, az_has_a]; exact q)
          obtain ⟨ops', r1, r2, r3, r4, r5, r6, r7, r8, r9, r10, r11, r12⟩ := cl true
          have he0 : ops' = [] := by
            cases hop : ops' with
            | nil => rfl
            | cons x r => exact absurd ⟨x, r2 x (by rw [hop]; exact List.mem_cons_self), r11 rfl x r hop⟩ hno
          subst he0
          cases he
          refine ⟨⟨[], r1, (fun x hx => by cases hx), r3, r4, by dsimp only; omega, ⟨k1, ?_, ?_, ⟨?_, k4.2⟩, fun y hy => ?_, r9⟩, by dsimp only; omega, fun j hj => by dsimp only; rw [r10 j (by omega)]; exact h7 j hj⟩, r1, Int.le_refl _⟩
          · dsimp only; rw [r1, az_cnt_a]; omega
          · dsimp only; rw [r1, List.length_append]; omega
          · dsimp only; rw [r1, az_cno_a]; omega
          · dsimp only at hy
            rw [r1] at hy
            refine k5 y ?_
            rw [h1]
            exact List.mem_append_right _ (by simpa using hy)
/-- a sum, from the first sign on -/
theorem az_rs_s {B : Int → Int} (hB : az_by B) {a a0 : Nat} {d0 : Int} (hd : 0 ≤ d0) {f0 : Nat → Int} {sl : Nat} {s s1 : Zs} (hh : az_hd s.2.2.2.1) (hdep : az_dep s.2.2.1 a s.2.1 = d0) (hl : az_lc s.2.2.1 a s.2.1 s.2.2.2.1) (ha : a ≤ s.2.1) (hok : az_ok sl s) (h8 : a0 ≤ s.2.1) (h0 : ∀ j, j < a0 → s.2.2.1 j = f0 j) (he : az_rs B s = .inr s1) : s1.2.2.2.1 = s.2.2.2.1 ∧ az_dep s1.2.2.1 a s1.2.1 = d0 + 1 ∧ az_lc s1.2.2.1 a s1.2.1 s.2.2.2.1 ∧ a ≤ s1.2.1 ∧ az_ok sl s1 ∧ (a0 ≤ s1.2.1 ∧ ∀ j, j < a0 → s1.2.2.1 j = f0 j) ∧ s.1 < s1.1 := by
  unfold az_rs at he
  cases hf : az_fac B 8 s with
  | inl e => rw [hf] at he; cases he
  | inr s2 =>
    rw [hf] at he
    obtain ⟨f1, f2⟩ := az_fac_s hB hd 8 s s2 (w0 := s.2.2.2.1) (f0 := f0) (sl := sl) ⟨[], rfl, (fun x hx => by cases hx), by rw [hdep]; simp [az_bin], hl, ha, hok, h8, h0⟩ hf
    obtain ⟨⟨ops, g1, g2, g3, g4, g5, g6, g7⟩, g8, g9⟩ := az_sum_s hB hd hh 250 s2 s1 f1 he
    have : ops = [] := by
      rw [g8] at g1
      have := congrArg List.length g1
      simp at this
      exact this
    subst this
    refine ⟨g8, by rw [g3]; simp [az_bin], g4, g5, g6, g7, by omega⟩
/-! the model's law as it is read: conditions -/
/-- what waits in a condition -/
def az_E1 (w : List Int) : Prop := ∀ x, x ∈ w → x / 1048576 = 10 ∨ x / 1048576 = 11 ∨ x / 1048576 = 12 ∨ x / 1048576 = 13
def az_E2 (a m : Nat) (f : Nat → Int) (w : List Int) : Prop := ∀ x, x ∈ w → (x / 1048576 = 11 ∨ x / 1048576 = 12) → a ≤ (x % 1048576).toNat ∧ (x % 1048576).toNat < m ∧ f (x % 1048576).toNat / 1048576 = x / 1048576 ∧ az_dep f a (x % 1048576).toNat = 1
def az_lst (w : List Int) : Prop := ∃ w', w = w' ++ [13631488]
abbrev az_rows (f : Nat → Int) : Prop := ∀ j : Nat, j < 260 → 0 ≤ f j ∧ f j < 13631488
theorem az_E1_t {x : Int} {w : List Int} (h : az_E1 (x :: w)) : az_E1 w := fun y hy => h y (List.mem_cons_of_mem _ hy)
theorem az_E2_t {a m : Nat} {f : Nat → Int} {x : Int} {w : List Int} (h : az_E2 a m f (x :: w)) : az_E2 a m f w := fun y hy => h y (List.mem_cons_of_mem _ hy)
theorem az_lst_t {x : Int} {w : List Int} (h : az_lst (x :: w)) (hx : x ≠ 13631488) : az_lst w := by
  obtain ⟨w', hw⟩ := h
  cases w' with
  | nil => simp at hw; exact absurd hw.1 hx
  | cons y w' => simp at hw; exact ⟨w', hw.2⟩
theorem az_E2_su {a m : Nat} {f : Nat → Int} {w : List Int} (h : az_E2 a m f w) (v : Int) : az_E2 a (m + 1) (su f m v) w := fun x hx ho => by
  obtain ⟨h1, h2, h3, h4⟩ := h x hx ho
  refine ⟨h1, by omega, ?_, by rw [az_dep_su f a m v _ (by omega)]; exact h4⟩
  simp only [su]
  rw [if_neg (by omega)]
  exact h3
theorem az_hd_E1 {w : List Int} (h : az_E1 w) : az_hd w := fun x hx => by
  cases w with
  | nil => cases hx
  | cons y w =>
    simp at hx
    subst hx
    have := h y List.mem_cons_self
    omega
theorem az_ends_s {a : Nat} : ∀ (w : List Int) (m : Nat) (f : Nat → Int) (o : Int), az_E1 w → az_E2 a m f w → az_dep f a m = 1 → az_lc f a m w → a ≤ m → m + az_cnt w ≤ 250 → az_rows f → o = az_cno w → az_lst w →
    az_E1 (az_ends w m f o).1 ∧ az_E2 a (az_ends w m f o).2.1 (az_ends w m f o).2.2.1 (az_ends w m f o).1 ∧ az_dep (az_ends w m f o).2.2.1 a (az_ends w m f o).2.1 = 1 ∧ az_lc (az_ends w m f o).2.2.1 a (az_ends w m f o).2.1 (az_ends w m f o).1 ∧ m ≤ (az_ends w m f o).2.1 ∧ (az_ends w m f o).2.1 + az_cnt (az_ends w m f o).1 = m + az_cnt w ∧ az_rows (az_ends w m f o).2.2.1 ∧ (az_ends w m f o).2.2.2 = az_cno (az_ends w m f o).1 ∧ (az_ends w m f o).2.2.2 ≤ o ∧ az_lst (az_ends w m f o).1 ∧ (az_ends w m f o).1.length ≤ w.length ∧ (∀ x, x ∈ (az_ends w m f o).1 → x ∈ w) ∧ (∀ j, j < m → (az_ends w m f o).2.2.1 j = f j)
  | [], m, f, o, h1, h2, h3, h4, h5, h6, h7, h8, h9 => by
    obtain ⟨w', hw⟩ := h9
    simp at hw
  | x :: w, m, f, o, h1, h2, h3, h4, h5, h6, h7, h8, h9 => by
    by_cases hx : x / 1048576 = 10
    · have e : az_ends (x :: w) m f o = az_ends w (m + 1) (su f m 10485760) (o - 1) := by simp only [az_ends]; rw [if_pos hx]
      simp only [az_cnt, az_cno] at h6 h8
      rw [if_pos (by omega)] at h6 h8
      have hlw : az_lc f a m w := az_lc_w h4 (fun k ⟨y, hy, hy2, hy3⟩ => by
        rcases List.mem_cons.mp hy with rfl | hy
        · omega
        · exact ⟨y, hy, hy2, hy3⟩)
      obtain ⟨n1, n2⟩ := az_lc_note hlw h5 (x := 10485760) (by decide) (by omega) (by decide) (by omega) (by omega) (by omega)
      obtain ⟨r1, r2, r3, r4, r5, r6, r7, r8, r9, r10, r11, r12, r13⟩ := az_ends_s w (m + 1) (su f m 10485760) (o - 1) (az_E1_t h1) (az_E2_su (az_E2_t h2) _) (by rw [n2, h3]; rfl) n1 (by omega) (by omega) (az_row_su h7 m (by decide)) (by omega) (az_lst_t h9 (by omega))
      rw [e]
      refine ⟨r1, r2, r3, r4, by omega, ?_, r7, r8, by omega, r10, by simp only [List.length_cons]; omega, fun y hy => List.mem_cons_of_mem _ (r12 y hy), fun j hj => ?_⟩
      · simp only [az_cnt]; rw [if_pos (by omega)]; omega
      · rw [r13 j (by omega)]; simp only [su]; rw [if_neg (by omega)]
    · have e : az_ends (x :: w) m f o = (x :: w, m, f, o) := by simp only [az_ends]; rw [if_neg hx]
      rw [e]
      exact ⟨h1, h2, h3, h4, Nat.le_refl _, rfl, h7, h8, Int.le_refl _, h9, Nat.le_refl _, fun y hy => hy, fun _ _ => rfl⟩
theorem az_land_s (all : Bool) {a : Nat} {m : Nat} (hm : m < 260) : ∀ (w : List Int) (f : Nat → Int), az_E1 w → az_E2 a m f w → az_dep f a m = 1 → az_lc f a m w → az_rows f → az_lst w → (∀ x, x ∈ w → az_ent x) →
    az_E1 (az_land all w m f).1 ∧ az_E2 a m (az_land all w m f).2 (az_land all w m f).1 ∧ az_dep (az_land all w m f).2 a m = 1 ∧ az_lc (az_land all w m f).2 a m (az_land all w m f).1 ∧ az_cnt (az_land all w m f).1 = az_cnt w ∧ az_rows (az_land all w m f).2 ∧ az_cno (az_land all w m f).1 = az_cno w ∧ az_lst (az_land all w m f).1 ∧ (az_land all w m f).1.length ≤ w.length ∧ (∀ x, x ∈ (az_land all w m f).1 → x ∈ w) ∧ (∀ j, j < a → (az_land all w m f).2 j = f j) ∧ (∀ j, (az_land all w m f).2 j / 1048576 = f j / 1048576) ∧ (all = true → ∀ x r, (az_land all w m f).1 = x :: r → x / 1048576 = 10 ∨ x / 1048576 = 13)
  | [], f, h1, h2, h3, h4, h5, h6, h7 => by
    obtain ⟨w', hw⟩ := h6
    simp at hw
  | x :: w, f, h1, h2, h3, h4, h5, h6, h7 => by
    by_cases hx : x / 1048576 = 11 ∨ (all = true ∧ x / 1048576 = 12)
    · have e : az_land all (x :: w) m f = az_land all w m (su f (x % 1048576).toNat (1048576 * (f (x % 1048576).toNat / 1048576) + m)) := by simp only [az_land]; rw [if_pos hx]
      obtain ⟨p1, p2, p3, p4⟩ := h2 x List.mem_cons_self (by omega)
      obtain ⟨t1, t2, t3⟩ := h7 x List.mem_cons_self
      generalize hpos : (x % 1048576).toNat = pos at e p1 p2 p3 p4
      have hrow := h5 pos (by omega)
      have sg : ∀ j, su f pos (1048576 * (f pos / 1048576) + m) j / 1048576 = f j / 1048576 := fun j => by
        simp only [su]
        split
        · next hj => rw [hj]; omega
        · rfl
      have dp : ∀ k, az_dep (su f pos (1048576 * (f pos / 1048576) + m)) a k = az_dep f a k := fun k => az_dep_eq k (fun j _ => sg j)
      have hE2 : az_E2 a m (su f pos (1048576 * (f pos / 1048576) + m)) w := fun y hy ho => by
        obtain ⟨q1, q2, q3, q4⟩ := h2 y (List.mem_cons_of_mem _ hy) ho
        exact ⟨q1, q2, by rw [sg]; exact q3, by rw [dp]; exact q4⟩
      have hl : az_lc (su f pos (1048576 * (f pos / 1048576) + m)) a m w := fun k k1 k2 => by
        obtain ⟨c0, c1, c2, c3, c4⟩ := h4 k k1 k2
        by_cases hk : k = pos
        · subst hk
          have ev : su f k (1048576 * (f k / 1048576) + m) k = 1048576 * (f k / 1048576) + m := by simp [su]
          unfold az_okc
          rw [sg, dp, ev]
          refine ⟨⟨by omega, by omega, c0.2.2⟩, by omega, by omega, fun _ => ⟨by omega, .inr ⟨by omega, by omega, ?_⟩⟩, by omega⟩
          rw [show ((1048576 * (f k / 1048576) + m) % 1048576).toNat = m by omega, dp, h3, p4]
        · have ev : su f pos (1048576 * (f pos / 1048576) + m) k = f k := by simp [su, hk]
          unfold az_okc
          rw [dp, ev]
          refine ⟨c0, c1, c2, fun q => ⟨(c3 q).1, ?_⟩, c4⟩
          rcases (c3 q).2 with ⟨y, hy, hy2, hy3⟩ | ⟨q1, q2, q3⟩
          · left
            rcases List.mem_cons.mp hy with rfl | hy
            · exact absurd (by omega) hk
            · exact ⟨y, hy, hy2, hy3⟩
          · exact .inr ⟨q1, q2, by rw [dp]; exact q3⟩
      obtain ⟨r1, r2, r3, r4, r5, r6, r7, r8, r9, r10, r11, r12, r13⟩ := az_land_s all hm w _ (az_E1_t h1) hE2 (by rw [dp]; exact h3) hl (az_row_su h5 pos ⟨by omega, by omega⟩) (az_lst_t h6 (by omega)) (fun y hy => h7 y (List.mem_cons_of_mem _ hy))
      rw [e]
      refine ⟨r1, r2, r3, r4, ?_, r6, ?_, r8, by simp only [List.length_cons]; omega, fun y hy => List.mem_cons_of_mem _ (r10 y hy), fun j hj => ?_, fun j => by rw [r12, sg], r13⟩
      · rw [r5]; simp only [az_cnt]; rw [if_neg (by omega)]; omega
      · rw [r7]; simp only [az_cno]; rw [if_neg (by omega)]; omega
      · rw [r11 j hj]; simp only [su]; rw [if_neg (by omega)]
    · have e : az_land all (x :: w) m f = (x :: w, f) := by simp only [az_land]; rw [if_neg hx]
      rw [e]
      refine ⟨h1, h2, h3, h4, rfl, h5, rfl, h6, Nat.le_refl _, fun y hy => hy, fun _ _ => rfl, fun _ => rfl, fun hall y r h => ?_⟩
      obtain ⟨rfl, -⟩ := List.cons.inj h
      have := h1 x List.mem_cons_self
      simp only [hall, true_and] at hx
      omega
/-- a condition is read: ahead of a piece (b = 0), behind one (b = 1) -/
def az_cI (b : Int) (a : Nat) (f0 : Nat → Int) (s : Zs) : Prop :=
  az_E1 s.2.2.2.1 ∧ az_E2 a s.2.1 s.2.2.1 s.2.2.2.1 ∧ az_lst s.2.2.2.1 ∧ az_dep s.2.2.1 a s.2.1 = b ∧ az_lc s.2.2.1 a s.2.1 s.2.2.2.1 ∧ a ≤ s.2.1 ∧ az_ok 0 s ∧ ∀ j, j < a → s.2.2.1 j = f0 j
theorem az_how_in {c : Int} (h : az_how c ≠ -1) : 7 ≤ az_how c ∧ az_how c ≤ 9 ∧ 0 ≤ c := by
  unfold az_how at h ⊢
  repeat' split
  all_goals first | omega | (exfalso; apply h; repeat' split; all_goals omega)
theorem az_cmp_s {B : Int → Int} (hB : az_by B) {a : Nat} {f0 : Nat → Int} {s s1 : Zs} (h : az_cI 0 a f0 s) (he : az_cmp B s = .inr s1) : az_cI 1 a f0 s1 ∧ s.1 < s1.1 := by
  obtain ⟨h1, h2, h3, h4, h5, h6, h7, h8⟩ := h
  unfold az_cmp at he
  cases e1 : az_rs B s with
  | inl e => rw [e1] at he; cases he
  | inr s2 =>
    rw [e1] at he
    dsimp only at he
    obtain ⟨r1, r2, r3, r4, r5, ⟨r6, r7⟩, r8⟩ := az_rs_s hB (Int.le_refl 0) (a0 := s.2.1) (f0 := s.2.2.1) (az_hd_E1 h1) h4 h5 h6 h7 (Nat.le_refl _) (fun _ _ => rfl) e1
    by_cases hw : az_how (B s2.1) = -1
    · rw [if_pos hw] at he; cases he
    · rw [if_neg hw] at he
      have hh := az_how_in hw
      have hp : s2.1 < 240 := by
        refine Decidable.byContradiction (fun q => ?_)
        have := (hB s2.1).2.2 (by omega); omega
      obtain ⟨k1, k2, k3, k4, k5, k6⟩ := id r5
      cases e2 : az_rs B (s2.1 + 1, s2.2.1, s2.2.2.1, s2.2.2.2.1, s2.2.2.2.2) with
      | inl e => rw [e2] at he; cases he
      | inr s3 =>
        rw [e2] at he
        cases he
        obtain ⟨q1, q2, q3, q4, q5, ⟨q6, q7⟩, q8⟩ := az_rs_s hB (d0 := 1) (by decide) (a0 := s2.2.1) (f0 := s2.2.2.1) (sl := 1) (s := (s2.1 + 1, s2.2.1, s2.2.2.1, s2.2.2.2.1, s2.2.2.2.2)) (by dsimp only; rw [r1]; exact az_hd_E1 h1) (by dsimp only; omega) (by dsimp only; rw [r1]; exact r3) r4 ⟨⟨by dsimp only; omega, by dsimp only; omega⟩, by dsimp only; omega, by dsimp only; omega, k4, k5, k6⟩ (Nat.le_refl _) (fun _ _ => rfl) e2
        dsimp only at q1 q3 q4 q6 q7 q8
        rw [r1] at q1 q3
        obtain ⟨m1, m2, m3, m4, m5, m6⟩ := q5
        rw [q1] at m2 m3 m4 m5
        have hE2 : az_E2 a s3.2.1 s3.2.2.1 s.2.2.2.1 := fun x hx ho => by
          obtain ⟨c1, c2, c3, c4⟩ := h2 x hx ho
          refine ⟨c1, by omega, ?_, ?_⟩
          · rw [q7 _ (by omega), r7 _ c2]; exact c3
          · rw [az_dep_eq (g := s.2.2.1) _ (fun j hj => by rw [q7 j (by omega), r7 j (by omega)])]; exact c4
        obtain ⟨n1, n2⟩ := az_lc_note q3 q4 (x := 1048576 * az_how (B s2.1)) ⟨by omega, by omega⟩ (by omega) (by omega) (by omega) (by omega) (by omega)
        have ee : az_eff (1048576 * az_how (B s2.1) / 1048576) = -1 := by unfold az_eff; rw [if_neg (by omega), if_neg (by omega)]
        rw [ee] at n2
        obtain ⟨g1, g2, g3, g4, g5, g6, g7, g8, g9, g10, g11, g12, g13⟩ := az_ends_s (a := a) s.2.2.2.1 (s3.2.1 + 1) (su s3.2.2.1 s3.2.1 (1048576 * az_how (B s2.1))) s3.2.2.2.2 h1 (az_E2_su hE2 _) (by omega) n1 (by omega) (by omega) (az_row_su m6 _ ⟨by omega, by omega⟩) m4.1 h3
        unfold az_cmp2
        rw [q1]
        refine ⟨⟨g1, g2, g10, g3, g4, by dsimp only; omega, ⟨m1, by dsimp only; omega, by dsimp only; omega, ⟨g8, by dsimp only; omega⟩, fun x hx => m5 x (g12 x hx), g7⟩, fun j hj => ?_⟩, by dsimp only; omega⟩
        dsimp only
        rw [g13 j (by omega)]
        simp only [su]
        rw [if_neg (by omega), q7 j (by omega), r7 j (by omega)]
        exact h8 j hj
theorem az_jop_in (c : Int) : az_jop c = 11 ∨ az_jop c = 12 := by
  unfold az_jop
  split
  · exact .inl rfl
  · exact .inr rfl
theorem az_cond_s {B : Int → Int} (hB : az_by B) {a : Nat} {f0 : Nat → Int} : ∀ (n : Nat) (b : Bool) (s s1 : Zs), az_cI (if b = true then 0 else 1) a f0 s → az_cond B n b s = .inr s1 → s1.2.2.2.1 = [] ∧ az_dep s1.2.2.1 a s1.2.1 = 1 ∧ az_lc s1.2.2.1 a s1.2.1 [] ∧ a ≤ s1.2.1 ∧ (∀ j, j < a → s1.2.2.1 j = f0 j) ∧ ((0 ≤ s1.1 ∧ s1.1 ≤ 240) ∧ (s1.2.1 : Int) ≤ s1.1 ∧ az_rows s1.2.2.1) ∧ s.1 ≤ s1.1
  | 0, _, s, s1, h, he => by cases he
  | n + 1, true, s, s1, h, he => by
    obtain ⟨h1, h2, h3, h4, h5, h6, h7, h8⟩ := id h
    simp only [az_cond] at he
    by_cases hb : B s.1 = 33 ∨ B s.1 = 40
    · rw [if_pos hb] at he
      have hp : s.1 < 240 := by
        refine Decidable.byContradiction (fun q => ?_)
        have := (hB s.1).2.2 (by omega); omega
      cases e1 : az_open (if B s.1 = 33 then 10 else 13) s with
      | inl e => rw [e1] at he; cases he
      | inr s2 =>
        rw [e1] at he
        have hwh : (if B s.1 = 33 then (10 : Int) else 13) = 10 ∨ (if B s.1 = 33 then (10 : Int) else 13) = 13 := by split; exact .inl rfl; exact .inr rfl
        generalize (if B s.1 = 33 then (10 : Int) else 13) = wh at e1 hwh
        obtain ⟨o1, o2⟩ := az_open_s (by omega) h7 hp e1
        have hI : az_cI (if true = true then 0 else 1) a f0 s2 := by
          rw [o2]
          refine ⟨fun x hx => ?_, fun x hx ho => ?_, ?_, h4, az_lc_w h5 (fun k ⟨y, hy, hy2⟩ => ⟨y, List.mem_cons_of_mem _ hy, hy2⟩), h6, by rw [← o2]; exact o1, h8⟩
          · rcases List.mem_cons.mp hx with rfl | hx
            · omega
            · exact h1 x hx
          · rcases List.mem_cons.mp hx with rfl | hx
            · omega
            · exact h2 x hx ho
          · obtain ⟨w', hw⟩ := h3
            exact ⟨(1048576 * wh) :: w', by dsimp only; rw [hw]; rfl⟩
        obtain ⟨r1, r2, r3, r4, r5, r6, r7⟩ := az_cond_s hB n true s2 s1 hI he
        refine ⟨r1, r2, r3, r4, r5, r6, ?_⟩
        rw [o2] at r7
        dsimp only at r7
        omega
    · rw [if_neg hb] at he
      cases e1 : az_cmp B s with
      | inl e => rw [e1] at he; cases he
      | inr s2 =>
        rw [e1] at he
        obtain ⟨c1, c2⟩ := az_cmp_s hB h e1
        obtain ⟨r1, r2, r3, r4, r5, r6, r7⟩ := az_cond_s hB n false s2 s1 c1 he
        exact ⟨r1, r2, r3, r4, r5, r6, by omega⟩
  | n + 1, false, s, s1, h, he => by
    obtain ⟨h1, h2, h3, h4, h5, h6, h7, h8⟩ := id h
    obtain ⟨k1, k2, k3, k4, k5, k6⟩ := id h7
    have hm : s.2.1 < 260 := by omega
    simp only [az_cond] at he
    by_cases hb : B s.1 = 41
    · rw [if_pos hb] at he
      have hp : s.1 < 240 := by
        refine Decidable.byContradiction (fun q => ?_)
        have := (hB s.1).2.2 (by omega); omega
      obtain ⟨l1, l2, l3, l4, l5, l6, l7, l8, l9, l10, l11, l12, l13⟩ := az_land_s true hm s.2.2.2.1 s.2.2.1 h1 h2 h4 h5 k6 h3 k5
      unfold az_shut az_shut2 at he
      dsimp only at he
      revert he l1 l2 l3 l4 l5 l6 l7 l8 l9 l10 l11 l13
      generalize az_land true s.2.2.2.1 s.2.1 s.2.2.1 = c
      intro he l1 l2 l3 l4 l5 l6 l7 l8 l9 l10 l11 l13
      cases hc : c.1 with
      | nil =>
        obtain ⟨w', hw⟩ := l8
        rw [hc] at hw
        simp at hw
      | cons x r =>
        rw [hc] at l1 l2 l4 l5 l7 l8 l9 l10
        have hx := l13 rfl x r hc
        rw [hc, List.tail_cons] at he
        have lr : az_lc c.2 a s.2.1 r := az_lc_w l4 (fun k ⟨y, hy, hy2, hy3⟩ => by
          rcases List.mem_cons.mp hy with rfl | hy
          · omega
          · exact ⟨y, hy, hy2, hy3⟩)
        simp only [az_cnt, az_cno, List.length_cons] at l5 l7 l9
        rw [if_pos (by omega)] at l7
        by_cases hr : r = []
        · subst hr
          rw [if_pos rfl] at he
          cases he
          have hc5 : az_cnt ([] : List Int) = 0 := rfl
          refine ⟨rfl, l3, lr, h6, fun j hj => by dsimp only; rw [l11 j hj]; exact h8 j hj, ⟨⟨by dsimp only; omega, by dsimp only; omega⟩, by dsimp only; omega, l6⟩, by dsimp only; omega⟩
        · rw [if_neg hr] at he
          have lst : az_lst r := by
            obtain ⟨w', hw⟩ := l8
            cases w' with
            | nil => simp at hw; exact absurd hw.2 hr
            | cons y w' => simp at hw; exact ⟨w', hw.2⟩
          obtain ⟨g1, g2, g3, g4, g5, g6, g7, g8, g9, g10, g11, g12, g13⟩ := az_ends_s (a := a) r s.2.1 c.2 (s.2.2.2.2 - 1) (az_E1_t l1) (az_E2_t l2) l3 lr h6 (by omega) l6 (by omega) lst
          have hI : az_cI (if false = true then 0 else 1) a f0 (s.1 + 1, (az_ends r s.2.1 c.2 (s.2.2.2.2 - 1)).2.1, (az_ends r s.2.1 c.2 (s.2.2.2.2 - 1)).2.2.1, (az_ends r s.2.1 c.2 (s.2.2.2.2 - 1)).1, (az_ends r s.2.1 c.2 (s.2.2.2.2 - 1)).2.2.2) := by
            refine ⟨g1, g2, g10, g3, g4, by dsimp only; omega, ⟨⟨by dsimp only; omega, by dsimp only; omega⟩, by dsimp only; omega, by dsimp only; omega, ⟨g8, by dsimp only; omega⟩, fun y hy => k5 y (l10 y (List.mem_cons_of_mem _ (g12 y hy))), g7⟩, fun j hj => ?_⟩
            dsimp only
            rw [g13 j (by omega), l11 j hj]
            exact h8 j hj
          obtain ⟨r1, r2, r3, r4, r5, r6, r7⟩ := az_cond_s hB n false _ s1 hI he
          exact ⟨r1, r2, r3, r4, r5, r6, by dsimp only at r7; omega⟩
    · rw [if_neg hb] at he
      by_cases hb2 : B s.1 = 38 ∨ B s.1 = 124
      · rw [if_pos hb2] at he
        have hp : s.1 < 240 := by
          refine Decidable.byContradiction (fun q => ?_)
          have := (hB s.1).2.2 (by omega); omega
        obtain ⟨l1, l2, l3, l4, l5, l6, l7, l8, l9, l10, l11, l12, l13⟩ := az_land_s (decide (B s.1 = 124)) hm s.2.2.2.1 s.2.2.1 h1 h2 h4 h5 k6 h3 k5
        have hj := az_jop_in (B s.1)
        unfold az_jump at he
        revert he l1 l2 l3 l4 l5 l6 l7 l8 l9 l10 l11
        generalize az_land (decide (B s.1 = 124)) s.2.2.2.1 s.2.1 s.2.2.1 = c
        generalize az_jop (B s.1) = jo at hj
        intro he l1 l2 l3 l4 l5 l6 l7 l8 l9 l10 l11
        have lw : az_lc c.2 a s.2.1 ((1048576 * jo + s.2.1) :: c.1) := az_lc_w l4 (fun k ⟨y, hy, hy2⟩ => ⟨y, List.mem_cons_of_mem _ hy, hy2⟩)
        have hx1 : (1048576 * jo + (s.2.1 : Int)) / 1048576 = jo := by omega
        have hx2 : (1048576 * jo + (s.2.1 : Int)) % 1048576 = s.2.1 := by omega
        obtain ⟨n1, n2⟩ := az_lc_note lw h6 (x := 1048576 * jo) ⟨by omega, by omega⟩ (by omega) (by omega) (by omega) (fun _ => ⟨by omega, _, List.mem_cons_self, hx2, by rw [hx1]; exact hj⟩) (by omega)
        have ee : az_eff (1048576 * jo / 1048576) = -1 := by unfold az_eff; rw [if_neg (by omega), if_neg (by omega)]
        rw [ee] at n2
        have hI : az_cI (if true = true then 0 else 1) a f0 (s.1 + 1, s.2.1 + 1, su c.2 s.2.1 (1048576 * jo), (1048576 * jo + s.2.1) :: c.1, s.2.2.2.2) := by
          refine ⟨fun x hx => ?_, fun x hx ho => ?_, ?_, ?_, n1, by dsimp only; omega, ⟨⟨by dsimp only; omega, by dsimp only; omega⟩, ?_, ?_, ⟨?_, k4.2⟩, fun x hx => ?_, az_row_su l6 _ ⟨by omega, by omega⟩⟩, fun j hj => ?_⟩
          · rcases List.mem_cons.mp hx with rfl | hx
            · rw [hx1]; omega
            · exact l1 x hx
          · rcases List.mem_cons.mp hx with rfl | hx
            · rw [hx1, hx2]
              refine ⟨by (try dsimp only); omega, by (try dsimp only); omega, ?_, ?_⟩
              · rw [show ((s.2.1 : Nat) : Int).toNat = s.2.1 from rfl]
                dsimp only
                simp only [su, if_true]
                omega
              · rw [show ((s.2.1 : Nat) : Int).toNat = s.2.1 from rfl]
                dsimp only
                rw [az_dep_su _ _ _ _ _ (Nat.le_refl _)]
                exact l3
            · exact az_E2_su l2 _ x hx ho
          · obtain ⟨w', hw⟩ := l8
            exact ⟨(1048576 * jo + s.2.1) :: w', by dsimp only; rw [hw]; rfl⟩
          · dsimp only
            rw [n2, l3]
            rfl
          · dsimp only
            simp only [az_cnt]
            rw [if_neg (by omega), l5]
            omega
          · dsimp only
            simp only [List.length_cons]
            omega
          · dsimp only
            simp only [az_cno]
            rw [if_neg (by omega), l7]
            omega
          · rcases List.mem_cons.mp hx with rfl | hx
            · exact ⟨by omega, by omega, by rw [hx2]; omega⟩
            · exact k5 x (l10 x hx)
          · dsimp only
            simp only [su]
            rw [if_neg (by omega), l11 j hj]
            exact h8 j hj
        obtain ⟨r1, r2, r3, r4, r5, r6, r7⟩ := az_cond_s hB n true _ s1 hI he
        exact ⟨r1, r2, r3, r4, r5, r6, by dsimp only at r7; omega⟩
      · rw [if_neg hb2] at he; cases he
/-! the model's law as it is read: single steps -/

theorem az_sI_cl {a a0 : Nat} {d0 : Int} (hd : 0 ≤ d0) {w0 : List Int} (hh : az_hd w0) {f0 : Nat → Int} {sl : Nat} {s : Zs} (h : az_sI 1 a a0 d0 w0 f0 sl s) : s.2.1 + az_cnt s.2.2.2.1 ≤ 250 ∧ s.2.2.2.1.length ≤ 250 ∧ (0 ≤ s.1 ∧ s.1 ≤ 240) ∧ (∀ x, x ∈ s.2.2.2.1 → az_ent x) := by
  obtain ⟨ops, h1, h2, h3, h4, h5, h6, h8, h7⟩ := id h
  obtain ⟨k1, k2, k3, k4, k5, k6⟩ := id h6
  exact ⟨by omega, by omega, k1, k5⟩
def az_sg (g : Int) (s : Zs) : Zs := (s.1 + 1, (az_close (decide (g < 4)) s.2.2.2.1 s.2.1 s.2.2.1).2.1, (az_close (decide (g < 4)) s.2.2.2.1 s.2.1 s.2.2.1).2.2, (1048576 * g) :: (az_close (decide (g < 4)) s.2.2.2.1 s.2.1 s.2.2.1).1, s.2.2.2.2)
theorem az_sg_s {B : Int → Int} (hB : az_by B) {a a0 : Nat} {d0 : Int} (hd : 0 ≤ d0) {w0 : List Int} (hh : az_hd w0) {f0 : Nat → Int} {sl : Nat} {s : Zs} (h : az_sI 1 a a0 d0 w0 f0 sl s) (hs : az_sgn (B s.1) ≠ -1) : az_sI 0 a a0 d0 w0 f0 sl (az_sg (az_sgn (B s.1)) s) := by
  obtain ⟨ops, h1, h2, h3, h4, h5, h6, h8, h7⟩ := id h
  obtain ⟨k1, k2, k3, k4, k5, k6⟩ := id h6
  rw [h1, az_cnt_a] at k2
  rw [h1, az_cno_a] at k4
  rw [h1, List.length_append] at k3
  have hb := hB s.1
  have cl := fun all => az_close_s all hd hh ops s.2.1 s.2.2.1 h2 h3 h4 h5 (by omega) k6
  rw [← h1] at cl
  have hsg := az_sgn_in hs
  have hp : s.1 < 240 := by
    refine Decidable.byContradiction (fun q => ?_)
    have := hb.2.2 (by omega); omega
  obtain ⟨ops', r1, r2, r3, r4, r5, r6, r7, r8, r9, r10, r11, r12⟩ := cl (decide (az_sgn (B s.1) < 4))
  unfold az_sg
  revert r1 r3 r4 r5 r6 r9 r10
  generalize az_close (decide (az_sgn (B s.1) < 4)) s.2.2.2.1 s.2.1 s.2.2.1 = c
  intro r1 r3 r4 r5 r6 r9 r10
  have hent : ∀ x, x ∈ (1048576 * az_sgn (B s.1)) :: c.1 → az_ent x := fun x hx => by
    rcases List.mem_cons.mp hx with rfl | hx
    · exact ⟨by omega, by omega, by omega⟩
    · rw [r1] at hx
      refine k5 x ?_
      rw [h1]
      rcases List.mem_append.mp hx with hx | hx
      · exact List.mem_append_left _ (r2 x hx)
      · exact List.mem_append_right _ hx
  refine ⟨(1048576 * az_sgn (B s.1)) :: ops', by dsimp only; rw [r1]; rfl, fun x hx => ?_, ?_, r4, by dsimp only; omega, ⟨⟨by dsimp only; omega, by dsimp only; omega⟩, ?_, ?_, ⟨?_, by dsimp only; omega⟩, hent, r9⟩, by dsimp only; omega, fun j hj => by dsimp only; rw [r10 j (by omega)]; exact h7 j hj⟩
  · rcases List.mem_cons.mp hx with rfl | hx
    · left; omega
    · exact h2 x (r2 x hx)
  · dsimp only
    rw [r3]
    simp only [az_bin]
    rw [if_pos (by omega)]
    omega
  · dsimp only
    rw [r1]
    simp only [az_cnt]
    rw [if_pos (by omega), az_cnt_a]
    omega
  · dsimp only
    rw [r1, List.length_cons, List.length_append]
    omega
  · dsimp only
    rw [r1]
    simp only [az_cno]
    rw [if_neg (by omega), az_cno_a]
    omega

def az_bk (s : Zs) : Zs := (s.1 + 1, (az_close true s.2.2.2.1 s.2.1 s.2.2.1).2.1, (az_close true s.2.2.2.1 s.2.1 s.2.2.1).2.2, (az_close true s.2.2.2.1 s.2.1 s.2.2.1).1.tail, s.2.2.2.2 - 1)
theorem az_bk_s {B : Int → Int} (hB : az_by B) {a a0 : Nat} {d0 : Int} (hd : 0 ≤ d0) {w0 : List Int} (hh : az_hd w0) {f0 : Nat → Int} {sl : Nat} {s : Zs} (h : az_sI 1 a a0 d0 w0 f0 sl s) (hc : B s.1 = 93 ∧ az_has (s.2.2.2.1.length - w0.length) s.2.2.2.1 = true) : az_sI 1 a a0 d0 w0 f0 sl (az_bk s) ∧ (az_close true s.2.2.2.1 s.2.1 s.2.2.1).1 ≠ [] := by
  obtain ⟨ops, h1, h2, h3, h4, h5, h6, h8, h7⟩ := id h
  obtain ⟨k1, k2, k3, k4, k5, k6⟩ := id h6
  rw [h1, az_cnt_a] at k2
  rw [h1, az_cno_a] at k4
  rw [h1, List.length_append] at k3
  have hb := hB s.1
  have cl := fun all => az_close_s all hd hh ops s.2.1 s.2.2.1 h2 h3 h4 h5 (by omega) k6
  rw [← h1] at cl
  have hp : s.1 < 240 := by
    refine Decidable.byContradiction (fun q => ?_)
    have := hb.2.2 (by omega); omega
  obtain ⟨ops', r1, r2, r3, r4, r5, r6, r7, r8, r9, r10, r11, r12⟩ := cl true
  have h14 := hc.2
  rw [h1, az_has_a] at h14
  have hne := r12 h14
  unfold az_bk
  revert r1 r3 r4 r5 r6 r9 r10
  generalize az_close true s.2.2.2.1 s.2.1 s.2.2.1 = c
  intro r1 r3 r4 r5 r6 r9 r10
  cases hop : ops' with
  | nil => exact absurd hop hne
  | cons x r =>
    have hx := r11 rfl x r hop
    subst hop
    have et : c.1.tail = r ++ w0 := by rw [r1]; rfl
    simp only [az_bin, az_cnt, az_cno, List.length_cons] at r3 r6 r7 r8
    rw [if_neg (by omega)] at r3 r6
    rw [if_pos (by omega)] at r7
    refine ⟨?_, by rw [r1]; exact List.cons_ne_nil _ _⟩
    refine ⟨r, et, fun y hy => h2 y (r2 y (List.mem_cons_of_mem _ hy)), by dsimp only; omega, r4, by dsimp only; omega, ⟨⟨by dsimp only; omega, by dsimp only; omega⟩, ?_, ?_, ⟨?_, by dsimp only; omega⟩, fun y hy => ?_, r9⟩, by dsimp only; omega, fun j hj => by dsimp only; rw [r10 j (by omega)]; exact h7 j hj⟩
    · dsimp only; rw [et, az_cnt_a]; omega
    · dsimp only; rw [et, List.length_append]; omega
    · dsimp only; rw [et, az_cno_a]; omega
    · dsimp only at hy
      rw [et] at hy
      refine k5 y ?_
      rw [h1]
      rcases List.mem_append.mp hy with hy | hy
      · exact List.mem_append_left _ (r2 y (List.mem_cons_of_mem _ hy))
      · exact List.mem_append_right _ hy

theorem az_op_s {B : Int → Int} (hB : az_by B) {a : Nat} {f0 : Nat → Int} {s s2 : Zs} {wh : Int} (hwh : wh = 10 ∨ wh = 13) (h : az_cI 0 a f0 s) (hb : B s.1 = 33 ∨ B s.1 = 40) (e1 : az_open wh s = .inr s2) : az_cI 0 a f0 s2 := by
  obtain ⟨h1, h2, h3, h4, h5, h6, h7, h8⟩ := id h
  have hp : s.1 < 240 := by
    refine Decidable.byContradiction (fun q => ?_)
    have := (hB s.1).2.2 (by omega); omega
  obtain ⟨o1, o2⟩ := az_open_s (by omega) h7 hp e1
  rw [o2]
  refine ⟨fun x hx => ?_, fun x hx ho => ?_, ?_, h4, az_lc_w h5 (fun k ⟨y, hy, hy2⟩ => ⟨y, List.mem_cons_of_mem _ hy, hy2⟩), h6, by rw [← o2]; exact o1, h8⟩
  · rcases List.mem_cons.mp hx with rfl | hx
    · omega
    · exact h1 x hx
  · rcases List.mem_cons.mp hx with rfl | hx
    · omega
    · exact h2 x hx ho
  · obtain ⟨w', hw⟩ := h3
    exact ⟨(1048576 * wh) :: w', by dsimp only; rw [hw]; rfl⟩

theorem az_sh_s {B : Int → Int} (hB : az_by B) {a : Nat} {f0 : Nat → Int} {s : Zs} (h : az_cI 1 a f0 s) (hb : B s.1 = 41) : (az_land true s.2.2.2.1 s.2.1 s.2.2.1).1 ≠ [] ∧ ((az_shut s).2.2.2.1 ≠ [] → az_cI 1 a f0 (az_shut2 (az_shut s))) := by
  obtain ⟨h1, h2, h3, h4, h5, h6, h7, h8⟩ := id h
  obtain ⟨k1, k2, k3, k4, k5, k6⟩ := id h7
  have hm : s.2.1 < 260 := by omega
  have hp : s.1 < 240 := by
    refine Decidable.byContradiction (fun q => ?_)
    have := (hB s.1).2.2 (by omega); omega
  obtain ⟨l1, l2, l3, l4, l5, l6, l7, l8, l9, l10, l11, l12, l13⟩ := az_land_s true hm s.2.2.2.1 s.2.2.1 h1 h2 h4 h5 k6 h3 k5
  unfold az_shut2 az_shut
  dsimp only
  revert l1 l2 l3 l4 l5 l6 l7 l8 l9 l10 l11 l13
  generalize az_land true s.2.2.2.1 s.2.1 s.2.2.1 = c
  intro l1 l2 l3 l4 l5 l6 l7 l8 l9 l10 l11 l13
  cases hc : c.1 with
  | nil =>
    obtain ⟨w', hw⟩ := l8
    rw [hc] at hw
    simp at hw
  | cons x r =>
    rw [hc] at l1 l2 l4 l5 l7 l8 l9 l10
    have hx := l13 rfl x r hc
    rw [List.tail_cons]
    have lr : az_lc c.2 a s.2.1 r := az_lc_w l4 (fun k ⟨y, hy, hy2, hy3⟩ => by
      rcases List.mem_cons.mp hy with rfl | hy
      · omega
      · exact ⟨y, hy, hy2, hy3⟩)
    simp only [az_cnt, az_cno, List.length_cons] at l5 l7 l9
    rw [if_pos (by omega)] at l7
    refine ⟨List.cons_ne_nil _ _, fun hr => ?_⟩
    have lst : az_lst r := by
      obtain ⟨w', hw⟩ := l8
      cases w' with
      | nil => simp at hw; exact absurd hw.2 hr
      | cons y w' => simp at hw; exact ⟨w', hw.2⟩
    obtain ⟨g1, g2, g3, g4, g5, g6, g7, g8, g9, g10, g11, g12, g13⟩ := az_ends_s (a := a) r s.2.1 c.2 (s.2.2.2.2 - 1) (az_E1_t l1) (az_E2_t l2) l3 lr h6 (by omega) l6 (by omega) lst
    refine ⟨g1, g2, g10, g3, g4, by dsimp only; omega, ⟨⟨by dsimp only; omega, by dsimp only; omega⟩, by dsimp only; omega, by dsimp only; omega, ⟨g8, by dsimp only; omega⟩, fun y hy => k5 y (l10 y (List.mem_cons_of_mem _ (g12 y hy))), g7⟩, fun j hj => ?_⟩
    dsimp only
    rw [g13 j (by omega), l11 j hj]
    exact h8 j hj

theorem az_jm_s {B : Int → Int} (hB : az_by B) {a : Nat} {f0 : Nat → Int} {s : Zs} (h : az_cI 1 a f0 s) (hb2 : B s.1 = 38 ∨ B s.1 = 124) : az_cI 0 a f0 (az_jump (B s.1) s) := by
  obtain ⟨h1, h2, h3, h4, h5, h6, h7, h8⟩ := id h
  obtain ⟨k1, k2, k3, k4, k5, k6⟩ := id h7
  have hm : s.2.1 < 260 := by omega
  have hp : s.1 < 240 := by
    refine Decidable.byContradiction (fun q => ?_)
    have := (hB s.1).2.2 (by omega); omega
  obtain ⟨l1, l2, l3, l4, l5, l6, l7, l8, l9, l10, l11, l12, l13⟩ := az_land_s (decide (B s.1 = 124)) hm s.2.2.2.1 s.2.2.1 h1 h2 h4 h5 k6 h3 k5
  have hj := az_jop_in (B s.1)
  unfold az_jump
  revert l1 l2 l3 l4 l5 l6 l7 l8 l9 l10 l11
  generalize az_land (decide (B s.1 = 124)) s.2.2.2.1 s.2.1 s.2.2.1 = c
  generalize az_jop (B s.1) = jo at hj
  intro l1 l2 l3 l4 l5 l6 l7 l8 l9 l10 l11
  have lw : az_lc c.2 a s.2.1 ((1048576 * jo + s.2.1) :: c.1) := az_lc_w l4 (fun k ⟨y, hy, hy2⟩ => ⟨y, List.mem_cons_of_mem _ hy, hy2⟩)
  have hx1 : (1048576 * jo + (s.2.1 : Int)) / 1048576 = jo := by omega
  have hx2 : (1048576 * jo + (s.2.1 : Int)) % 1048576 = s.2.1 := by omega
  obtain ⟨n1, n2⟩ := az_lc_note lw h6 (x := 1048576 * jo) ⟨by omega, by omega⟩ (by omega) (by omega) (by omega) (fun _ => ⟨by omega, _, List.mem_cons_self, hx2, by rw [hx1]; exact hj⟩) (by omega)
  have ee : az_eff (1048576 * jo / 1048576) = -1 := by unfold az_eff; rw [if_neg (by omega), if_neg (by omega)]
  rw [ee] at n2
  refine ⟨fun x hx => ?_, fun x hx ho => ?_, ?_, ?_, n1, by dsimp only; omega, ⟨⟨by dsimp only; omega, by dsimp only; omega⟩, ?_, ?_, ⟨?_, k4.2⟩, fun x hx => ?_, az_row_su l6 _ ⟨by omega, by omega⟩⟩, fun j hj => ?_⟩
  · rcases List.mem_cons.mp hx with rfl | hx
    · rw [hx1]; omega
    · exact l1 x hx
  · rcases List.mem_cons.mp hx with rfl | hx
    · rw [hx1, hx2]
      refine ⟨by (try dsimp only); omega, by (try dsimp only); omega, ?_, ?_⟩
      · rw [show ((s.2.1 : Nat) : Int).toNat = s.2.1 from rfl]
        dsimp only
        simp only [su, if_true]
        omega
      · rw [show ((s.2.1 : Nat) : Int).toNat = s.2.1 from rfl]
        dsimp only
        rw [az_dep_su _ _ _ _ _ (Nat.le_refl _)]
        exact l3
    · exact az_E2_su l2 _ x hx ho
  · obtain ⟨w', hw⟩ := l8
    exact ⟨(1048576 * jo + s.2.1) :: w', by dsimp only; rw [hw]; rfl⟩
  · dsimp only
    rw [n2, l3]
    rfl
  · dsimp only
    simp only [az_cnt]
    rw [if_neg (by omega), l5]
    omega
  · dsimp only
    simp only [List.length_cons]
    omega
  · dsimp only
    simp only [az_cno]
    rw [if_neg (by omega), l7]
    omega
  · rcases List.mem_cons.mp hx with rfl | hx
    · exact ⟨by omega, by omega, by rw [hx2]; omega⟩
    · exact k5 x (l10 x hx)
  · dsimp only
    simp only [su]
    rw [if_neg (by omega), l11 j hj]
    exact h8 j hj
/-! the model's law as it is read: its methods -/
def az_row (g : Nat → Int) : List Int → Prop
  | [] => True
  | x :: w => g w.length = x ∧ az_row g w
theorem az_row_up {g : Nat → Int} {k : Nat} (v : Int) : ∀ (w : List Int), w.length ≤ k → az_row g w → az_row (su g k v) w
  | [], _, _ => trivial
  | x :: w, hk, h => ⟨by simp only [su]; rw [if_neg (by simp only [List.length_cons] at hk; omega)]; exact h.1, az_row_up v w (by simp only [List.length_cons] at hk; omega) h.2⟩
/-- the machine's state lies in the heap -/
def az_R (t : hy_T) (s : Zs) : Prop := t 59 10 = s.1 ∧ t 59 15 = (s.2.1 : Int) ∧ (∀ j : Nat, j < s.2.1 → t 66 j = s.2.2.1 j) ∧ t 59 16 = (s.2.2.2.1.length : Int) ∧ az_row (t 67) s.2.2.2.1 ∧ t 59 14 = s.2.2.2.2
abbrev mrX : Nat → Nat → Bool := fun r j => r == 66 || r == 67 || (r == 59 && (j == 10 || j == 12 || j == 13 || j == 14 || j == 15 || j == 16))
def az_B (t : hy_T) : Int → Int := fun p => if p < t 59 11 then hz_iand (t 65 p.toNat) 255 else -1
def az_C (t : hy_T) (B : Int → Int) : Prop := az_B t = B ∧ t 59 11 ≤ 240
theorem az_C_F {X : Nat → Nat → Bool} {t t1 : hy_T} {B : Int → Int} (h : hy_F X t t1) (h11 : X 59 11 = false) (h65 : ∀ j, X 65 j = false) (hC : az_C t B) : az_C t1 B := by
  obtain ⟨c1, c2⟩ := hC
  refine ⟨?_, by rw [h 59 11 h11]; exact c2⟩
  rw [← c1]
  funext p
  unfold az_B
  rw [h 59 11 h11, h 65 _ (h65 _)]
theorem az_C_by {t : hy_T} {B : Int → Int} (hC : az_C t B) : az_by B := fun p => by
  obtain ⟨c1, c2⟩ := hC
  rw [← c1]
  unfold az_B
  have := mby_in t p.toNat
  have m1 : 0 ≤ hz_iand (t 65 p.toNat) 255 ∧ hz_iand (t 65 p.toNat) 255 ≤ 255 := this
  split
  · exact ⟨by omega, m1.2, fun q => by omega⟩
  · exact ⟨by decide, by decide, fun _ => rfl⟩
theorem az_mpok {t : hy_T} {B : Int → Int} (hC : az_C t B) (hp : 0 ≤ t 59 10 ∧ t 59 10 ≤ 240) : mp_ok t := ⟨⟨hp.1, by omega⟩, by have := hC.2; omega⟩
theorem az_here {t : hy_T} {B : Int → Int} (hC : az_C t B) : mp_here t = B (t 59 10) := by
  rw [← hC.1]
  rfl
def mz_note (t : hy_T) (x : Int) : hy_T := hy_up (hy_up t 66 (t 59 15).toNat x) 59 15 (t 59 15 + 1)
theorem az_R_note {t : hy_T} {s : Zs} (h : az_R t s) (x : Int) : az_R (mz_note t x) (s.1, s.2.1 + 1, su s.2.2.1 s.2.1 x, s.2.2.2.1, s.2.2.2.2) := by
  obtain ⟨h1, h2, h3, h4, h5, h6⟩ := h
  refine ⟨h1, ?_, ?_, h4, h5, h6⟩
  · show t 59 15 + 1 = _; rw [h2]; dsimp only; omega
  · intro j hj
    dsimp only at hj ⊢
    show hy_up (hy_up t 66 (t 59 15).toNat x) 59 15 (t 59 15 + 1) 66 j = _
    rw [hy_up_ne (by decide), h2, show ((s.2.1 : Nat) : Int).toNat = s.2.1 from rfl]
    simp only [hy_up, su, true_and]
    split
    · rfl
    · exact h3 j (by omega)
theorem az_R_pop {t : hy_T} {p : Int} {m : Nat} {f : Nat → Int} {x : Int} {w : List Int} {o : Int} (h : az_R t (p, m, f, x :: w, o)) : az_R (hy_up t 59 16 (t 59 16 - 1)) (p, m, f, w, o) := by
  obtain ⟨h1, h2, h3, h4, h5, h6⟩ := h
  refine ⟨h1, h2, h3, ?_, h5.2, h6⟩
  show t 59 16 - 1 = _
  rw [h4]
  simp only [List.length_cons]
  omega
theorem az_R_step {t : hy_T} {s : Zs} (h : az_R t s) : az_R (hy_up t 59 10 (t 59 10 + 1)) (s.1 + 1, s.2.1, s.2.2.1, s.2.2.2.1, s.2.2.2.2) := by
  obtain ⟨h1, h2, h3, h4, h5, h6⟩ := h
  exact ⟨by show t 59 10 + 1 = _; rw [h1], h2, h3, h4, h5, h6⟩
theorem az_R_o {t : hy_T} {s : Zs} (h : az_R t s) (v : Int) : az_R (hy_up t 59 14 v) (s.1, s.2.1, s.2.2.1, s.2.2.2.1, v) := by
  obtain ⟨h1, h2, h3, h4, h5, h6⟩ := h
  exact ⟨h1, h2, h3, h4, h5, rfl⟩
theorem az_R_num {t : hy_T} {s : Zs} (h : az_R t s) (v : Int) : az_R (hy_up t 59 13 v) s := by
  obtain ⟨h1, h2, h3, h4, h5, h6⟩ := h
  exact ⟨h1, h2, h3, h4, h5, h6⟩
theorem az_R_push {t : hy_T} {s : Zs} (h : az_R t s) (x : Int) : az_R (hy_up (hy_up t 67 (t 59 16).toNat x) 59 16 (t 59 16 + 1)) (s.1, s.2.1, s.2.2.1, x :: s.2.2.2.1, s.2.2.2.2) := by
  obtain ⟨h1, h2, h3, h4, h5, h6⟩ := h
  have e : (t 59 16).toNat = s.2.2.2.1.length := by rw [h4]; rfl
  refine ⟨h1, h2, h3, ?_, ?_, h6⟩
  · show t 59 16 + 1 = _
    rw [h4]
    simp only [List.length_cons]
    omega
  · show az_row ((hy_up (hy_up t 67 (t 59 16).toNat x) 59 16 (t 59 16 + 1)) 67) _
    rw [e, show (hy_up (hy_up t 67 s.2.2.2.1.length x) 59 16 (t 59 16 + 1)) 67 = su (t 67) s.2.2.2.1.length x by
      rw [← hy_up_row]; funext j; exact hy_up_ne (by decide)]
    exact ⟨by simp [su], az_row_up x _ (Nat.le_refl _) h5⟩
/-- what a method that reads answers and leaves -/
def az_P (t0 : hy_T) (res : Int ⊕ Zs) (r : Option Int) (t' : hy_T) : Prop := hy_F mrX t0 t' ∧ match res with
  | .inl e => r = some (hy_b false) ∧ t' 59 12 = e
  | .inr s => r = some (hy_b true) ∧ az_R t' s
def az_PN (t0 : hy_T) (res : Int ⊕ (Int × Int)) (r : Option Int) (t' : hy_T) : Prop := hy_F (fun r j => r == 59 && (j == 10 || j == 12 || j == 13)) t0 t' ∧ match res with
  | .inl e => r = some (hy_b false) ∧ t' 59 12 = e
  | .inr q => r = some (hy_b true) ∧ t' 59 10 = q.1 ∧ t' 59 13 = q.2
def az_top : List Int → Int
  | [] => -1
  | x :: _ => x / 1048576
section MV
variable {sc : List Int32} {t : hy_T} {B : Int → Int}
theorem c_M_notes {op v : Int} (hm : 0 ≤ t 59 15 ∧ t 59 15 < 260) (ho : 0 ≤ op ∧ op ≤ 12) (hv : 0 ≤ v ∧ v < 1048576) : hy_Ct sc hm_M_notes 0 [.inr (some 59), .inl op, .inl v] t (hy_e none (mz_note t (1048576 * op + v))) := by
  refine hy_mk_ct ok_M_notes ck_M_notes (Nat.le_of_ble_eq_true rfl) ?_
  refine hy_aload (i := 0) rfl rfl ?_
  refine hy_getr (i := 1) rfl rfl ?_
  refine hy_aload (i := 2) rfl rfl ?_
  refine hy_get (i := 3) (fk := 15) rfl rfl rfl ?_
  refine hy_const (i := 4) rfl (by decide) ?_
  refine hy_iload (i := 5) rfl rfl ?_
  refine hy_imul (i := 6) rfl (by omega) ?_
  refine hy_iload (i := 7) rfl rfl ?_
  refine hy_iadd (i := 8) rfl (by omega) ?_
  refine hy_iast (i := 9) rfl rfl (by omega) rfl ?_
  refine hy_aload (i := 10) rfl rfl ?_
  refine hy_aload (i := 11) rfl rfl ?_
  refine hy_get (i := 12) (fk := 15) rfl rfl rfl ?_
  refine hy_const (i := 13) rfl (by decide) ?_
  rw [hy_up_ne (by decide)]
  refine hy_iadd (i := 14) rfl (by omega) ?_
  refine hy_put (i := 15) (fk := 15) rfl rfl rfl rfl ?_
  refine hy_return (i := 16) rfl rfl ?_
  exact ⟨rfl, rfl⟩
theorem c_M_waitTop {s : Zs} (hR : az_R t s) (hl : s.2.2.2.1.length ≤ 250) (he : ∀ x, x ∈ s.2.2.2.1 → az_ent x) : hy_Ct sc hm_M_waitTop 0 [.inr (some 59)] t (hy_e (some (az_top s.2.2.2.1)) t) := by
  refine hy_mk_ct ok_M_waitTop ck_M_waitTop (Nat.le_of_ble_eq_true rfl) ?_
  obtain ⟨h1, h2, h3, h4, h5, h6⟩ := hR
  cases hw : s.2.2.2.1 with
  | nil =>
    rw [hw] at h4
    refine hy_aload (i := 0) rfl rfl ?_
    refine hy_get (i := 1) (fk := 16) rfl rfl rfl ?_
    refine hy_if_ne (i := 2) (tt := 5) rfl (fun zc1 => ?_) (fun zc1 => ?_)
    · simp only [List.length_nil] at h4; omega
    · refine hy_const (i := 3) rfl (by decide) ?_
      refine hy_goto (i := 4) (tt := 14) rfl ?_
      refine hy_ireturn (i := 14) rfl rfl ?_
      exact ⟨rfl, rfl⟩
  | cons x w =>
    rw [hw] at h4 h5 he hl
    have hx := he x List.mem_cons_self
    have h5a := h5.1
    simp only [List.length_cons] at h4 hl
    refine hy_aload (i := 0) rfl rfl ?_
    refine hy_get (i := 1) (fk := 16) rfl rfl rfl ?_
    refine hy_if_ne (i := 2) (tt := 5) rfl (fun zc1 => ?_) (fun zc1 => ?_)
    · refine hy_aload (i := 5) rfl rfl ?_
      refine hy_getr (i := 6) rfl rfl ?_
      refine hy_aload (i := 7) rfl rfl ?_
      refine hy_get (i := 8) (fk := 16) rfl rfl rfl ?_
      refine hy_const (i := 9) rfl (by decide) ?_
      refine hy_isub (i := 10) rfl (by omega) ?_
      refine hy_iald (i := 11) rfl rfl (by omega) (k := w.length) (by omega) ?_
      rw [h5a]
      refine hy_const (i := 12) rfl (by decide) ?_
      refine hy_idiv (i := 13) rfl (by omega) (by omega) ?_
      refine hy_ireturn (i := 14) rfl rfl ?_
      exact ⟨rfl, rfl⟩
    · omega
theorem c_M_closesSums {s : Zs} {all : Bool} (hR : az_R t s) (hm : s.2.1 + az_cnt s.2.2.2.1 ≤ 250) (hl : s.2.2.2.1.length ≤ 250) (he : ∀ x, x ∈ s.2.2.2.1 → az_ent x) : hy_Ct sc hm_M_closesSums 1 [.inr (some 59), .inl (hy_b all)] t (fun r t' => r = none ∧ hy_F mrX t t' ∧ az_R t' (s.1, (az_close all s.2.2.2.1 s.2.1 s.2.2.1).2.1, (az_close all s.2.2.2.1 s.2.1 s.2.2.1).2.2, (az_close all s.2.2.2.1 s.2.1 s.2.2.1).1, s.2.2.2.2)) := by
  refine hy_mk_ct ok_M_closesSums ck_M_closesSums (Nat.le_of_ble_eq_true rfl) ?_
  have loop : ∀ (w : List Int) (m : Nat) (f : Nat → Int) (t1 : hy_T), hy_F mrX t t1 → az_R t1 (s.1, m, f, w, s.2.2.2.2) → m + az_cnt w ≤ 250 → w.length ≤ 250 → (∀ x, x ∈ w → az_ent x) → hy_W sc hm_M_closesSums 1 0 [.inr (some 59), .inl (hy_b all)] [] t1 (fun r t' => r = none ∧ hy_F mrX t t' ∧ az_R t' (s.1, (az_close all w m f).2.1, (az_close all w m f).2.2, (az_close all w m f).1, s.2.2.2.2)) := by
    intro w
    induction w with
    | nil =>
      intro m f t1 hF hR1 hm hl he
      refine hy_aload (i := 0) rfl rfl ?_
      refine hy_cV0e (i := 1) rfl mj_M_waitTop (by decide) rfl (Nat.le_of_ble_eq_true rfl) rfl rfl rfl (c_M_waitTop (by assumption) (by first | assumption | omega) (by assumption)) ?_
      rw [show az_top (([] : List Int)) = -1 from rfl]
      refine hy_const (i := 2) rfl (by decide) ?_
      refine hy_ic_lt (i := 3) (tt := 8) rfl (fun zc1 => ?_) (fun zc1 => ?_)
      · refine hy_iload (i := 8) rfl rfl ?_
        refine hy_ib_eq (i := 9) (tt := 30) rfl (fun zc2 => ?_) (fun zc2 => ?_)
        · refine hy_return (i := 30) rfl rfl ?_
          exact ⟨rfl, hF, hR1⟩
        · refine hy_aload (i := 10) rfl rfl ?_
          refine hy_cV0e (i := 11) rfl mj_M_waitTop (by decide) rfl (Nat.le_of_ble_eq_true rfl) rfl rfl rfl (c_M_waitTop (by assumption) (by first | assumption | omega) (by assumption)) ?_
          rw [show az_top (([] : List Int)) = -1 from rfl]
          refine hy_const (i := 12) rfl (by decide) ?_
          refine hy_ic_eq (i := 13) (tt := 18) rfl (fun zc3 => ?_) (fun zc3 => ?_)
          · omega
          · refine hy_aload (i := 14) rfl rfl ?_
            refine hy_cV0e (i := 15) rfl mj_M_waitTop (by decide) rfl (Nat.le_of_ble_eq_true rfl) rfl rfl rfl (c_M_waitTop (by assumption) (by first | assumption | omega) (by assumption)) ?_
            rw [show az_top (([] : List Int)) = -1 from rfl]
            refine hy_const (i := 16) rfl (by decide) ?_
            refine hy_ic_ne (i := 17) (tt := 30) rfl (fun zc4 => ?_) (fun zc4 => ?_)
            · refine hy_return (i := 30) rfl rfl ?_
              exact ⟨rfl, hF, hR1⟩
            · omega
      · omega
    | cons x w ih =>
      intro m f t1 hF hR1 hm hl he
      have hx := he x List.mem_cons_self
      have h15 : t1 59 15 = (m : Int) := hR1.2.1
      have h16 : t1 59 16 = ((w.length + 1 : Nat) : Int) := hR1.2.2.2.1
      by_cases hp : az_popc all x
      · have e : az_close all (x :: w) m f = az_close all w (m + 1) (su f m (1048576 * (x / 1048576))) := by simp only [az_close]; rw [if_pos hp]
        rw [e]
        simp only [az_cnt] at hm
        rw [if_pos (by omega)] at hm
        simp only [List.length_cons] at hl
        have hq : ∀ (t2 : hy_T), t2 = hy_up (mz_note t1 (1048576 * (x / 1048576) + 0)) 59 16 ((mz_note t1 (1048576 * (x / 1048576) + 0)) 59 16 - 1) → hy_W sc hm_M_closesSums 1 0 [.inr (some 59), .inl (hy_b all)] [] t2 (fun r t' => r = none ∧ hy_F mrX t t' ∧ az_R t' (s.1, (az_close all w (m + 1) (su f m (1048576 * (x / 1048576)))).2.1, (az_close all w (m + 1) (su f m (1048576 * (x / 1048576)))).2.2, (az_close all w (m + 1) (su f m (1048576 * (x / 1048576)))).1, s.2.2.2.2)) := by
          intro t2 ht
          rw [ht, Int.add_zero]
          exact ih (m + 1) _ _ (((hF.up (r := 66) rfl).up (r := 59) (j := 15) rfl).up (r := 59) (j := 16) rfl) (az_R_pop (az_R_note hR1 _)) (by omega) (by omega) (fun y hy => he y (List.mem_cons_of_mem _ hy))
        have hst : hy_W sc hm_M_closesSums 1 18 [.inr (some 59), .inl (hy_b all)] [] t1 (fun r t' => r = none ∧ hy_F mrX t t' ∧ az_R t' (s.1, (az_close all w (m + 1) (su f m (1048576 * (x / 1048576)))).2.1, (az_close all w (m + 1) (su f m (1048576 * (x / 1048576)))).2.2, (az_close all w (m + 1) (su f m (1048576 * (x / 1048576)))).1, s.2.2.2.2)) := by
          refine hy_aload (i := 18) rfl rfl ?_
          refine hy_aload (i := 19) rfl rfl ?_
          refine hy_cV0e (i := 20) rfl mj_M_waitTop (by decide) rfl (Nat.le_of_ble_eq_true rfl) rfl rfl rfl (c_M_waitTop (by assumption) (by first | assumption | omega) (by assumption)) ?_
          rw [show az_top (x :: w) = x / 1048576 from rfl]
          refine hy_const (i := 21) rfl (by decide) ?_
          refine hy_cV2v (i := 22) rfl mj_M_notes (by decide) rfl (Nat.le_of_ble_eq_true rfl) rfl rfl rfl (c_M_notes (by omega) (by omega) (by decide)) ?_
          refine hy_aload (i := 23) rfl rfl ?_
          refine hy_aload (i := 24) rfl rfl ?_
          refine hy_get (i := 25) (fk := 16) rfl rfl rfl ?_
          refine hy_const (i := 26) rfl (by decide) ?_
          refine hy_isub (i := 27) rfl (by show -2147483648 ≤ t1 59 16 - 1 ∧ t1 59 16 - 1 ≤ 2147483647; omega) ?_
          refine hy_put (i := 28) (fk := 16) rfl rfl rfl rfl ?_
          refine hy_goto (i := 29) (tt := 0) rfl ?_
          exact hq _ rfl
        refine hy_aload (i := 0) rfl rfl ?_
        refine hy_cV0e (i := 1) rfl mj_M_waitTop (by decide) rfl (Nat.le_of_ble_eq_true rfl) rfl rfl rfl (c_M_waitTop (by assumption) (by first | assumption | omega) (by assumption)) ?_
        rw [show az_top (x :: w) = x / 1048576 from rfl]
        refine hy_const (i := 2) rfl (by decide) ?_
        refine hy_ic_lt (i := 3) (tt := 8) rfl (fun zc1 => ?_) (fun zc1 => ?_)
        · refine hy_iload (i := 8) rfl rfl ?_
          refine hy_ib_eq (i := 9) (tt := 30) rfl (fun zc2 => ?_) (fun zc2 => ?_)
          · exfalso; rcases hp with hp | hp; omega; exact bb_abs hp.1 (by assumption)
          · refine hy_aload (i := 10) rfl rfl ?_
            refine hy_cV0e (i := 11) rfl mj_M_waitTop (by decide) rfl (Nat.le_of_ble_eq_true rfl) rfl rfl rfl (c_M_waitTop (by assumption) (by first | assumption | omega) (by assumption)) ?_
            rw [show az_top (x :: w) = x / 1048576 from rfl]
            refine hy_const (i := 12) rfl (by decide) ?_
            refine hy_ic_eq (i := 13) (tt := 18) rfl (fun zc3 => ?_) (fun zc3 => ?_)
            · exact hst
            · refine hy_aload (i := 14) rfl rfl ?_
              refine hy_cV0e (i := 15) rfl mj_M_waitTop (by decide) rfl (Nat.le_of_ble_eq_true rfl) rfl rfl rfl (c_M_waitTop (by assumption) (by first | assumption | omega) (by assumption)) ?_
              rw [show az_top (x :: w) = x / 1048576 from rfl]
              refine hy_const (i := 16) rfl (by decide) ?_
              refine hy_ic_ne (i := 17) (tt := 30) rfl (fun zc4 => ?_) (fun zc4 => ?_)
              · omega
              · exact hst
        · refine hy_aload (i := 4) rfl rfl ?_
          refine hy_cV0e (i := 5) rfl mj_M_waitTop (by decide) rfl (Nat.le_of_ble_eq_true rfl) rfl rfl rfl (c_M_waitTop (by assumption) (by first | assumption | omega) (by assumption)) ?_
          rw [show az_top (x :: w) = x / 1048576 from rfl]
          refine hy_const (i := 6) rfl (by decide) ?_
          refine hy_ic_le (i := 7) (tt := 18) rfl (fun zc2 => ?_) (fun zc2 => ?_)
          · exact hst
          · refine hy_iload (i := 8) rfl rfl ?_
            refine hy_ib_eq (i := 9) (tt := 30) rfl (fun zc3 => ?_) (fun zc3 => ?_)
            · exfalso; rcases hp with hp | hp; omega; exact bb_abs hp.1 (by assumption)
            · refine hy_aload (i := 10) rfl rfl ?_
              refine hy_cV0e (i := 11) rfl mj_M_waitTop (by decide) rfl (Nat.le_of_ble_eq_true rfl) rfl rfl rfl (c_M_waitTop (by assumption) (by first | assumption | omega) (by assumption)) ?_
              rw [show az_top (x :: w) = x / 1048576 from rfl]
              refine hy_const (i := 12) rfl (by decide) ?_
              refine hy_ic_eq (i := 13) (tt := 18) rfl (fun zc4 => ?_) (fun zc4 => ?_)
              · exact hst
              · refine hy_aload (i := 14) rfl rfl ?_
                refine hy_cV0e (i := 15) rfl mj_M_waitTop (by decide) rfl (Nat.le_of_ble_eq_true rfl) rfl rfl rfl (c_M_waitTop (by assumption) (by first | assumption | omega) (by assumption)) ?_
                rw [show az_top (x :: w) = x / 1048576 from rfl]
                refine hy_const (i := 16) rfl (by decide) ?_
                refine hy_ic_ne (i := 17) (tt := 30) rfl (fun zc5 => ?_) (fun zc5 => ?_)
                · omega
                · exact hst
      · have e : az_close all (x :: w) m f = (x :: w, m, f) := by simp only [az_close]; rw [if_neg hp]
        rw [e]
        refine hy_aload (i := 0) rfl rfl ?_
        refine hy_cV0e (i := 1) rfl mj_M_waitTop (by decide) rfl (Nat.le_of_ble_eq_true rfl) rfl rfl rfl (c_M_waitTop (by assumption) (by first | assumption | omega) (by assumption)) ?_
        rw [show az_top (x :: w) = x / 1048576 from rfl]
        refine hy_const (i := 2) rfl (by decide) ?_
        refine hy_ic_lt (i := 3) (tt := 8) rfl (fun zc1 => ?_) (fun zc1 => ?_)
        · refine hy_iload (i := 8) rfl rfl ?_
          refine hy_ib_eq (i := 9) (tt := 30) rfl (fun zc2 => ?_) (fun zc2 => ?_)
          · refine hy_return (i := 30) rfl rfl ?_
            exact ⟨rfl, hF, hR1⟩
          · refine hy_aload (i := 10) rfl rfl ?_
            refine hy_cV0e (i := 11) rfl mj_M_waitTop (by decide) rfl (Nat.le_of_ble_eq_true rfl) rfl rfl rfl (c_M_waitTop (by assumption) (by first | assumption | omega) (by assumption)) ?_
            rw [show az_top (x :: w) = x / 1048576 from rfl]
            refine hy_const (i := 12) rfl (by decide) ?_
            refine hy_ic_eq (i := 13) (tt := 18) rfl (fun zc3 => ?_) (fun zc3 => ?_)
            · exact absurd (.inr ⟨by assumption, .inl (by assumption)⟩) hp
            · refine hy_aload (i := 14) rfl rfl ?_
              refine hy_cV0e (i := 15) rfl mj_M_waitTop (by decide) rfl (Nat.le_of_ble_eq_true rfl) rfl rfl rfl (c_M_waitTop (by assumption) (by first | assumption | omega) (by assumption)) ?_
              rw [show az_top (x :: w) = x / 1048576 from rfl]
              refine hy_const (i := 16) rfl (by decide) ?_
              refine hy_ic_ne (i := 17) (tt := 30) rfl (fun zc4 => ?_) (fun zc4 => ?_)
              · refine hy_return (i := 30) rfl rfl ?_
                exact ⟨rfl, hF, hR1⟩
              · exact absurd (.inr ⟨by assumption, .inr (by assumption)⟩) hp
        · refine hy_aload (i := 4) rfl rfl ?_
          refine hy_cV0e (i := 5) rfl mj_M_waitTop (by decide) rfl (Nat.le_of_ble_eq_true rfl) rfl rfl rfl (c_M_waitTop (by assumption) (by first | assumption | omega) (by assumption)) ?_
          rw [show az_top (x :: w) = x / 1048576 from rfl]
          refine hy_const (i := 6) rfl (by decide) ?_
          refine hy_ic_le (i := 7) (tt := 18) rfl (fun zc2 => ?_) (fun zc2 => ?_)
          · exact absurd (.inl ⟨by omega, by omega⟩) hp
          · refine hy_iload (i := 8) rfl rfl ?_
            refine hy_ib_eq (i := 9) (tt := 30) rfl (fun zc3 => ?_) (fun zc3 => ?_)
            · refine hy_return (i := 30) rfl rfl ?_
              exact ⟨rfl, hF, hR1⟩
            · refine hy_aload (i := 10) rfl rfl ?_
              refine hy_cV0e (i := 11) rfl mj_M_waitTop (by decide) rfl (Nat.le_of_ble_eq_true rfl) rfl rfl rfl (c_M_waitTop (by assumption) (by first | assumption | omega) (by assumption)) ?_
              rw [show az_top (x :: w) = x / 1048576 from rfl]
              refine hy_const (i := 12) rfl (by decide) ?_
              refine hy_ic_eq (i := 13) (tt := 18) rfl (fun zc4 => ?_) (fun zc4 => ?_)
              · exact absurd (.inr ⟨by assumption, .inl (by assumption)⟩) hp
              · refine hy_aload (i := 14) rfl rfl ?_
                refine hy_cV0e (i := 15) rfl mj_M_waitTop (by decide) rfl (Nat.le_of_ble_eq_true rfl) rfl rfl rfl (c_M_waitTop (by assumption) (by first | assumption | omega) (by assumption)) ?_
                rw [show az_top (x :: w) = x / 1048576 from rfl]
                refine hy_const (i := 16) rfl (by decide) ?_
                refine hy_ic_ne (i := 17) (tt := 30) rfl (fun zc5 => ?_) (fun zc5 => ?_)
                · refine hy_return (i := 30) rfl rfl ?_
                  exact ⟨rfl, hF, hR1⟩
                · exact absurd (.inr ⟨by assumption, .inr (by assumption)⟩) hp
  exact loop _ _ _ t hy_F.rf hR hm hl he
theorem c_M_readsNumber {s : Zs} (hC : az_C t B) (hR : az_R t s) (hp : 0 ≤ s.1 ∧ s.1 ≤ 240) : hy_Ct sc hm_M_readsNumber 2 [.inr (some 59)] t (az_PN t (az_num B 5 s.1 0)) := by
  refine hy_mk_ct ok_M_readsNumber ck_M_readsNumber (Nat.le_of_ble_eq_true rfl) ?_
  have hB := az_C_by hC
  have hp0 : t 59 10 = s.1 := hR.1
  generalize hG : az_num B 5 s.1 0 = G
  have loop : ∀ (n : Nat), ∀ (p v : Int) (t1 : hy_T), p + n = s.1 + 5 → (0 ≤ p ∧ p ≤ 240) → t1 59 10 = p → t1 59 13 = v → hy_F (fun r j => r == 59 && (j == 10 || j == 12 || j == 13)) t t1 → 0 ≤ v → (n = 5 → v = 0) → (n = 4 → v ≤ 9) → (n = 3 → v ≤ 99) → (n = 2 → v ≤ 999) → (n = 1 → v ≤ 9999) → n ≤ 5 → az_num B n p v = G → hy_W sc hm_M_readsNumber 2 6 [.inr (some 59), .inl s.1] [] t1 (az_PN t G) := by
    intro n
    induction n with
    | zero =>
      intro p v t1 hn hp1 h10 h13 hF hv0 v5 v4 v3 v2 v1 h5 hv
      have hC1 := az_C_F hF rfl (fun _ => rfl) hC
      have hok := az_mpok hC1 (by omega)
      have hh := az_here hC1
      rw [h10] at hh
      simp only [az_num] at hv
      by_cases hd : 48 ≤ B p ∧ B p ≤ 57
      · rw [if_pos hd] at hv
        refine hy_aload (i := 6) rfl rfl ?_
        refine hy_cV0e (i := 7) rfl mj_M_isDigit (by decide) rfl (Nat.le_of_ble_eq_true rfl) rfl rfl rfl (c_M_isDigit (by assumption)) ?_
        refine hy_ib_eq (i := 8) (tt := 39) rfl (fun zc1 => ?_) (fun zc1 => ?_)
        · have := mp_dig_n (by assumption); omega
        · refine hy_aload (i := 9) rfl rfl ?_
          refine hy_get (i := 10) (fk := 10) rfl rfl rfl ?_
          refine hy_iload (i := 11) rfl rfl ?_
          refine hy_const (i := 12) rfl (by decide) ?_
          refine hy_iadd (i := 13) rfl (by omega) ?_
          refine hy_ic_ne (i := 14) (tt := 21) rfl (fun zc2 => ?_) (fun zc2 => ?_)
          · omega
          · refine hy_aload (i := 15) rfl rfl ?_
            refine hy_const (i := 16) rfl (by decide) ?_
            refine hy_aload (i := 17) rfl rfl ?_
            refine hy_get (i := 18) (fk := 10) rfl rfl rfl ?_
            refine hy_cV2e (i := 19) rfl mj_M_wrongAt (by decide) rfl (Nat.le_of_ble_eq_true rfl) rfl rfl rfl (c_M_wrongAt (by decide) (by first | exact mp_ok.1 (by assumption) | omega)) ?_
            refine hy_zreturn (i := 20) rfl rfl (by first | decide | exact hy_b01 _) ?_
            rw [← hv]
            refine ⟨hF.up rfl, rfl, ?_⟩
            show -1000 * 2 - t1 59 10 = _
            rw [h10]
            omega
      · rw [if_neg hd] at hv
        refine hy_aload (i := 6) rfl rfl ?_
        refine hy_cV0e (i := 7) rfl mj_M_isDigit (by decide) rfl (Nat.le_of_ble_eq_true rfl) rfl rfl rfl (c_M_isDigit (by assumption)) ?_
        refine hy_ib_eq (i := 8) (tt := 39) rfl (fun zc1 => ?_) (fun zc1 => ?_)
        · refine hy_const (i := 39) rfl (by decide) ?_
          refine hy_zreturn (i := 40) rfl rfl (by first | decide | exact hy_b01 _) ?_
          rw [← hv]
          exact ⟨hF, rfl, h10, h13⟩
        · have := mp_dig_h (by assumption); omega
    | succ n ih =>
      intro p v t1 hn hp1 h10 h13 hF hv0 v5 v4 v3 v2 v1 h5 hv
      have hC1 := az_C_F hF rfl (fun _ => rfl) hC
      have hok := az_mpok hC1 (by omega)
      have hh := az_here hC1
      rw [h10] at hh
      have hb := hB p
      simp only [az_num] at hv
      by_cases hd : 48 ≤ B p ∧ B p ≤ 57
      · rw [if_pos hd] at hv
        have hlt : p < 240 := by
          refine Decidable.byContradiction (fun q => ?_)
          have := hb.2.2 (by omega); omega
        refine hy_aload (i := 6) rfl rfl ?_
        refine hy_cV0e (i := 7) rfl mj_M_isDigit (by decide) rfl (Nat.le_of_ble_eq_true rfl) rfl rfl rfl (c_M_isDigit (by assumption)) ?_
        refine hy_ib_eq (i := 8) (tt := 39) rfl (fun zc1 => ?_) (fun zc1 => ?_)
        · have := mp_dig_n (by assumption); omega
        · refine hy_aload (i := 9) rfl rfl ?_
          refine hy_get (i := 10) (fk := 10) rfl rfl rfl ?_
          refine hy_iload (i := 11) rfl rfl ?_
          refine hy_const (i := 12) rfl (by decide) ?_
          refine hy_iadd (i := 13) rfl (by omega) ?_
          refine hy_ic_ne (i := 14) (tt := 21) rfl (fun zc2 => ?_) (fun zc2 => ?_)
          · refine hy_aload (i := 21) rfl rfl ?_
            refine hy_const (i := 22) rfl (by decide) ?_
            refine hy_aload (i := 23) rfl rfl ?_
            refine hy_get (i := 24) (fk := 13) rfl rfl rfl ?_
            refine hy_imul (i := 25) rfl (by omega) ?_
            refine hy_aload (i := 26) rfl rfl ?_
            refine hy_cV0e (i := 27) rfl mj_M_here (by decide) rfl (Nat.le_of_ble_eq_true rfl) rfl rfl rfl (c_M_here (by assumption)) ?_
            refine hy_iadd (i := 28) rfl (by omega) ?_
            refine hy_const (i := 29) rfl (by decide) ?_
            refine hy_isub (i := 30) rfl (by omega) ?_
            refine hy_put (i := 31) (fk := 13) rfl rfl rfl rfl ?_
            refine hy_aload (i := 32) rfl rfl ?_
            refine hy_aload (i := 33) rfl rfl ?_
            refine hy_get (i := 34) (fk := 10) rfl rfl rfl ?_
            refine hy_const (i := 35) rfl (by decide) ?_
            refine hy_iadd (i := 36) rfl (by show -2147483648 ≤ t1 59 10 + 1 ∧ t1 59 10 + 1 ≤ 2147483647; omega) ?_
            refine hy_put (i := 37) (fk := 10) rfl rfl rfl rfl ?_
            refine hy_goto (i := 38) (tt := 6) rfl ?_
            refine ih (p + 1) (10 * v + B p - 48) _ (by omega) (by omega) (by show t1 59 10 + 1 = _; omega) (by show 10 * t1 59 13 + mp_here t1 - 48 = _; omega) ((hF.up rfl).up rfl) (by omega) (by omega) (by omega) (by omega) (by omega) (by omega) (by omega) hv
          · omega
      · rw [if_neg hd] at hv
        refine hy_aload (i := 6) rfl rfl ?_
        refine hy_cV0e (i := 7) rfl mj_M_isDigit (by decide) rfl (Nat.le_of_ble_eq_true rfl) rfl rfl rfl (c_M_isDigit (by assumption)) ?_
        refine hy_ib_eq (i := 8) (tt := 39) rfl (fun zc1 => ?_) (fun zc1 => ?_)
        · refine hy_const (i := 39) rfl (by decide) ?_
          refine hy_zreturn (i := 40) rfl rfl (by first | decide | exact hy_b01 _) ?_
          rw [← hv]
          exact ⟨hF, rfl, h10, h13⟩
        · have := mp_dig_h (by assumption); omega
  refine hy_aload (i := 0) rfl rfl ?_
  refine hy_get (i := 1) (fk := 10) rfl rfl rfl ?_
  refine hy_istore (i := 2) rfl ?_
  refine hy_aload (i := 3) rfl rfl ?_
  refine hy_const (i := 4) rfl (by decide) ?_
  refine hy_put (i := 5) (fk := 13) rfl rfl rfl rfl ?_
  rw [hp0]
  exact loop 5 s.1 0 _ (by omega) hp hp0 rfl (hy_F.rf.up rfl) (by decide) (fun _ => rfl) (by omega) (by omega) (by omega) (by omega) (by omega) hG
theorem c_M_opens {s : Zs} {what : Int} {sl : Nat} (hw : 0 ≤ what ∧ what ≤ 14) (hR : az_R t s) (hk : az_ok sl s) : hy_Ct sc hm_M_opens 1 [.inr (some 59), .inl what] t (az_P t (az_open what s)) := by
  refine hy_mk_ct ok_M_opens ck_M_opens (Nat.le_of_ble_eq_true rfl) ?_
  obtain ⟨k1, k2, k3, k4, k5, k6⟩ := id hk
  obtain ⟨r1, r2, r3, r4, r5, r6⟩ := id hR
  unfold az_open
  by_cases h6 : s.2.2.2.2 = 6
  · rw [if_pos h6]
    refine hy_aload (i := 0) rfl rfl ?_
    refine hy_get (i := 1) (fk := 14) rfl rfl rfl ?_
    refine hy_const (i := 2) rfl (by decide) ?_
    refine hy_ic_ne (i := 3) (tt := 10) rfl (fun zc1 => ?_) (fun zc1 => ?_)
    · omega
    · refine hy_aload (i := 4) rfl rfl ?_
      refine hy_const (i := 5) rfl (by decide) ?_
      refine hy_aload (i := 6) rfl rfl ?_
      refine hy_get (i := 7) (fk := 10) rfl rfl rfl ?_
      refine hy_cV2e (i := 8) rfl mj_M_wrongAt (by decide) rfl (Nat.le_of_ble_eq_true rfl) rfl rfl rfl (c_M_wrongAt (by decide) (by omega)) ?_
      refine hy_zreturn (i := 9) rfl rfl (by first | decide | exact hy_b01 _) ?_
      exact ⟨hy_F.rf.up rfl, rfl, by show -1000 * 5 - t 59 10 = _; omega⟩
  · rw [if_neg h6]
    have e14 : t 59 14 + 1 = s.2.2.2.2 + 1 := by omega
    have hR2 := az_R_step (az_R_push (az_R_o hR (s.2.2.2.2 + 1)) (1048576 * what))
    refine hy_aload (i := 0) rfl rfl ?_
    refine hy_get (i := 1) (fk := 14) rfl rfl rfl ?_
    refine hy_const (i := 2) rfl (by decide) ?_
    refine hy_ic_ne (i := 3) (tt := 10) rfl (fun zc1 => ?_) (fun zc1 => ?_)
    · refine hy_aload (i := 10) rfl rfl ?_
      refine hy_aload (i := 11) rfl rfl ?_
      refine hy_get (i := 12) (fk := 14) rfl rfl rfl ?_
      refine hy_const (i := 13) rfl (by decide) ?_
      refine hy_iadd (i := 14) rfl (by omega) ?_
      rw [e14]
      refine hy_put (i := 15) (fk := 14) rfl rfl rfl rfl ?_
      refine hy_aload (i := 16) rfl rfl ?_
      refine hy_getr (i := 17) rfl rfl ?_
      refine hy_aload (i := 18) rfl rfl ?_
      refine hy_get (i := 19) (fk := 16) rfl rfl rfl ?_
      refine hy_const (i := 20) rfl (by decide) ?_
      refine hy_iload (i := 21) rfl rfl ?_
      refine hy_imul (i := 22) rfl (by omega) ?_
      refine hy_iast (i := 23) rfl rfl (by show 0 ≤ t 59 16 ∧ t 59 16 < 260; omega) rfl ?_
      refine hy_aload (i := 24) rfl rfl ?_
      refine hy_aload (i := 25) rfl rfl ?_
      refine hy_get (i := 26) (fk := 16) rfl rfl rfl ?_
      refine hy_const (i := 27) rfl (by decide) ?_
      refine hy_iadd (i := 28) rfl (by show -2147483648 ≤ t 59 16 + 1 ∧ t 59 16 + 1 ≤ 2147483647; omega) ?_
      refine hy_put (i := 29) (fk := 16) rfl rfl rfl rfl ?_
      refine hy_aload (i := 30) rfl rfl ?_
      refine hy_aload (i := 31) rfl rfl ?_
      refine hy_get (i := 32) (fk := 10) rfl rfl rfl ?_
      refine hy_const (i := 33) rfl (by decide) ?_
      refine hy_iadd (i := 34) rfl (by show -2147483648 ≤ t 59 10 + 1 ∧ t 59 10 + 1 ≤ 2147483647; omega) ?_
      refine hy_put (i := 35) (fk := 10) rfl rfl rfl rfl ?_
      refine hy_const (i := 36) rfl (by decide) ?_
      refine hy_zreturn (i := 37) rfl rfl (by first | decide | exact hy_b01 _) ?_
      exact ⟨((((hy_F.rf.up rfl).up rfl).up rfl).up rfl), rfl, hR2⟩
    · omega
theorem c_M_factOf {c : Int} : hy_Ct sc hm_M_factOf 0 [.inl c] t (hy_e (some (lp_letter c)) t) := by
  refine hy_mk_ct ok_M_factOf ck_M_factOf (Nat.le_of_ble_eq_true rfl) ?_
  refine hy_iload (i := 0) rfl rfl ?_
  by_cases zq1 : c = 97
  · refine hy_tsw (i := 1) (tt := 12) rfl (by rw [zq1]; rfl) ?_
    refine hy_const (i := 12) rfl (by decide) ?_
    refine hy_ireturn (i := 13) rfl rfl ?_
    exact ⟨congrArg some (by unfold lp_letter; (repeat (first | (rw [if_pos (by omega)]; done) | rw [if_neg (by omega)]))), rfl⟩
  · skip
    by_cases zq1 : c = 98
    · refine hy_tsw (i := 1) (tt := 14) rfl (by rw [zq1]; rfl) ?_
      refine hy_const (i := 14) rfl (by decide) ?_
      refine hy_ireturn (i := 15) rfl rfl ?_
      exact ⟨congrArg some (by unfold lp_letter; (repeat (first | (rw [if_pos (by omega)]; done) | rw [if_neg (by omega)]))), rfl⟩
    · skip
      by_cases zq1 : c = 99
      · refine hy_tsw (i := 1) (tt := 4) rfl (by rw [zq1]; rfl) ?_
        refine hy_const (i := 4) rfl (by decide) ?_
        refine hy_ireturn (i := 5) rfl rfl ?_
        exact ⟨congrArg some (by unfold lp_letter; (repeat (first | (rw [if_pos (by omega)]; done) | rw [if_neg (by omega)]))), rfl⟩
      · skip
        by_cases zq1 : c = 100
        · refine hy_tsw (i := 1) (tt := 8) rfl (by rw [zq1]; rfl) ?_
          refine hy_const (i := 8) rfl (by decide) ?_
          refine hy_ireturn (i := 9) rfl rfl ?_
          exact ⟨congrArg some (by unfold lp_letter; (repeat (first | (rw [if_pos (by omega)]; done) | rw [if_neg (by omega)]))), rfl⟩
        · skip
          by_cases zq1 : c = 101
          · refine hy_tsw (i := 1) (tt := 2) rfl (by rw [zq1]; rfl) ?_
            refine hy_const (i := 2) rfl (by decide) ?_
            refine hy_ireturn (i := 3) rfl rfl ?_
            exact ⟨congrArg some (by unfold lp_letter; (repeat (first | (rw [if_pos (by omega)]; done) | rw [if_neg (by omega)]))), rfl⟩
          · skip
            by_cases zq1 : c = 103
            · refine hy_tsw (i := 1) (tt := 18) rfl (by rw [zq1]; rfl) ?_
              refine hy_const (i := 18) rfl (by decide) ?_
              refine hy_ireturn (i := 19) rfl rfl ?_
              exact ⟨congrArg some (by unfold lp_letter; (repeat (first | (rw [if_pos (by omega)]; done) | rw [if_neg (by omega)]))), rfl⟩
            · skip
              by_cases zq1 : c = 109
              · refine hy_tsw (i := 1) (tt := 10) rfl (by rw [zq1]; rfl) ?_
                refine hy_const (i := 10) rfl (by decide) ?_
                refine hy_ireturn (i := 11) rfl rfl ?_
                exact ⟨congrArg some (by unfold lp_letter; (repeat (first | (rw [if_pos (by omega)]; done) | rw [if_neg (by omega)]))), rfl⟩
              · skip
                by_cases zq1 : c = 110
                · refine hy_tsw (i := 1) (tt := 16) rfl (by rw [zq1]; rfl) ?_
                  refine hy_const (i := 16) rfl (by decide) ?_
                  refine hy_ireturn (i := 17) rfl rfl ?_
                  exact ⟨congrArg some (by unfold lp_letter; (repeat (first | (rw [if_pos (by omega)]; done) | rw [if_neg (by omega)]))), rfl⟩
                · skip
                  by_cases zq1 : c = 111
                  · refine hy_tsw (i := 1) (tt := 20) rfl (by rw [zq1]; rfl) ?_
                    refine hy_const (i := 20) rfl (by decide) ?_
                    refine hy_ireturn (i := 21) rfl rfl ?_
                    exact ⟨congrArg some (by unfold lp_letter; (repeat (first | (rw [if_pos (by omega)]; done) | rw [if_neg (by omega)]))), rfl⟩
                  · skip
                    by_cases zq1 : c = 113
                    · refine hy_tsw (i := 1) (tt := 6) rfl (by rw [zq1]; rfl) ?_
                      refine hy_const (i := 6) rfl (by decide) ?_
                      refine hy_ireturn (i := 7) rfl rfl ?_
                      exact ⟨congrArg some (by unfold lp_letter; (repeat (first | (rw [if_pos (by omega)]; done) | rw [if_neg (by omega)]))), rfl⟩
                    · skip
                      refine hy_tsw (i := 1) (tt := 22) rfl (by rcases (show c < 97 ∨ 113 < c ∨ c = 102 ∨ c = 104 ∨ c = 105 ∨ c = 106 ∨ c = 107 ∨ c = 108 ∨ c = 112 by omega) with hh | hh | hh | hh | hh | hh | hh | hh | hh <;> first | (rw [if_pos (by omega)]; rfl) | (rw [hh]; rfl)) ?_
                      refine hy_const (i := 22) rfl (by decide) ?_
                      refine hy_ireturn (i := 23) rfl rfl ?_
                      exact ⟨congrArg some (by unfold lp_letter; (repeat (first | (rw [if_pos (by omega)]; done) | rw [if_neg (by omega)]))), rfl⟩
theorem c_M_sumSign {c : Int} : hy_Ct sc hm_M_sumSign 0 [.inl c] t (hy_e (some (az_sgn c)) t) := by
  refine hy_mk_ct ok_M_sumSign ck_M_sumSign (Nat.le_of_ble_eq_true rfl) ?_
  refine hy_iload (i := 0) rfl rfl ?_
  refine hy_const (i := 1) rfl (by decide) ?_
  refine hy_ic_ne (i := 2) (tt := 5) rfl (fun zc1 => ?_) (fun zc1 => ?_)
  · refine hy_iload (i := 5) rfl rfl ?_
    refine hy_const (i := 6) rfl (by decide) ?_
    refine hy_ic_ne (i := 7) (tt := 10) rfl (fun zc2 => ?_) (fun zc2 => ?_)
    · refine hy_iload (i := 10) rfl rfl ?_
      refine hy_const (i := 11) rfl (by decide) ?_
      refine hy_ic_ne (i := 12) (tt := 15) rfl (fun zc3 => ?_) (fun zc3 => ?_)
      · refine hy_iload (i := 15) rfl rfl ?_
        refine hy_const (i := 16) rfl (by decide) ?_
        refine hy_ic_ne (i := 17) (tt := 20) rfl (fun zc4 => ?_) (fun zc4 => ?_)
        · refine hy_iload (i := 20) rfl rfl ?_
          refine hy_const (i := 21) rfl (by decide) ?_
          refine hy_ic_ne (i := 22) (tt := 25) rfl (fun zc5 => ?_) (fun zc5 => ?_)
          · refine hy_const (i := 25) rfl (by decide) ?_
            refine hy_ireturn (i := 26) rfl rfl ?_
            exact ⟨congrArg some (by unfold az_sgn; (repeat (first | (rw [if_pos (by omega)]; done) | rw [if_neg (by omega)]))), rfl⟩
          · refine hy_const (i := 23) rfl (by decide) ?_
            refine hy_goto (i := 24) (tt := 26) rfl ?_
            refine hy_ireturn (i := 26) rfl rfl ?_
            exact ⟨congrArg some (by unfold az_sgn; (repeat (first | (rw [if_pos (by omega)]; done) | rw [if_neg (by omega)]))), rfl⟩
        · refine hy_const (i := 18) rfl (by decide) ?_
          refine hy_goto (i := 19) (tt := 26) rfl ?_
          refine hy_ireturn (i := 26) rfl rfl ?_
          exact ⟨congrArg some (by unfold az_sgn; (repeat (first | (rw [if_pos (by omega)]; done) | rw [if_neg (by omega)]))), rfl⟩
      · refine hy_const (i := 13) rfl (by decide) ?_
        refine hy_goto (i := 14) (tt := 26) rfl ?_
        refine hy_ireturn (i := 26) rfl rfl ?_
        exact ⟨congrArg some (by unfold az_sgn; (repeat (first | (rw [if_pos (by omega)]; done) | rw [if_neg (by omega)]))), rfl⟩
    · refine hy_const (i := 8) rfl (by decide) ?_
      refine hy_goto (i := 9) (tt := 26) rfl ?_
      refine hy_ireturn (i := 26) rfl rfl ?_
      exact ⟨congrArg some (by unfold az_sgn; (repeat (first | (rw [if_pos (by omega)]; done) | rw [if_neg (by omega)]))), rfl⟩
  · refine hy_const (i := 3) rfl (by decide) ?_
    refine hy_goto (i := 4) (tt := 26) rfl ?_
    refine hy_ireturn (i := 26) rfl rfl ?_
    exact ⟨congrArg some (by unfold az_sgn; (repeat (first | (rw [if_pos (by omega)]; done) | rw [if_neg (by omega)]))), rfl⟩
end MV
