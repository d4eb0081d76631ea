/-! the class's parting: that it ends, and what it leaves -/
def hy_p (P : Int → Prop) (t : hy_T) : Option Int → hy_T → Prop := fun r t' => ∃ x : Int, r = some x ∧ P x ∧ t' = t
theorem tp_at_in {t : hy_T} (h : tp_ok t) (k : Int) : 0 ≤ tp_at t k ∧ tp_at t k ≤ 255 := by
  have h1 := h.l
  unfold tp_at
  split
  · exact h.b _ (by omega)
  · decide
section PT2
variable {sc : List Int32} {t : hy_T}
theorem c_W_placeIn_2 {row q : Int} (hr : 0 ≤ row ∧ row < 100) (hq : 0 ≤ q ∧ q ≤ 3) : hy_Ct sc hm_W_placeIn 0 [.inl row, .inl 2, .inl q] t (hy_p (fun x => 0 ≤ x ∧ x < 2) t) := by
  refine hy_mk_ct ok_W_placeIn ck_W_placeIn (Nat.le_of_ble_eq_true rfl) ?_
  have loop : ∀ (n : Nat), ∀ (r l : Int), l = q + n → l ≤ 3 → (0 ≤ r ∧ r < 100) → hy_W sc hm_W_placeIn 0 4 [.inl row, .inl 2, .inl q, .inl r, .inl l] [] t (hy_p (fun x => 0 ≤ x ∧ x < 2) t) := by
    intro n
    induction n with
    | zero =>
      intro r l hl hl3 hr
      refine hy_iload (i := 4) rfl rfl ?_
      refine hy_iload (i := 5) rfl rfl ?_
      refine hy_ic_le (i := 6) (tt := 17) rfl (fun zc1 => ?_) (fun zc1 => ?_)
      · refine hy_iload (i := 17) rfl rfl ?_
        refine hy_if_le (i := 18) (tt := 23) rfl (fun zc2 => ?_) (fun zc2 => ?_)
        · omega
        · refine hy_iload (i := 19) rfl rfl ?_
          refine hy_iload (i := 20) rfl rfl ?_
          refine hy_irem (i := 21) rfl (by omega) (by omega) ?_
          refine hy_goto (i := 22) (tt := 24) rfl ?_
          refine hy_ireturn (i := 24) rfl rfl ?_
          exact ⟨_, rfl, by omega, rfl⟩
      · omega
    | succ n ih =>
      intro r l hl hl3 hr
      refine hy_iload (i := 4) rfl rfl ?_
      refine hy_iload (i := 5) rfl rfl ?_
      refine hy_ic_le (i := 6) (tt := 17) rfl (fun zc1 => ?_) (fun zc1 => ?_)
      · omega
      · refine hy_iload (i := 7) rfl rfl ?_
        refine hy_if_le (i := 8) (tt := 13) rfl (fun zc2 => ?_) (fun zc2 => ?_)
        · omega
        · refine hy_iload (i := 9) rfl rfl ?_
          refine hy_iload (i := 10) rfl rfl ?_
          refine hy_idiv (i := 11) rfl (by omega) (by omega) ?_
          refine hy_goto (i := 12) (tt := 14) rfl ?_
          refine hy_istore (i := 14) rfl ?_
          refine hy_iinc (i := 15) rfl rfl (by omega) ?_
          refine hy_goto (i := 16) (tt := 4) rfl ?_
          exact ih _ _ (by omega) (by omega) (by omega)
  refine hy_iload (i := 0) rfl rfl ?_
  refine hy_istore (i := 1) rfl ?_
  refine hy_const (i := 2) rfl (by decide) ?_
  refine hy_istore (i := 3) rfl ?_
  exact loop (3 - q).toNat _ _ (by omega) (by decide) hr
theorem c_W_thoughtOf_2 {row a b : Int} (h : tp_ok t) (hr : 0 ≤ row ∧ row < 100) (ha : 0 ≤ a ∧ a ≤ 3) : hy_Ct sc hm_W_thoughtOf 1 [.inr (some 2), .inl row, .inl 2, .inl a, .inl b] t (hy_p (fun x => 0 ≤ x ∧ x ≤ 1020) t) := by
  refine hy_mk_ct ok_W_thoughtOf ck_W_thoughtOf (Nat.le_of_ble_eq_true rfl) ?_
  have loop : ∀ (n : Nat), ∀ (k : Nat) (s : Int), n + k = 4 → (0 ≤ s ∧ s ≤ 255 * k) → hy_W sc hm_W_thoughtOf 1 4 [.inr (some 2), .inl row, .inl 2, .inl a, .inl b, .inl s, .inl (k : Int)] [] t (hy_p (fun x => 0 ≤ x ∧ x ≤ 1020) t) := by
    intro n
    induction n with
    | zero =>
      intro k s hn hs
      refine hy_iload (i := 4) rfl rfl ?_
      refine hy_const (i := 5) rfl (by decide) ?_
      refine hy_ic_ge (i := 6) (tt := 26) rfl (fun zc1 => ?_) (fun zc1 => ?_)
      · refine hy_iload (i := 26) rfl rfl ?_
        refine hy_ireturn (i := 27) rfl rfl ?_
        exact ⟨_, rfl, by omega, rfl⟩
      · omega
    | succ n ih =>
      intro k s hn hs
      have hb := tp_at_in h (4 * a + k)
      refine hy_iload (i := 4) rfl rfl ?_
      refine hy_const (i := 5) rfl (by decide) ?_
      refine hy_ic_ge (i := 6) (tt := 26) rfl (fun zc1 => ?_) (fun zc1 => ?_)
      · omega
      · refine hy_iload (i := 7) rfl rfl ?_
        refine hy_iload (i := 8) rfl rfl ?_
        refine hy_iload (i := 9) rfl rfl ?_
        refine hy_cS3 (i := 10) rfl (by decide) mj_W_placeIn (by decide) rfl (Nat.le_of_ble_eq_true rfl) (c_W_placeIn_2 (by omega) (by omega)) (fun r1_ t1_ h1 => ?_)
        obtain ⟨x1, rfl, hx1, rfl⟩ := h1
        dsimp only [hy_st, List.cons_append, List.nil_append]
        refine hy_iload (i := 11) rfl rfl ?_
        refine hy_ic_ne (i := 12) (tt := 24) rfl (fun zc2 => ?_) (fun zc2 => ?_)
        · refine hy_iinc (i := 24) rfl rfl (by omega) ?_
          refine hy_goto (i := 25) (tt := 4) rfl ?_
          exact ih (k + 1) _ (by omega) (by omega)
        · refine hy_iload (i := 13) rfl rfl ?_
          refine hy_aload (i := 14) rfl rfl ?_
          refine hy_getr (i := 15) rfl rfl ?_
          refine hy_const (i := 16) rfl (by decide) ?_
          refine hy_iload (i := 17) rfl rfl ?_
          refine hy_imul (i := 18) rfl (by omega) ?_
          refine hy_iload (i := 19) rfl rfl ?_
          refine hy_iadd (i := 20) rfl (by omega) ?_
          refine hy_cV1e (i := 21) rfl mj_T_at (by decide) rfl (Nat.le_of_ble_eq_true rfl) rfl rfl rfl (c_T_at (by have := tp_ok.l (by assumption); omega)) ?_
          refine hy_iadd (i := 22) rfl (by omega) ?_
          refine hy_istore (i := 23) rfl ?_
          refine hy_iinc (i := 24) rfl rfl (by omega) ?_
          refine hy_goto (i := 25) (tt := 4) rfl ?_
          exact ih (k + 1) _ (by omega) (by omega)
  refine hy_const (i := 0) rfl (by decide) ?_
  refine hy_istore (i := 1) rfl ?_
  refine hy_const (i := 2) rfl (by decide) ?_
  refine hy_istore (i := 3) rfl ?_
  exact loop 4 0 _ rfl (by decide)
theorem c_W_leastOf_2 {row : Int} (h : tp_ok t) (hr : 0 ≤ row ∧ row < 100) : hy_Ct sc hm_W_leastOf 2 [.inr (some 2), .inl row, .inl 2] t (hy_p (fun x => 0 ≤ x ∧ x ≤ 1020) t) := by
  refine hy_mk_ct ok_W_leastOf ck_W_leastOf (Nat.le_of_ble_eq_true rfl) ?_
  have loop : ∀ (n : Nat), ∀ (k : Nat) (s : Int), n + k = 2 → (0 ≤ s ∧ s ≤ 1020) → hy_W sc hm_W_leastOf 2 9 [.inr (some 2), .inl row, .inl 2, .inl s, .inl (k : Int)] [] t (hy_p (fun x => 0 ≤ x ∧ x ≤ 1020) t) := by
    intro n
    induction n with
    | zero =>
      intro k s hn hs
      refine hy_iload (i := 9) rfl rfl ?_
      refine hy_iload (i := 10) rfl rfl ?_
      refine hy_ic_ge (i := 11) (tt := 23) rfl (fun zc1 => ?_) (fun zc1 => ?_)
      · refine hy_iload (i := 23) rfl rfl ?_
        refine hy_ireturn (i := 24) rfl rfl ?_
        exact ⟨_, rfl, by omega, rfl⟩
      · omega
    | succ n ih =>
      intro k s hn hs
      refine hy_iload (i := 9) rfl rfl ?_
      refine hy_iload (i := 10) rfl rfl ?_
      refine hy_ic_ge (i := 11) (tt := 23) rfl (fun zc1 => ?_) (fun zc1 => ?_)
      · omega
      · refine hy_iload (i := 12) rfl rfl ?_
        refine hy_aload (i := 13) rfl rfl ?_
        refine hy_iload (i := 14) rfl rfl ?_
        refine hy_iload (i := 15) rfl rfl ?_
        refine hy_iload (i := 16) rfl rfl ?_
        refine hy_iload (i := 17) rfl rfl ?_
        refine hy_cV4 (i := 18) rfl mj_W_thoughtOf (by decide) rfl (Nat.le_of_ble_eq_true rfl) rfl rfl rfl (c_W_thoughtOf_2 (by assumption) (by omega) (by omega)) (fun r1_ t1_ h1 => ?_)
        obtain ⟨x1, rfl, hx1, rfl⟩ := h1
        dsimp only [hy_st, List.cons_append, List.nil_append]
        refine hy_min (i := 19) rfl (Nat.le_of_ble_eq_true rfl) ?_
        refine hy_istore (i := 20) rfl ?_
        refine hy_iinc (i := 21) rfl rfl (by omega) ?_
        refine hy_goto (i := 22) (tt := 9) rfl ?_
        exact ih (k + 1) _ (by omega) (by split <;> omega)
  refine hy_aload (i := 0) rfl rfl ?_
  refine hy_iload (i := 1) rfl rfl ?_
  refine hy_iload (i := 2) rfl rfl ?_
  refine hy_const (i := 3) rfl (by decide) ?_
  refine hy_const (i := 4) rfl (by decide) ?_
  refine hy_cV4 (i := 5) rfl mj_W_thoughtOf (by decide) rfl (Nat.le_of_ble_eq_true rfl) rfl rfl rfl (c_W_thoughtOf_2 (by assumption) (by omega) (by omega)) (fun r1_ t1_ h1 => ?_)
  obtain ⟨x1, rfl, hx1, rfl⟩ := h1
  dsimp only [hy_st, List.cons_append, List.nil_append]
  refine hy_istore (i := 6) rfl ?_
  refine hy_const (i := 7) rfl (by decide) ?_
  refine hy_istore (i := 8) rfl ?_
  exact loop (2 - 1) 1 _ rfl (by omega)
theorem c_W_fairestRow_2 (h : tp_ok t) : hy_Ct sc hm_W_fairestRow 3 [.inr (some 2), .inl 2] t (hy_p (fun x => 0 ≤ x ∧ x < 100) t) := by
  refine hy_mk_ct ok_W_fairestRow ck_W_fairestRow (Nat.le_of_ble_eq_true rfl) ?_
  have loop : ∀ (n : Nat), ∀ (k : Nat) (b ms : Int) (v6 : hy_V), n + k = 2 * 2 * 2 * 2 → (0 ≤ b ∧ b < 100) → hy_W sc hm_W_fairestRow 3 14 [.inr (some 2), .inl 2, .inl (2 * 2 * 2 * 2), .inl b, .inl ms, .inl (k : Int), v6] [] t (hy_p (fun x => 0 ≤ x ∧ x < 100) t) := by
    intro n
    induction n with
    | zero =>
      intro k b ms v6 hn hb
      refine hy_iload (i := 14) rfl rfl ?_
      refine hy_iload (i := 15) rfl rfl ?_
      refine hy_ic_ge (i := 16) (tt := 31) rfl (fun zc1 => ?_) (fun zc1 => ?_)
      · refine hy_iload (i := 31) rfl rfl ?_
        refine hy_ireturn (i := 32) rfl rfl ?_
        exact ⟨_, rfl, by omega, rfl⟩
      · omega
    | succ n ih =>
      intro k b ms v6 hn hb
      refine hy_iload (i := 14) rfl rfl ?_
      refine hy_iload (i := 15) rfl rfl ?_
      refine hy_ic_ge (i := 16) (tt := 31) rfl (fun zc1 => ?_) (fun zc1 => ?_)
      · omega
      · refine hy_aload (i := 17) rfl rfl ?_
        refine hy_iload (i := 18) rfl rfl ?_
        refine hy_iload (i := 19) rfl rfl ?_
        refine hy_cV2 (i := 20) rfl mj_W_leastOf (by decide) rfl (Nat.le_of_ble_eq_true rfl) rfl rfl rfl (c_W_leastOf_2 (by assumption) (by omega)) (fun r1_ t1_ h1 => ?_)
        obtain ⟨x1, rfl, hx1, rfl⟩ := h1
        dsimp only [hy_st, List.cons_append, List.nil_append]
        refine hy_istore (i := 21) rfl ?_
        refine hy_iload (i := 22) rfl rfl ?_
        refine hy_iload (i := 23) rfl rfl ?_
        refine hy_ic_le (i := 24) (tt := 29) rfl (fun zc2 => ?_) (fun zc2 => ?_)
        · refine hy_iinc (i := 29) rfl rfl (by omega) ?_
          refine hy_goto (i := 30) (tt := 14) rfl ?_
          exact ih (k + 1) _ _ _ (by omega) (by omega)
        · refine hy_iload (i := 25) rfl rfl ?_
          refine hy_istore (i := 26) rfl ?_
          refine hy_iload (i := 27) rfl rfl ?_
          refine hy_istore (i := 28) rfl ?_
          refine hy_iinc (i := 29) rfl rfl (by omega) ?_
          refine hy_goto (i := 30) (tt := 14) rfl ?_
          exact ih (k + 1) _ _ _ (by omega) (by omega)
  refine hy_iload (i := 0) rfl rfl ?_
  refine hy_iload (i := 1) rfl rfl ?_
  refine hy_imul (i := 2) rfl (by omega) ?_
  refine hy_iload (i := 3) rfl rfl ?_
  refine hy_imul (i := 4) rfl (by omega) ?_
  refine hy_iload (i := 5) rfl rfl ?_
  refine hy_imul (i := 6) rfl (by omega) ?_
  refine hy_istore (i := 7) rfl ?_
  refine hy_const (i := 8) rfl (by decide) ?_
  refine hy_istore (i := 9) rfl ?_
  refine hy_const (i := 10) rfl (by decide) ?_
  refine hy_istore (i := 11) rfl ?_
  refine hy_const (i := 12) rfl (by decide) ?_
  refine hy_istore (i := 13) rfl ?_
  exact loop (2 * 2 * 2 * 2) 0 _ _ _ rfl (by decide)
theorem c_W_envies_2 {row a b : Int} (h : tp_ok t) (hr : 0 ≤ row ∧ row < 100) (ha : 0 ≤ a ∧ a ≤ 3) : hy_Ct sc hm_W_envies 2 [.inr (some 2), .inl row, .inl 2, .inl a, .inl b] t (hy_p (fun _ => True) t) := by
  refine hy_mk_ct ok_W_envies ck_W_envies (Nat.le_of_ble_eq_true rfl) ?_
  refine hy_aload (i := 0) rfl rfl ?_
  refine hy_iload (i := 1) rfl rfl ?_
  refine hy_iload (i := 2) rfl rfl ?_
  refine hy_iload (i := 3) rfl rfl ?_
  refine hy_iload (i := 4) rfl rfl ?_
  refine hy_cV4 (i := 5) rfl mj_W_thoughtOf (by decide) rfl (Nat.le_of_ble_eq_true rfl) rfl rfl rfl (c_W_thoughtOf_2 (by assumption) (by omega) (by omega)) (fun r1_ t1_ h1 => ?_)
  obtain ⟨x1, rfl, hx1, rfl⟩ := h1
  dsimp only [hy_st, List.cons_append, List.nil_append]
  refine hy_aload (i := 6) rfl rfl ?_
  refine hy_iload (i := 7) rfl rfl ?_
  refine hy_iload (i := 8) rfl rfl ?_
  refine hy_iload (i := 9) rfl rfl ?_
  refine hy_iload (i := 10) rfl rfl ?_
  refine hy_cV4 (i := 11) rfl mj_W_thoughtOf (by decide) rfl (Nat.le_of_ble_eq_true rfl) rfl rfl rfl (c_W_thoughtOf_2 (by assumption) (by omega) (by omega)) (fun r2_ t2_ h2 => ?_)
  obtain ⟨x2, rfl, hx2, rfl⟩ := h2
  dsimp only [hy_st, List.cons_append, List.nil_append]
  refine hy_ic_le (i := 12) (tt := 15) rfl (fun zc1 => ?_) (fun zc1 => ?_)
  · refine hy_const (i := 15) rfl (by decide) ?_
    refine hy_zreturn (i := 16) rfl rfl (by first | decide | exact hy_b01 _) ?_
    exact ⟨_, rfl, trivial, rfl⟩
  · refine hy_const (i := 13) rfl (by decide) ?_
    refine hy_goto (i := 14) (tt := 16) rfl ?_
    refine hy_zreturn (i := 16) rfl rfl (by first | decide | exact hy_b01 _) ?_
    exact ⟨_, rfl, trivial, rfl⟩
theorem c_W_envyOf_2 {row : Int} (h : tp_ok t) (hr : 0 ≤ row ∧ row < 100) : hy_Ct sc hm_W_envyOf 3 [.inr (some 2), .inl row, .inl 2] t (hy_p (fun _ => True) t) := by
  refine hy_mk_ct ok_W_envyOf ck_W_envyOf (Nat.le_of_ble_eq_true rfl) ?_
  have loop : ∀ (n : Nat), ∀ (k : Nat) (s : Int) (v5 : hy_V), n + k = 2 → (0 ≤ s ∧ s ≤ 3 * k) → hy_W sc hm_W_envyOf 3 4 [.inr (some 2), .inl row, .inl 2, .inl s, .inl (k : Int), v5] [] t (hy_p (fun _ => True) t) := by
    intro n
    induction n with
    | zero =>
      intro k s v5 hn hs
      refine hy_iload (i := 4) rfl rfl ?_
      refine hy_iload (i := 5) rfl rfl ?_
      refine hy_ic_ge (i := 6) (tt := 33) rfl (fun zc1 => ?_) (fun zc1 => ?_)
      · refine hy_iload (i := 33) rfl rfl ?_
        refine hy_ireturn (i := 34) rfl rfl ?_
        exact ⟨_, rfl, trivial, rfl⟩
      · omega
    | succ n ih =>
      intro k s v5 hn hs
      have inner : ∀ (n2 : Nat), ∀ (j : Nat) (s2 : Int), n2 + j = 2 → (0 ≤ s2 ∧ s2 + n2 ≤ 3 * k + 3) → hy_W sc hm_W_envyOf 3 11 [.inr (some 2), .inl row, .inl 2, .inl s2, .inl (k : Int), .inl (j : Int)] [] t (hy_p (fun _ => True) t) := by
        intro n2
        induction n2 with
        | zero =>
          intro j s2 hn2 hs2
          refine hy_iload (i := 11) rfl rfl ?_
          refine hy_iload (i := 12) rfl rfl ?_
          refine hy_ic_ge (i := 13) (tt := 31) rfl (fun zc1 => ?_) (fun zc1 => ?_)
          · refine hy_iinc (i := 31) rfl rfl (by omega) ?_
            refine hy_goto (i := 32) (tt := 4) rfl ?_
            exact ih (k + 1) _ _ (by omega) (by omega)
          · omega
        | succ n2 ih2 =>
          intro j s2 hn2 hs2
          refine hy_iload (i := 11) rfl rfl ?_
          refine hy_iload (i := 12) rfl rfl ?_
          refine hy_ic_ge (i := 13) (tt := 31) rfl (fun zc1 => ?_) (fun zc1 => ?_)
          · omega
          · refine hy_aload (i := 14) rfl rfl ?_
            refine hy_iload (i := 15) rfl rfl ?_
            refine hy_iload (i := 16) rfl rfl ?_
            refine hy_iload (i := 17) rfl rfl ?_
            refine hy_iload (i := 18) rfl rfl ?_
            refine hy_cV4 (i := 19) rfl mj_W_envies (by decide) rfl (Nat.le_of_ble_eq_true rfl) rfl rfl rfl (c_W_envies_2 (by assumption) (by omega) (by omega)) (fun r1_ t1_ h1 => ?_)
            obtain ⟨x1, rfl, hx1, rfl⟩ := h1
            dsimp only [hy_st, List.cons_append, List.nil_append]
            refine hy_if_ne (i := 20) (tt := 28) rfl (fun zc2 => ?_) (fun zc2 => ?_)
            · refine hy_iinc (i := 28) rfl rfl (by omega) ?_
              refine hy_iinc (i := 29) rfl rfl (by omega) ?_
              refine hy_goto (i := 30) (tt := 11) rfl ?_
              exact ih2 (j + 1) _ (by omega) (by omega)
            · refine hy_aload (i := 21) rfl rfl ?_
              refine hy_iload (i := 22) rfl rfl ?_
              refine hy_iload (i := 23) rfl rfl ?_
              refine hy_iload (i := 24) rfl rfl ?_
              refine hy_iload (i := 25) rfl rfl ?_
              refine hy_cV4 (i := 26) rfl mj_W_envies (by decide) rfl (Nat.le_of_ble_eq_true rfl) rfl rfl rfl (c_W_envies_2 (by assumption) (by omega) (by omega)) (fun r2_ t2_ h2 => ?_)
              obtain ⟨x2, rfl, hx2, rfl⟩ := h2
              dsimp only [hy_st, List.cons_append, List.nil_append]
              refine hy_if_eq (i := 27) (tt := 29) rfl (fun zc3 => ?_) (fun zc3 => ?_)
              · refine hy_iinc (i := 29) rfl rfl (by omega) ?_
                refine hy_goto (i := 30) (tt := 11) rfl ?_
                exact ih2 (j + 1) _ (by omega) (by omega)
              · refine hy_iinc (i := 28) rfl rfl (by omega) ?_
                refine hy_iinc (i := 29) rfl rfl (by omega) ?_
                refine hy_goto (i := 30) (tt := 11) rfl ?_
                exact ih2 (j + 1) _ (by omega) (by omega)
      refine hy_iload (i := 4) rfl rfl ?_
      refine hy_iload (i := 5) rfl rfl ?_
      refine hy_ic_ge (i := 6) (tt := 33) rfl (fun zc1 => ?_) (fun zc1 => ?_)
      · omega
      · refine hy_iload (i := 7) rfl rfl ?_
        refine hy_const (i := 8) rfl (by decide) ?_
        refine hy_iadd (i := 9) rfl (by omega) ?_
        refine hy_istore (i := 10) rfl ?_
        exact inner (2 - (k + 1)) (k + 1) _ (by omega) (by omega)
  refine hy_const (i := 0) rfl (by decide) ?_
  refine hy_istore (i := 1) rfl ?_
  refine hy_const (i := 2) rfl (by decide) ?_
  refine hy_istore (i := 3) rfl ?_
  exact loop 2 0 _ _ rfl (by decide)
theorem c_W_areThoughts_2 {n : Int} (h : tp_ok t) (hn : n ≤ 100) : hy_Ct sc hm_W_areThoughts 1 [.inr (some 2), .inl n] t (hy_p (fun _ => True) t) := by
  refine hy_mk_ct ok_W_areThoughts ck_W_areThoughts (Nat.le_of_ble_eq_true rfl) ?_
  have loop : ∀ (m : Nat), ∀ (k : Nat), m + k = n.toNat → hy_W sc hm_W_areThoughts 1 2 [.inr (some 2), .inl n, .inl (k : Int)] [] t (hy_p (fun _ => True) t) := by
    intro m
    induction m with
    | zero =>
      intro k hm
      refine hy_iload (i := 2) rfl rfl ?_
      refine hy_iload (i := 3) rfl rfl ?_
      refine hy_ic_ge (i := 4) (tt := 15) rfl (fun zc1 => ?_) (fun zc1 => ?_)
      · refine hy_const (i := 15) rfl (by decide) ?_
        refine hy_zreturn (i := 16) rfl rfl (by first | decide | exact hy_b01 _) ?_
        exact ⟨_, rfl, trivial, rfl⟩
      · omega
    | succ m ih =>
      intro k hm
      refine hy_iload (i := 2) rfl rfl ?_
      refine hy_iload (i := 3) rfl rfl ?_
      refine hy_ic_ge (i := 4) (tt := 15) rfl (fun zc1 => ?_) (fun zc1 => ?_)
      · omega
      · refine hy_aload (i := 5) rfl rfl ?_
        refine hy_getr (i := 6) rfl rfl ?_
        refine hy_iload (i := 7) rfl rfl ?_
        refine hy_cV1e (i := 8) rfl mj_T_at (by decide) rfl (Nat.le_of_ble_eq_true rfl) rfl rfl rfl (c_T_at (by have := tp_ok.l (by assumption); omega)) ?_
        refine hy_const (i := 9) rfl (by decide) ?_
        refine hy_ic_le (i := 10) (tt := 13) rfl (fun zc2 => ?_) (fun zc2 => ?_)
        · refine hy_iinc (i := 13) rfl rfl (by omega) ?_
          refine hy_goto (i := 14) (tt := 2) rfl ?_
          exact ih (k + 1) (by omega)
        · refine hy_const (i := 11) rfl (by decide) ?_
          refine hy_zreturn (i := 12) rfl rfl (by first | decide | exact hy_b01 _) ?_
          exact ⟨_, rfl, trivial, rfl⟩
  refine hy_const (i := 0) rfl (by decide) ?_
  refine hy_istore (i := 1) rfl ?_
  exact loop n.toNat 0 rfl
end PT2
section PT3
variable {sc : List Int32} {t : hy_T}
theorem c_W_placeIn_3 {row q : Int} (hr : 0 ≤ row ∧ row < 100) (hq : 0 ≤ q ∧ q ≤ 3) : hy_Ct sc hm_W_placeIn 0 [.inl row, .inl 3, .inl q] t (hy_p (fun x => 0 ≤ x ∧ x < 3) t) := by
  refine hy_mk_ct ok_W_placeIn ck_W_placeIn (Nat.le_of_ble_eq_true rfl) ?_
  have loop : ∀ (n : Nat), ∀ (r l : Int), l = q + n → l ≤ 3 → (0 ≤ r ∧ r < 100) → hy_W sc hm_W_placeIn 0 4 [.inl row, .inl 3, .inl q, .inl r, .inl l] [] t (hy_p (fun x => 0 ≤ x ∧ x < 3) t) := by
    intro n
    induction n with
    | zero =>
      intro r l hl hl3 hr
      refine hy_iload (i := 4) rfl rfl ?_
      refine hy_iload (i := 5) rfl rfl ?_
      refine hy_ic_le (i := 6) (tt := 17) rfl (fun zc1 => ?_) (fun zc1 => ?_)
      · refine hy_iload (i := 17) rfl rfl ?_
        refine hy_if_le (i := 18) (tt := 23) rfl (fun zc2 => ?_) (fun zc2 => ?_)
        · omega
        · refine hy_iload (i := 19) rfl rfl ?_
          refine hy_iload (i := 20) rfl rfl ?_
          refine hy_irem (i := 21) rfl (by omega) (by omega) ?_
          refine hy_goto (i := 22) (tt := 24) rfl ?_
          refine hy_ireturn (i := 24) rfl rfl ?_
          exact ⟨_, rfl, by omega, rfl⟩
      · omega
    | succ n ih =>
      intro r l hl hl3 hr
      refine hy_iload (i := 4) rfl rfl ?_
      refine hy_iload (i := 5) rfl rfl ?_
      refine hy_ic_le (i := 6) (tt := 17) rfl (fun zc1 => ?_) (fun zc1 => ?_)
      · omega
      · refine hy_iload (i := 7) rfl rfl ?_
        refine hy_if_le (i := 8) (tt := 13) rfl (fun zc2 => ?_) (fun zc2 => ?_)
        · omega
        · refine hy_iload (i := 9) rfl rfl ?_
          refine hy_iload (i := 10) rfl rfl ?_
          refine hy_idiv (i := 11) rfl (by omega) (by omega) ?_
          refine hy_goto (i := 12) (tt := 14) rfl ?_
          refine hy_istore (i := 14) rfl ?_
          refine hy_iinc (i := 15) rfl rfl (by omega) ?_
          refine hy_goto (i := 16) (tt := 4) rfl ?_
          exact ih _ _ (by omega) (by omega) (by omega)
  refine hy_iload (i := 0) rfl rfl ?_
  refine hy_istore (i := 1) rfl ?_
  refine hy_const (i := 2) rfl (by decide) ?_
  refine hy_istore (i := 3) rfl ?_
  exact loop (3 - q).toNat _ _ (by omega) (by decide) hr
theorem c_W_thoughtOf_3 {row a b : Int} (h : tp_ok t) (hr : 0 ≤ row ∧ row < 100) (ha : 0 ≤ a ∧ a ≤ 3) : hy_Ct sc hm_W_thoughtOf 1 [.inr (some 2), .inl row, .inl 3, .inl a, .inl b] t (hy_p (fun x => 0 ≤ x ∧ x ≤ 1020) t) := by
  refine hy_mk_ct ok_W_thoughtOf ck_W_thoughtOf (Nat.le_of_ble_eq_true rfl) ?_
  have loop : ∀ (n : Nat), ∀ (k : Nat) (s : Int), n + k = 4 → (0 ≤ s ∧ s ≤ 255 * k) → hy_W sc hm_W_thoughtOf 1 4 [.inr (some 2), .inl row, .inl 3, .inl a, .inl b, .inl s, .inl (k : Int)] [] t (hy_p (fun x => 0 ≤ x ∧ x ≤ 1020) t) := by
    intro n
    induction n with
    | zero =>
      intro k s hn hs
      refine hy_iload (i := 4) rfl rfl ?_
      refine hy_const (i := 5) rfl (by decide) ?_
      refine hy_ic_ge (i := 6) (tt := 26) rfl (fun zc1 => ?_) (fun zc1 => ?_)
      · refine hy_iload (i := 26) rfl rfl ?_
        refine hy_ireturn (i := 27) rfl rfl ?_
        exact ⟨_, rfl, by omega, rfl⟩
      · omega
    | succ n ih =>
      intro k s hn hs
      have hb := tp_at_in h (4 * a + k)
      refine hy_iload (i := 4) rfl rfl ?_
      refine hy_const (i := 5) rfl (by decide) ?_
      refine hy_ic_ge (i := 6) (tt := 26) rfl (fun zc1 => ?_) (fun zc1 => ?_)
      · omega
      · refine hy_iload (i := 7) rfl rfl ?_
        refine hy_iload (i := 8) rfl rfl ?_
        refine hy_iload (i := 9) rfl rfl ?_
        refine hy_cS3 (i := 10) rfl (by decide) mj_W_placeIn (by decide) rfl (Nat.le_of_ble_eq_true rfl) (c_W_placeIn_3 (by omega) (by omega)) (fun r1_ t1_ h1 => ?_)
        obtain ⟨x1, rfl, hx1, rfl⟩ := h1
        dsimp only [hy_st, List.cons_append, List.nil_append]
        refine hy_iload (i := 11) rfl rfl ?_
        refine hy_ic_ne (i := 12) (tt := 24) rfl (fun zc2 => ?_) (fun zc2 => ?_)
        · refine hy_iinc (i := 24) rfl rfl (by omega) ?_
          refine hy_goto (i := 25) (tt := 4) rfl ?_
          exact ih (k + 1) _ (by omega) (by omega)
        · refine hy_iload (i := 13) rfl rfl ?_
          refine hy_aload (i := 14) rfl rfl ?_
          refine hy_getr (i := 15) rfl rfl ?_
          refine hy_const (i := 16) rfl (by decide) ?_
          refine hy_iload (i := 17) rfl rfl ?_
          refine hy_imul (i := 18) rfl (by omega) ?_
          refine hy_iload (i := 19) rfl rfl ?_
          refine hy_iadd (i := 20) rfl (by omega) ?_
          refine hy_cV1e (i := 21) rfl mj_T_at (by decide) rfl (Nat.le_of_ble_eq_true rfl) rfl rfl rfl (c_T_at (by have := tp_ok.l (by assumption); omega)) ?_
          refine hy_iadd (i := 22) rfl (by omega) ?_
          refine hy_istore (i := 23) rfl ?_
          refine hy_iinc (i := 24) rfl rfl (by omega) ?_
          refine hy_goto (i := 25) (tt := 4) rfl ?_
          exact ih (k + 1) _ (by omega) (by omega)
  refine hy_const (i := 0) rfl (by decide) ?_
  refine hy_istore (i := 1) rfl ?_
  refine hy_const (i := 2) rfl (by decide) ?_
  refine hy_istore (i := 3) rfl ?_
  exact loop 4 0 _ rfl (by decide)
theorem c_W_leastOf_3 {row : Int} (h : tp_ok t) (hr : 0 ≤ row ∧ row < 100) : hy_Ct sc hm_W_leastOf 2 [.inr (some 2), .inl row, .inl 3] t (hy_p (fun x => 0 ≤ x ∧ x ≤ 1020) t) := by
  refine hy_mk_ct ok_W_leastOf ck_W_leastOf (Nat.le_of_ble_eq_true rfl) ?_
  have loop : ∀ (n : Nat), ∀ (k : Nat) (s : Int), n + k = 3 → (0 ≤ s ∧ s ≤ 1020) → hy_W sc hm_W_leastOf 2 9 [.inr (some 2), .inl row, .inl 3, .inl s, .inl (k : Int)] [] t (hy_p (fun x => 0 ≤ x ∧ x ≤ 1020) t) := by
    intro n
    induction n with
    | zero =>
      intro k s hn hs
      refine hy_iload (i := 9) rfl rfl ?_
      refine hy_iload (i := 10) rfl rfl ?_
      refine hy_ic_ge (i := 11) (tt := 23) rfl (fun zc1 => ?_) (fun zc1 => ?_)
      · refine hy_iload (i := 23) rfl rfl ?_
        refine hy_ireturn (i := 24) rfl rfl ?_
        exact ⟨_, rfl, by omega, rfl⟩
      · omega
    | succ n ih =>
      intro k s hn hs
      refine hy_iload (i := 9) rfl rfl ?_
      refine hy_iload (i := 10) rfl rfl ?_
      refine hy_ic_ge (i := 11) (tt := 23) rfl (fun zc1 => ?_) (fun zc1 => ?_)
      · omega
      · refine hy_iload (i := 12) rfl rfl ?_
        refine hy_aload (i := 13) rfl rfl ?_
        refine hy_iload (i := 14) rfl rfl ?_
        refine hy_iload (i := 15) rfl rfl ?_
        refine hy_iload (i := 16) rfl rfl ?_
        refine hy_iload (i := 17) rfl rfl ?_
        refine hy_cV4 (i := 18) rfl mj_W_thoughtOf (by decide) rfl (Nat.le_of_ble_eq_true rfl) rfl rfl rfl (c_W_thoughtOf_3 (by assumption) (by omega) (by omega)) (fun r1_ t1_ h1 => ?_)
        obtain ⟨x1, rfl, hx1, rfl⟩ := h1
        dsimp only [hy_st, List.cons_append, List.nil_append]
        refine hy_min (i := 19) rfl (Nat.le_of_ble_eq_true rfl) ?_
        refine hy_istore (i := 20) rfl ?_
        refine hy_iinc (i := 21) rfl rfl (by omega) ?_
        refine hy_goto (i := 22) (tt := 9) rfl ?_
        exact ih (k + 1) _ (by omega) (by split <;> omega)
  refine hy_aload (i := 0) rfl rfl ?_
  refine hy_iload (i := 1) rfl rfl ?_
  refine hy_iload (i := 2) rfl rfl ?_
  refine hy_const (i := 3) rfl (by decide) ?_
  refine hy_const (i := 4) rfl (by decide) ?_
  refine hy_cV4 (i := 5) rfl mj_W_thoughtOf (by decide) rfl (Nat.le_of_ble_eq_true rfl) rfl rfl rfl (c_W_thoughtOf_3 (by assumption) (by omega) (by omega)) (fun r1_ t1_ h1 => ?_)
  obtain ⟨x1, rfl, hx1, rfl⟩ := h1
  dsimp only [hy_st, List.cons_append, List.nil_append]
  refine hy_istore (i := 6) rfl ?_
  refine hy_const (i := 7) rfl (by decide) ?_
  refine hy_istore (i := 8) rfl ?_
  exact loop (3 - 1) 1 _ rfl (by omega)
theorem c_W_fairestRow_3 (h : tp_ok t) : hy_Ct sc hm_W_fairestRow 3 [.inr (some 2), .inl 3] t (hy_p (fun x => 0 ≤ x ∧ x < 100) t) := by
  refine hy_mk_ct ok_W_fairestRow ck_W_fairestRow (Nat.le_of_ble_eq_true rfl) ?_
  have loop : ∀ (n : Nat), ∀ (k : Nat) (b ms : Int) (v6 : hy_V), n + k = 3 * 3 * 3 * 3 → (0 ≤ b ∧ b < 100) → hy_W sc hm_W_fairestRow 3 14 [.inr (some 2), .inl 3, .inl (3 * 3 * 3 * 3), .inl b, .inl ms, .inl (k : Int), v6] [] t (hy_p (fun x => 0 ≤ x ∧ x < 100) t) := by
    intro n
    induction n with
    | zero =>
      intro k b ms v6 hn hb
      refine hy_iload (i := 14) rfl rfl ?_
      refine hy_iload (i := 15) rfl rfl ?_
      refine hy_ic_ge (i := 16) (tt := 31) rfl (fun zc1 => ?_) (fun zc1 => ?_)
      · refine hy_iload (i := 31) rfl rfl ?_
        refine hy_ireturn (i := 32) rfl rfl ?_
        exact ⟨_, rfl, by omega, rfl⟩
      · omega
    | succ n ih =>
      intro k b ms v6 hn hb
      refine hy_iload (i := 14) rfl rfl ?_
      refine hy_iload (i := 15) rfl rfl ?_
      refine hy_ic_ge (i := 16) (tt := 31) rfl (fun zc1 => ?_) (fun zc1 => ?_)
      · omega
      · refine hy_aload (i := 17) rfl rfl ?_
        refine hy_iload (i := 18) rfl rfl ?_
        refine hy_iload (i := 19) rfl rfl ?_
        refine hy_cV2 (i := 20) rfl mj_W_leastOf (by decide) rfl (Nat.le_of_ble_eq_true rfl) rfl rfl rfl (c_W_leastOf_3 (by assumption) (by omega)) (fun r1_ t1_ h1 => ?_)
        obtain ⟨x1, rfl, hx1, rfl⟩ := h1
        dsimp only [hy_st, List.cons_append, List.nil_append]
        refine hy_istore (i := 21) rfl ?_
        refine hy_iload (i := 22) rfl rfl ?_
        refine hy_iload (i := 23) rfl rfl ?_
        refine hy_ic_le (i := 24) (tt := 29) rfl (fun zc2 => ?_) (fun zc2 => ?_)
        · refine hy_iinc (i := 29) rfl rfl (by omega) ?_
          refine hy_goto (i := 30) (tt := 14) rfl ?_
          exact ih (k + 1) _ _ _ (by omega) (by omega)
        · refine hy_iload (i := 25) rfl rfl ?_
          refine hy_istore (i := 26) rfl ?_
          refine hy_iload (i := 27) rfl rfl ?_
          refine hy_istore (i := 28) rfl ?_
          refine hy_iinc (i := 29) rfl rfl (by omega) ?_
          refine hy_goto (i := 30) (tt := 14) rfl ?_
          exact ih (k + 1) _ _ _ (by omega) (by omega)
  refine hy_iload (i := 0) rfl rfl ?_
  refine hy_iload (i := 1) rfl rfl ?_
  refine hy_imul (i := 2) rfl (by omega) ?_
  refine hy_iload (i := 3) rfl rfl ?_
  refine hy_imul (i := 4) rfl (by omega) ?_
  refine hy_iload (i := 5) rfl rfl ?_
  refine hy_imul (i := 6) rfl (by omega) ?_
  refine hy_istore (i := 7) rfl ?_
  refine hy_const (i := 8) rfl (by decide) ?_
  refine hy_istore (i := 9) rfl ?_
  refine hy_const (i := 10) rfl (by decide) ?_
  refine hy_istore (i := 11) rfl ?_
  refine hy_const (i := 12) rfl (by decide) ?_
  refine hy_istore (i := 13) rfl ?_
  exact loop (3 * 3 * 3 * 3) 0 _ _ _ rfl (by decide)
theorem c_W_envies_3 {row a b : Int} (h : tp_ok t) (hr : 0 ≤ row ∧ row < 100) (ha : 0 ≤ a ∧ a ≤ 3) : hy_Ct sc hm_W_envies 2 [.inr (some 2), .inl row, .inl 3, .inl a, .inl b] t (hy_p (fun _ => True) t) := by
  refine hy_mk_ct ok_W_envies ck_W_envies (Nat.le_of_ble_eq_true rfl) ?_
  refine hy_aload (i := 0) rfl rfl ?_
  refine hy_iload (i := 1) rfl rfl ?_
  refine hy_iload (i := 2) rfl rfl ?_
  refine hy_iload (i := 3) rfl rfl ?_
  refine hy_iload (i := 4) rfl rfl ?_
  refine hy_cV4 (i := 5) rfl mj_W_thoughtOf (by decide) rfl (Nat.le_of_ble_eq_true rfl) rfl rfl rfl (c_W_thoughtOf_3 (by assumption) (by omega) (by omega)) (fun r1_ t1_ h1 => ?_)
  obtain ⟨x1, rfl, hx1, rfl⟩ := h1
  dsimp only [hy_st, List.cons_append, List.nil_append]
  refine hy_aload (i := 6) rfl rfl ?_
  refine hy_iload (i := 7) rfl rfl ?_
  refine hy_iload (i := 8) rfl rfl ?_
  refine hy_iload (i := 9) rfl rfl ?_
  refine hy_iload (i := 10) rfl rfl ?_
  refine hy_cV4 (i := 11) rfl mj_W_thoughtOf (by decide) rfl (Nat.le_of_ble_eq_true rfl) rfl rfl rfl (c_W_thoughtOf_3 (by assumption) (by omega) (by omega)) (fun r2_ t2_ h2 => ?_)
  obtain ⟨x2, rfl, hx2, rfl⟩ := h2
  dsimp only [hy_st, List.cons_append, List.nil_append]
  refine hy_ic_le (i := 12) (tt := 15) rfl (fun zc1 => ?_) (fun zc1 => ?_)
  · refine hy_const (i := 15) rfl (by decide) ?_
    refine hy_zreturn (i := 16) rfl rfl (by first | decide | exact hy_b01 _) ?_
    exact ⟨_, rfl, trivial, rfl⟩
  · refine hy_const (i := 13) rfl (by decide) ?_
    refine hy_goto (i := 14) (tt := 16) rfl ?_
    refine hy_zreturn (i := 16) rfl rfl (by first | decide | exact hy_b01 _) ?_
    exact ⟨_, rfl, trivial, rfl⟩
theorem c_W_envyOf_3 {row : Int} (h : tp_ok t) (hr : 0 ≤ row ∧ row < 100) : hy_Ct sc hm_W_envyOf 3 [.inr (some 2), .inl row, .inl 3] t (hy_p (fun _ => True) t) := by
  refine hy_mk_ct ok_W_envyOf ck_W_envyOf (Nat.le_of_ble_eq_true rfl) ?_
  have loop : ∀ (n : Nat), ∀ (k : Nat) (s : Int) (v5 : hy_V), n + k = 3 → (0 ≤ s ∧ s ≤ 3 * k) → hy_W sc hm_W_envyOf 3 4 [.inr (some 2), .inl row, .inl 3, .inl s, .inl (k : Int), v5] [] t (hy_p (fun _ => True) t) := by
    intro n
    induction n with
    | zero =>
      intro k s v5 hn hs
      refine hy_iload (i := 4) rfl rfl ?_
      refine hy_iload (i := 5) rfl rfl ?_
      refine hy_ic_ge (i := 6) (tt := 33) rfl (fun zc1 => ?_) (fun zc1 => ?_)
      · refine hy_iload (i := 33) rfl rfl ?_
        refine hy_ireturn (i := 34) rfl rfl ?_
        exact ⟨_, rfl, trivial, rfl⟩
      · omega
    | succ n ih =>
      intro k s v5 hn hs
      have inner : ∀ (n2 : Nat), ∀ (j : Nat) (s2 : Int), n2 + j = 3 → (0 ≤ s2 ∧ s2 + n2 ≤ 3 * k + 3) → hy_W sc hm_W_envyOf 3 11 [.inr (some 2), .inl row, .inl 3, .inl s2, .inl (k : Int), .inl (j : Int)] [] t (hy_p (fun _ => True) t) := by
        intro n2
        induction n2 with
        | zero =>
          intro j s2 hn2 hs2
          refine hy_iload (i := 11) rfl rfl ?_
          refine hy_iload (i := 12) rfl rfl ?_
          refine hy_ic_ge (i := 13) (tt := 31) rfl (fun zc1 => ?_) (fun zc1 => ?_)
          · refine hy_iinc (i := 31) rfl rfl (by omega) ?_
            refine hy_goto (i := 32) (tt := 4) rfl ?_
            exact ih (k + 1) _ _ (by omega) (by omega)
          · omega
        | succ n2 ih2 =>
          intro j s2 hn2 hs2
          refine hy_iload (i := 11) rfl rfl ?_
          refine hy_iload (i := 12) rfl rfl ?_
          refine hy_ic_ge (i := 13) (tt := 31) rfl (fun zc1 => ?_) (fun zc1 => ?_)
          · omega
          · refine hy_aload (i := 14) rfl rfl ?_
            refine hy_iload (i := 15) rfl rfl ?_
            refine hy_iload (i := 16) rfl rfl ?_
            refine hy_iload (i := 17) rfl rfl ?_
            refine hy_iload (i := 18) rfl rfl ?_
            refine hy_cV4 (i := 19) rfl mj_W_envies (by decide) rfl (Nat.le_of_ble_eq_true rfl) rfl rfl rfl (c_W_envies_3 (by assumption) (by omega) (by omega)) (fun r1_ t1_ h1 => ?_)
            obtain ⟨x1, rfl, hx1, rfl⟩ := h1
            dsimp only [hy_st, List.cons_append, List.nil_append]
            refine hy_if_ne (i := 20) (tt := 28) rfl (fun zc2 => ?_) (fun zc2 => ?_)
            · refine hy_iinc (i := 28) rfl rfl (by omega) ?_
              refine hy_iinc (i := 29) rfl rfl (by omega) ?_
              refine hy_goto (i := 30) (tt := 11) rfl ?_
              exact ih2 (j + 1) _ (by omega) (by omega)
            · refine hy_aload (i := 21) rfl rfl ?_
              refine hy_iload (i := 22) rfl rfl ?_
              refine hy_iload (i := 23) rfl rfl ?_
              refine hy_iload (i := 24) rfl rfl ?_
              refine hy_iload (i := 25) rfl rfl ?_
              refine hy_cV4 (i := 26) rfl mj_W_envies (by decide) rfl (Nat.le_of_ble_eq_true rfl) rfl rfl rfl (c_W_envies_3 (by assumption) (by omega) (by omega)) (fun r2_ t2_ h2 => ?_)
              obtain ⟨x2, rfl, hx2, rfl⟩ := h2
              dsimp only [hy_st, List.cons_append, List.nil_append]
              refine hy_if_eq (i := 27) (tt := 29) rfl (fun zc3 => ?_) (fun zc3 => ?_)
              · refine hy_iinc (i := 29) rfl rfl (by omega) ?_
                refine hy_goto (i := 30) (tt := 11) rfl ?_
                exact ih2 (j + 1) _ (by omega) (by omega)
              · refine hy_iinc (i := 28) rfl rfl (by omega) ?_
                refine hy_iinc (i := 29) rfl rfl (by omega) ?_
                refine hy_goto (i := 30) (tt := 11) rfl ?_
                exact ih2 (j + 1) _ (by omega) (by omega)
      refine hy_iload (i := 4) rfl rfl ?_
      refine hy_iload (i := 5) rfl rfl ?_
      refine hy_ic_ge (i := 6) (tt := 33) rfl (fun zc1 => ?_) (fun zc1 => ?_)
      · omega
      · refine hy_iload (i := 7) rfl rfl ?_
        refine hy_const (i := 8) rfl (by decide) ?_
        refine hy_iadd (i := 9) rfl (by omega) ?_
        refine hy_istore (i := 10) rfl ?_
        exact inner (3 - (k + 1)) (k + 1) _ (by omega) (by omega)
  refine hy_const (i := 0) rfl (by decide) ?_
  refine hy_istore (i := 1) rfl ?_
  refine hy_const (i := 2) rfl (by decide) ?_
  refine hy_istore (i := 3) rfl ?_
  exact loop 3 0 _ _ rfl (by decide)
theorem c_W_areThoughts_3 {n : Int} (h : tp_ok t) (hn : n ≤ 100) : hy_Ct sc hm_W_areThoughts 1 [.inr (some 2), .inl n] t (hy_p (fun _ => True) t) := by
  refine hy_mk_ct ok_W_areThoughts ck_W_areThoughts (Nat.le_of_ble_eq_true rfl) ?_
  have loop : ∀ (m : Nat), ∀ (k : Nat), m + k = n.toNat → hy_W sc hm_W_areThoughts 1 2 [.inr (some 2), .inl n, .inl (k : Int)] [] t (hy_p (fun _ => True) t) := by
    intro m
    induction m with
    | zero =>
      intro k hm
      refine hy_iload (i := 2) rfl rfl ?_
      refine hy_iload (i := 3) rfl rfl ?_
      refine hy_ic_ge (i := 4) (tt := 15) rfl (fun zc1 => ?_) (fun zc1 => ?_)
      · refine hy_const (i := 15) rfl (by decide) ?_
        refine hy_zreturn (i := 16) rfl rfl (by first | decide | exact hy_b01 _) ?_
        exact ⟨_, rfl, trivial, rfl⟩
      · omega
    | succ m ih =>
      intro k hm
      refine hy_iload (i := 2) rfl rfl ?_
      refine hy_iload (i := 3) rfl rfl ?_
      refine hy_ic_ge (i := 4) (tt := 15) rfl (fun zc1 => ?_) (fun zc1 => ?_)
      · omega
      · refine hy_aload (i := 5) rfl rfl ?_
        refine hy_getr (i := 6) rfl rfl ?_
        refine hy_iload (i := 7) rfl rfl ?_
        refine hy_cV1e (i := 8) rfl mj_T_at (by decide) rfl (Nat.le_of_ble_eq_true rfl) rfl rfl rfl (c_T_at (by have := tp_ok.l (by assumption); omega)) ?_
        refine hy_const (i := 9) rfl (by decide) ?_
        refine hy_ic_le (i := 10) (tt := 13) rfl (fun zc2 => ?_) (fun zc2 => ?_)
        · refine hy_iinc (i := 13) rfl rfl (by omega) ?_
          refine hy_goto (i := 14) (tt := 2) rfl ?_
          exact ih (k + 1) (by omega)
        · refine hy_const (i := 11) rfl (by decide) ?_
          refine hy_zreturn (i := 12) rfl rfl (by first | decide | exact hy_b01 _) ?_
          exact ⟨_, rfl, trivial, rfl⟩
  refine hy_const (i := 0) rfl (by decide) ?_
  refine hy_istore (i := 1) rfl ?_
  exact loop n.toNat 0 rfl
end PT3
