/-! the model: signals, parted, spies -/
abbrev sgX : Nat → Nat → Bool := fun r _ => r == 77 || r == 78 || r == 79 || r == 98
theorem sgX_meq : ∀ r j, meqX r j = true → sgX r j = false := fun r j h => by revert h; simp [meqX, mlawX, sgX]; omega
theorem me_sg {t t1 : hy_T} (h : hy_F meX t t1) : hy_F sgX t t1 := h.w (fun r j q => by revert q; simp [meX, sgX]; omega)
def ms_tellN (A : Nat → Int) (e : Nat) (s : Int) : Nat → Nat → Int → Bool
  | 0, _, _ => true
  | m + 1, k, sn => if hz_b s k = true then (if A (12 * e + k) = 12 ∨ hz_b sn (A (12 * e + k)) = true then false else ms_tellN A e s m (k + 1) (hz_ior sn (hz_ishl 1 (A (12 * e + k))))) else ms_tellN A e s m (k + 1) sn
def ms_oneN (A : Nat → Int) (e : Nat) (s : Int) : Nat → Nat → Int → Bool
  | 0, _, _ => true
  | m + 1, k, f => if hz_b s k = true then (if f ≠ -1 ∧ A (12 * e + k) ≠ f then false else ms_oneN A e s m (k + 1) (A (12 * e + k))) else ms_oneN A e s m (k + 1) f
def ms_sigN (A : Nat → Int) (s fr fo : Int) : Nat → Bool
  | 0 => true
  | e + 1 => ms_sigN A s fr fo e && ((!hz_b fr e || ms_tellN A e s 12 0 0) && (!hz_b fo e || ms_oneN A e s 12 0 (-1)))
theorem ms_sigN_le (A : Nat → Int) (s fr fo : Int) : ∀ (n m : Nat), m ≤ n → ms_sigN A s fr fo m = false → ms_sigN A s fr fo n = false
  | 0, m, h, hf => by obtain rfl : m = 0 := (by omega); exact hf
  | n + 1, m, h, hf => by
    by_cases hm : m = n + 1
    · rw [← hm]; exact hf
    · simp only [ms_sigN, ms_sigN_le A s fr fo n m (by omega) hf, Bool.false_and]
abbrev ms_good (A : Nat → Int) (w fr fo s : Int) : Prop := hz_iand s (hz_ixor w (-1)) = 0 ∧ (2 ≤ mf_bitsN s 12 ∧ mf_bitsN s 12 ≤ 6) ∧ ms_sigN A s fr fo 6 = true
def ms_acc (A : Nat → Int) (w n fr fo : Int) : Nat → Int × Int × Int
  | 0 => (0, -2, 0)
  | s + 1 => if ms_good A w fr fo s then
      (if mf_bitsN s 12 = n then ((ms_acc A w n fr fo s).1 + 1, (if (ms_acc A w n fr fo s).1 = 0 then (s : Int) else (ms_acc A w n fr fo s).2.1), (if mf_bitsN s 12 < (ms_acc A w n fr fo s).2.2 then (ms_acc A w n fr fo s).2.2 else mf_bitsN s 12))
       else ((ms_acc A w n fr fo s).1, (ms_acc A w n fr fo s).2.1, (if mf_bitsN s 12 < (ms_acc A w n fr fo s).2.2 then (ms_acc A w n fr fo s).2.2 else mf_bitsN s 12)))
    else ms_acc A w n fr fo s
theorem ms_acc_in (A : Nat → Int) (w n fr fo : Int) : ∀ s : Nat, 0 ≤ (ms_acc A w n fr fo s).1 ∧ (ms_acc A w n fr fo s).1 ≤ s
  | 0 => by simp [ms_acc]
  | s + 1 => by
    have h := ms_acc_in A w n fr fo s
    simp only [ms_acc]
    split
    · split
      · dsimp only; omega
      · dsimp only; omega
    · omega
abbrev ms_sgc (n fr fo q w : Int) : Prop := (1 ≤ fr ∧ fr ≤ 63) ∧ (0 ≤ fo ∧ fo ≤ 63) ∧ hz_iand fr fo = 0 ∧ (0 ≤ q ∧ q < 4) ∧ (0 ≤ w ∧ w ≤ 2) ∧ (w < 2 → 2 ≤ n ∧ n ≤ 6)
abbrev ms_by (t : hy_T) (q : Int) (t1 : hy_T) : Prop := ∀ e : Nat, e < 6 → ∀ c : Nat, c < 12 → t1 98 (12 * e + c) = mq_as t e q c
section MS
variable {sc : List Int32} {t : hy_T}
theorem c_M_laysAll {q : Int} (hk : ml_ok t) (hp : me_pal t) (hq : 0 ≤ q ∧ q < 4) : hy_Ct sc hm_M_laysAll 7 [.inr (some 59), .inl q] t (fun r t' => r = none ∧ hy_F sgX t t' ∧ ms_by t q t') := by
  refine hy_mk_ct ok_M_laysAll ck_M_laysAll (Nat.le_of_ble_eq_true rfl) ?_
  have loop : ∀ (m : Nat), ∀ (k : Nat) (t1 : hy_T) (v3 : hy_V), m + k = 6 → hy_F sgX t t1 → (∀ e : Nat, e < k → ∀ c : Nat, c < 12 → t1 98 (12 * e + c) = mq_as t e q c) → hy_W sc hm_M_laysAll 7 2 [.inr (some 59), .inl q, .inl (k : Int), v3] [] t1 (fun r t' => r = none ∧ hy_F sgX t t' ∧ ms_by t q t') := by
    intro m
    induction m with
    | zero =>
      intro k t1 v3 hm hF hi
      obtain rfl : k = 6 := by omega
      refine hy_iload (i := 2) rfl rfl ?_
      refine hy_const (i := 3) rfl (by decide) ?_
      refine hy_ic_ge (i := 4) (tt := 30) rfl (fun zc1 => ?_) (fun zc1 => ?_)
      · refine hy_return (i := 30) rfl rfl ?_
        exact ⟨rfl, hF, hi⟩
      · omega
    | succ m ih =>
      intro k t1 v3 hm hF hi
      have hk1 := ml_ok_F hF (meq_law sgX_meq) hk
      have hp1 := me_pal_F hF rfl (fun _ => rfl) (fun _ => rfl) hp
      have inner : ∀ (m2 : Nat), ∀ (c : Nat) (t2 : hy_T), m2 + c = 12 → hy_F sgX t t2 → (∀ j : Nat, j ≤ 12 → t2 79 j = mq_as t k q j) → (∀ e : Nat, e < k → ∀ c : Nat, c < 12 → t2 98 (12 * e + c) = mq_as t e q c) → (∀ j : Nat, j < c → t2 98 (12 * k + j) = mq_as t k q j) → hy_W sc hm_M_laysAll 7 11 [.inr (some 59), .inl q, .inl (k : Int), .inl (c : Int)] [] t2 (fun r t' => r = none ∧ hy_F sgX t t' ∧ ms_by t q t') := by
        intro m2
        induction m2 with
        | zero =>
          intro c t2 hm2 hF2 h79 h1 h2
          obtain rfl : c = 12 := by omega
          refine hy_iload (i := 11) rfl rfl ?_
          refine hy_const (i := 12) rfl (by decide) ?_
          refine hy_ic_ge (i := 13) (tt := 28) rfl (fun zc1 => ?_) (fun zc1 => ?_)
          · refine hy_iinc (i := 28) rfl rfl (by omega) ?_
            refine hy_goto (i := 29) (tt := 2) rfl ?_
            exact ih (k + 1) _ _ (by omega) hF2 (fun e he c hc => by rcases Nat.lt_succ_iff_lt_or_eq.mp he with h | rfl; exact h1 e h c hc; exact h2 c hc)
          · omega
        | succ m2 ih2 =>
          intro c t2 hm2 hF2 h79 h1 h2
          refine hy_iload (i := 11) rfl rfl ?_
          refine hy_const (i := 12) rfl (by decide) ?_
          refine hy_ic_ge (i := 13) (tt := 28) rfl (fun zc1 => ?_) (fun zc1 => ?_)
          · omega
          · refine hy_aload (i := 14) rfl rfl ?_
            refine hy_getr (i := 15) rfl rfl ?_
            refine hy_const (i := 16) rfl (by decide) ?_
            refine hy_iload (i := 17) rfl rfl ?_
            refine hy_imul (i := 18) rfl (by omega) ?_
            refine hy_iload (i := 19) rfl rfl ?_
            refine hy_iadd (i := 20) rfl (by omega) ?_
            refine hy_aload (i := 21) rfl rfl ?_
            refine hy_getr (i := 22) rfl rfl ?_
            refine hy_iload (i := 23) rfl rfl ?_
            refine hy_iald (i := 24) rfl rfl (by omega) (k := c) (by omega) ?_
            rw [h79 c (by omega)]
            refine hy_iast (i := 25) rfl rfl (by omega) (k := 12 * k + c) (by omega) ?_
            refine hy_iinc (i := 26) rfl rfl (by omega) ?_
            refine hy_goto (i := 27) (tt := 11) rfl ?_
            exact ih2 (c + 1) _ (by omega) (hF2.up rfl) (fun j hj => by rw [hy_up_ne (by decide)]; exact h79 j hj) (fun e he c' hc => by rw [show hy_up t2 98 (12 * k + c) (mq_as t k q c) 98 (12 * e + c') = t2 98 (12 * e + c') by simp only [hy_up]; rw [if_neg (by omega)]]; exact h1 e he c' hc) (fun j hj => by simp only [hy_up, true_and]; by_cases h : 12 * k + j = 12 * k + c; rw [if_pos h, show j = c by omega]; rw [if_neg h]; exact h2 j (by omega))
      refine hy_iload (i := 2) rfl rfl ?_
      refine hy_const (i := 3) rfl (by decide) ?_
      refine hy_ic_ge (i := 4) (tt := 30) rfl (fun zc1 => ?_) (fun zc1 => ?_)
      · omega
      · refine hy_aload (i := 5) rfl rfl ?_
        refine hy_iload (i := 6) rfl rfl ?_
        refine hy_iload (i := 7) rfl rfl ?_
        refine hy_cV2 (i := 8) rfl mj_M_laysAs (by decide) rfl (Nat.le_of_ble_eq_true rfl) rfl rfl rfl (c_M_laysAs (by assumption) (by assumption) (by omega)) (fun r1_ t1_ h1 => ?_)
        obtain ⟨rfl, hF1, hA1⟩ := h1
        dsimp only [hy_st, List.nil_append]
        refine hy_const (i := 9) rfl (by decide) ?_
        refine hy_istore (i := 10) rfl ?_
        exact inner 12 0 _ rfl (hF.tr' (me_sg hF1)) (fun j hj => by rw [hA1 j hj, mq_as_F hF sgX_meq]) (fun e he c hc => by rw [hF1 98 _ rfl]; exact hi e he c hc) (fun j hj => absurd hj (by omega))
  refine hy_const (i := 0) rfl (by decide) ?_
  refine hy_istore (i := 1) rfl ?_
  exact loop 6 0 t _ rfl hy_F.rf (fun e he => absurd he (by omega))
theorem c_M_tellsApart {s : Int} {e : Nat} (he : e < 6) : hy_Ct sc hm_M_tellsApart 1 [.inr (some 59), .inl s, .inl (e : Int)] t (hy_e (some (hy_b (ms_tellN (t 98) e s 12 0 0))) t) := by
  refine hy_mk_ct ok_M_tellsApart ck_M_tellsApart (Nat.le_of_ble_eq_true rfl) ?_
  generalize hG : ms_tellN (t 98) e s 12 0 0 = G
  have loop : ∀ (m : Nat), ∀ (k : Nat) (sn : Int) (v5 : hy_V), m + k = 12 → ms_tellN (t 98) e s m k sn = G → hy_W sc hm_M_tellsApart 1 4 [.inr (some 59), .inl s, .inl (e : Int), .inl sn, .inl (k : Int), v5] [] t (hy_e (some (hy_b (G))) t) := by
    intro m
    induction m with
    | zero =>
      intro k sn v5 hm hv
      refine hy_iload (i := 4) rfl rfl ?_
      refine hy_const (i := 5) rfl (by decide) ?_
      refine hy_ic_ge (i := 6) (tt := 38) rfl (fun zc1 => ?_) (fun zc1 => ?_)
      · refine hy_const (i := 38) rfl (by decide) ?_
        refine hy_zreturn (i := 39) rfl rfl (by first | decide | exact hy_b01 _) ?_
        exact ⟨congrArg some (by rw [← hv]; rfl), rfl⟩
      · omega
    | succ m ih =>
      intro k sn v5 hm hv
      simp only [ms_tellN] at hv
      refine hy_iload (i := 4) rfl rfl ?_
      refine hy_const (i := 5) rfl (by decide) ?_
      refine hy_ic_ge (i := 6) (tt := 38) rfl (fun zc1 => ?_) (fun zc1 => ?_)
      · omega
      · refine hy_iload (i := 7) rfl rfl ?_
        refine hy_iload (i := 8) rfl rfl ?_
        refine hy_cS2e (i := 9) rfl (by decide) mj_M_has (by decide) rfl (Nat.le_of_ble_eq_true rfl) (c_M_has) ?_
        refine hy_ib_ne (i := 10) (tt := 12) rfl (fun zc2 => ?_) (fun zc2 => ?_)
        · refine hy_aload (i := 12) rfl rfl ?_
          refine hy_getr (i := 13) rfl rfl ?_
          refine hy_const (i := 14) rfl (by decide) ?_
          refine hy_iload (i := 15) rfl rfl ?_
          refine hy_imul (i := 16) rfl (by omega) ?_
          refine hy_iload (i := 17) rfl rfl ?_
          refine hy_iadd (i := 18) rfl (by omega) ?_
          refine hy_iald (i := 19) rfl rfl (by omega) (k := 12 * e + k) (by omega) ?_
          refine hy_istore (i := 20) rfl ?_
          refine hy_iload (i := 21) rfl rfl ?_
          refine hy_const (i := 22) rfl (by decide) ?_
          refine hy_ic_eq (i := 23) (tt := 28) rfl (fun zc3 => ?_) (fun zc3 => ?_)
          · refine hy_const (i := 28) rfl (by decide) ?_
            refine hy_zreturn (i := 29) rfl rfl (by first | decide | exact hy_b01 _) ?_
            first | exact ⟨congrArg some (by rw [← hv, if_pos (show hz_b s k = true by assumption), if_pos (.inl (by assumption))]; rfl), rfl⟩ | exact ⟨congrArg some (by rw [← hv, if_pos (show hz_b s k = true by assumption), if_pos (.inr (by assumption))]; rfl), rfl⟩
          · refine hy_iload (i := 24) rfl rfl ?_
            refine hy_iload (i := 25) rfl rfl ?_
            refine hy_cS2e (i := 26) rfl (by decide) mj_M_has (by decide) rfl (Nat.le_of_ble_eq_true rfl) (c_M_has) ?_
            refine hy_ib_eq (i := 27) (tt := 30) rfl (fun zc4 => ?_) (fun zc4 => ?_)
            · refine hy_iload (i := 30) rfl rfl ?_
              refine hy_const (i := 31) rfl (by decide) ?_
              refine hy_iload (i := 32) rfl rfl ?_
              refine hy_ishl (i := 33) rfl ?_
              refine hy_ior (i := 34) rfl ?_
              refine hy_istore (i := 35) rfl ?_
              refine hy_iinc (i := 36) rfl rfl (by omega) ?_
              refine hy_goto (i := 37) (tt := 4) rfl ?_
              first | exact ih (k + 1) _ _ (by omega) (by rw [← hv, if_pos (show hz_b s k = true by assumption), if_neg (fun h => by rcases h with h | h; exact absurd h (by assumption); exact bb_abs h (by assumption))]) | exact ih (k + 1) _ _ (by omega) (by rw [← hv, if_neg (fun h => bb_abs h (by assumption))])
            · refine hy_const (i := 28) rfl (by decide) ?_
              refine hy_zreturn (i := 29) rfl rfl (by first | decide | exact hy_b01 _) ?_
              first | exact ⟨congrArg some (by rw [← hv, if_pos (show hz_b s k = true by assumption), if_pos (.inl (by assumption))]; rfl), rfl⟩ | exact ⟨congrArg some (by rw [← hv, if_pos (show hz_b s k = true by assumption), if_pos (.inr (by assumption))]; rfl), rfl⟩
        · refine hy_goto (i := 11) (tt := 36) rfl ?_
          refine hy_iinc (i := 36) rfl rfl (by omega) ?_
          refine hy_goto (i := 37) (tt := 4) rfl ?_
          first | exact ih (k + 1) _ _ (by omega) (by rw [← hv, if_pos (show hz_b s k = true by assumption), if_neg (fun h => by rcases h with h | h; exact absurd h (by assumption); exact bb_abs h (by assumption))]) | exact ih (k + 1) _ _ (by omega) (by rw [← hv, if_neg (fun h => bb_abs h (by assumption))])
  refine hy_const (i := 0) rfl (by decide) ?_
  refine hy_istore (i := 1) rfl ?_
  refine hy_const (i := 2) rfl (by decide) ?_
  refine hy_istore (i := 3) rfl ?_
  exact loop 12 0 0 _ rfl hG
theorem c_M_seesOne {s : Int} {e : Nat} (he : e < 6) : hy_Ct sc hm_M_seesOne 1 [.inr (some 59), .inl s, .inl (e : Int)] t (hy_e (some (hy_b (ms_oneN (t 98) e s 12 0 (-1)))) t) := by
  refine hy_mk_ct ok_M_seesOne ck_M_seesOne (Nat.le_of_ble_eq_true rfl) ?_
  generalize hG : ms_oneN (t 98) e s 12 0 (-1) = G
  have loop : ∀ (m : Nat), ∀ (k : Nat) (f : Int), m + k = 12 → ms_oneN (t 98) e s m k f = G → hy_W sc hm_M_seesOne 1 4 [.inr (some 59), .inl s, .inl (e : Int), .inl f, .inl (k : Int)] [] t (hy_e (some (hy_b (G))) t) := by
    intro m
    induction m with
    | zero =>
      intro k f hm hv
      refine hy_iload (i := 4) rfl rfl ?_
      refine hy_const (i := 5) rfl (by decide) ?_
      refine hy_ic_ge (i := 6) (tt := 38) rfl (fun zc1 => ?_) (fun zc1 => ?_)
      · refine hy_const (i := 38) rfl (by decide) ?_
        refine hy_zreturn (i := 39) rfl rfl (by first | decide | exact hy_b01 _) ?_
        exact ⟨congrArg some (by rw [← hv]; rfl), rfl⟩
      · omega
    | succ m ih =>
      intro k f hm hv
      simp only [ms_oneN] at hv
      refine hy_iload (i := 4) rfl rfl ?_
      refine hy_const (i := 5) rfl (by decide) ?_
      refine hy_ic_ge (i := 6) (tt := 38) rfl (fun zc1 => ?_) (fun zc1 => ?_)
      · omega
      · refine hy_iload (i := 7) rfl rfl ?_
        refine hy_iload (i := 8) rfl rfl ?_
        refine hy_cS2e (i := 9) rfl (by decide) mj_M_has (by decide) rfl (Nat.le_of_ble_eq_true rfl) (c_M_has) ?_
        refine hy_ib_ne (i := 10) (tt := 12) rfl (fun zc2 => ?_) (fun zc2 => ?_)
        · refine hy_iload (i := 12) rfl rfl ?_
          refine hy_const (i := 13) rfl (by decide) ?_
          refine hy_ic_eq (i := 14) (tt := 27) rfl (fun zc3 => ?_) (fun zc3 => ?_)
          · refine hy_aload (i := 27) rfl rfl ?_
            refine hy_getr (i := 28) rfl rfl ?_
            refine hy_const (i := 29) rfl (by decide) ?_
            refine hy_iload (i := 30) rfl rfl ?_
            refine hy_imul (i := 31) rfl (by omega) ?_
            refine hy_iload (i := 32) rfl rfl ?_
            refine hy_iadd (i := 33) rfl (by omega) ?_
            refine hy_iald (i := 34) rfl rfl (by omega) (k := 12 * e + k) (by omega) ?_
            refine hy_istore (i := 35) rfl ?_
            refine hy_iinc (i := 36) rfl rfl (by omega) ?_
            refine hy_goto (i := 37) (tt := 4) rfl ?_
            first | exact ih (k + 1) _ (by omega) (by rw [← hv, if_pos (show hz_b s k = true by assumption), if_neg (fun h => absurd (by assumption) h.1)]) | exact ih (k + 1) _ (by omega) (by rw [← hv, if_pos (show hz_b s k = true by assumption), if_neg (fun h => absurd (by assumption) h.2)]) | exact ih (k + 1) _ (by omega) (by rw [← hv, if_neg (fun h => bb_abs h (by assumption))])
          · refine hy_aload (i := 15) rfl rfl ?_
            refine hy_getr (i := 16) rfl rfl ?_
            refine hy_const (i := 17) rfl (by decide) ?_
            refine hy_iload (i := 18) rfl rfl ?_
            refine hy_imul (i := 19) rfl (by omega) ?_
            refine hy_iload (i := 20) rfl rfl ?_
            refine hy_iadd (i := 21) rfl (by omega) ?_
            refine hy_iald (i := 22) rfl rfl (by omega) (k := 12 * e + k) (by omega) ?_
            refine hy_iload (i := 23) rfl rfl ?_
            refine hy_ic_eq (i := 24) (tt := 27) rfl (fun zc4 => ?_) (fun zc4 => ?_)
            · refine hy_aload (i := 27) rfl rfl ?_
              refine hy_getr (i := 28) rfl rfl ?_
              refine hy_const (i := 29) rfl (by decide) ?_
              refine hy_iload (i := 30) rfl rfl ?_
              refine hy_imul (i := 31) rfl (by omega) ?_
              refine hy_iload (i := 32) rfl rfl ?_
              refine hy_iadd (i := 33) rfl (by omega) ?_
              refine hy_iald (i := 34) rfl rfl (by omega) (k := 12 * e + k) (by omega) ?_
              refine hy_istore (i := 35) rfl ?_
              refine hy_iinc (i := 36) rfl rfl (by omega) ?_
              refine hy_goto (i := 37) (tt := 4) rfl ?_
              first | exact ih (k + 1) _ (by omega) (by rw [← hv, if_pos (show hz_b s k = true by assumption), if_neg (fun h => absurd (by assumption) h.1)]) | exact ih (k + 1) _ (by omega) (by rw [← hv, if_pos (show hz_b s k = true by assumption), if_neg (fun h => absurd (by assumption) h.2)]) | exact ih (k + 1) _ (by omega) (by rw [← hv, if_neg (fun h => bb_abs h (by assumption))])
            · refine hy_const (i := 25) rfl (by decide) ?_
              refine hy_zreturn (i := 26) rfl rfl (by first | decide | exact hy_b01 _) ?_
              exact ⟨congrArg some (by rw [← hv, if_pos (show hz_b s k = true by assumption), if_pos ⟨by assumption, by assumption⟩]; rfl), rfl⟩
        · refine hy_goto (i := 11) (tt := 36) rfl ?_
          refine hy_iinc (i := 36) rfl rfl (by omega) ?_
          refine hy_goto (i := 37) (tt := 4) rfl ?_
          first | exact ih (k + 1) _ (by omega) (by rw [← hv, if_pos (show hz_b s k = true by assumption), if_neg (fun h => absurd (by assumption) h.1)]) | exact ih (k + 1) _ (by omega) (by rw [← hv, if_pos (show hz_b s k = true by assumption), if_neg (fun h => absurd (by assumption) h.2)]) | exact ih (k + 1) _ (by omega) (by rw [← hv, if_neg (fun h => bb_abs h (by assumption))])
  refine hy_const (i := 0) rfl (by decide) ?_
  refine hy_istore (i := 1) rfl ?_
  refine hy_const (i := 2) rfl (by decide) ?_
  refine hy_istore (i := 3) rfl ?_
  exact loop 12 0 (-1) rfl hG
theorem c_M_isSignal {s fr fo : Int} : hy_Ct sc hm_M_isSignal 2 [.inr (some 59), .inl s, .inl fr, .inl fo] t (hy_e (some (hy_b (ms_sigN (t 98) s fr fo 6))) t) := by
  refine hy_mk_ct ok_M_isSignal ck_M_isSignal (Nat.le_of_ble_eq_true rfl) ?_
  have loop : ∀ (m : Nat), ∀ (k : Nat), m + k = 6 → ms_sigN (t 98) s fr fo k = true → hy_W sc hm_M_isSignal 2 2 [.inr (some 59), .inl s, .inl fr, .inl fo, .inl (k : Int)] [] t (hy_e (some (hy_b (ms_sigN (t 98) s fr fo 6))) t) := by
    intro m
    induction m with
    | zero =>
      intro k hm hv
      obtain rfl : k = 6 := by omega
      refine hy_iload (i := 2) rfl rfl ?_
      refine hy_const (i := 3) rfl (by decide) ?_
      refine hy_ic_ge (i := 4) (tt := 27) rfl (fun zc1 => ?_) (fun zc1 => ?_)
      · refine hy_const (i := 27) rfl (by decide) ?_
        refine hy_zreturn (i := 28) rfl rfl (by first | decide | exact hy_b01 _) ?_
        exact ⟨congrArg some (by rw [hv]; rfl), rfl⟩
      · omega
    | succ m ih =>
      intro k hm hv
      have e1 : ms_sigN (t 98) s fr fo (k + 1) = ((!hz_b fr k || ms_tellN (t 98) k s 12 0 0) && (!hz_b fo k || ms_oneN (t 98) k s 12 0 (-1))) := by simp only [ms_sigN]; rw [hv, Bool.true_and]
      refine hy_iload (i := 2) rfl rfl ?_
      refine hy_const (i := 3) rfl (by decide) ?_
      refine hy_ic_ge (i := 4) (tt := 27) rfl (fun zc1 => ?_) (fun zc1 => ?_)
      · omega
      · refine hy_iload (i := 5) rfl rfl ?_
        refine hy_iload (i := 6) rfl rfl ?_
        refine hy_cS2e (i := 7) rfl (by decide) mj_M_has (by decide) rfl (Nat.le_of_ble_eq_true rfl) (c_M_has) ?_
        refine hy_ib_eq (i := 8) (tt := 14) rfl (fun zc2 => ?_) (fun zc2 => ?_)
        · refine hy_iload (i := 14) rfl rfl ?_
          refine hy_iload (i := 15) rfl rfl ?_
          refine hy_cS2e (i := 16) rfl (by decide) mj_M_has (by decide) rfl (Nat.le_of_ble_eq_true rfl) (c_M_has) ?_
          refine hy_ib_eq (i := 17) (tt := 25) rfl (fun zc3 => ?_) (fun zc3 => ?_)
          · refine hy_iinc (i := 25) rfl rfl (by omega) ?_
            refine hy_goto (i := 26) (tt := 2) rfl ?_
            exact ih (k + 1) (by omega) (by rw [e1]; simp only [*]; rfl)
          · refine hy_aload (i := 18) rfl rfl ?_
            refine hy_iload (i := 19) rfl rfl ?_
            refine hy_iload (i := 20) rfl rfl ?_
            refine hy_cV2e (i := 21) rfl mj_M_seesOne (by decide) rfl (Nat.le_of_ble_eq_true rfl) rfl rfl rfl (c_M_seesOne (by omega)) ?_
            refine hy_ib_ne (i := 22) (tt := 25) rfl (fun zc4 => ?_) (fun zc4 => ?_)
            · refine hy_iinc (i := 25) rfl rfl (by omega) ?_
              refine hy_goto (i := 26) (tt := 2) rfl ?_
              exact ih (k + 1) (by omega) (by rw [e1]; simp only [*]; rfl)
            · refine hy_const (i := 23) rfl (by decide) ?_
              refine hy_zreturn (i := 24) rfl rfl (by first | decide | exact hy_b01 _) ?_
              exact ⟨congrArg some (by rw [ms_sigN_le (t 98) s fr fo 6 (k + 1) (by omega) (by rw [e1]; simp only [*]; rfl)]; rfl), rfl⟩
        · refine hy_aload (i := 9) rfl rfl ?_
          refine hy_iload (i := 10) rfl rfl ?_
          refine hy_iload (i := 11) rfl rfl ?_
          refine hy_cV2e (i := 12) rfl mj_M_tellsApart (by decide) rfl (Nat.le_of_ble_eq_true rfl) rfl rfl rfl (c_M_tellsApart (by omega)) ?_
          refine hy_ib_eq (i := 13) (tt := 23) rfl (fun zc3 => ?_) (fun zc3 => ?_)
          · refine hy_const (i := 23) rfl (by decide) ?_
            refine hy_zreturn (i := 24) rfl rfl (by first | decide | exact hy_b01 _) ?_
            exact ⟨congrArg some (by rw [ms_sigN_le (t 98) s fr fo 6 (k + 1) (by omega) (by rw [e1]; simp only [*]; rfl)]; rfl), rfl⟩
          · refine hy_iload (i := 14) rfl rfl ?_
            refine hy_iload (i := 15) rfl rfl ?_
            refine hy_cS2e (i := 16) rfl (by decide) mj_M_has (by decide) rfl (Nat.le_of_ble_eq_true rfl) (c_M_has) ?_
            refine hy_ib_eq (i := 17) (tt := 25) rfl (fun zc4 => ?_) (fun zc4 => ?_)
            · refine hy_iinc (i := 25) rfl rfl (by omega) ?_
              refine hy_goto (i := 26) (tt := 2) rfl ?_
              exact ih (k + 1) (by omega) (by rw [e1]; simp only [*]; rfl)
            · refine hy_aload (i := 18) rfl rfl ?_
              refine hy_iload (i := 19) rfl rfl ?_
              refine hy_iload (i := 20) rfl rfl ?_
              refine hy_cV2e (i := 21) rfl mj_M_seesOne (by decide) rfl (Nat.le_of_ble_eq_true rfl) rfl rfl rfl (c_M_seesOne (by omega)) ?_
              refine hy_ib_ne (i := 22) (tt := 25) rfl (fun zc5 => ?_) (fun zc5 => ?_)
              · refine hy_iinc (i := 25) rfl rfl (by omega) ?_
                refine hy_goto (i := 26) (tt := 2) rfl ?_
                exact ih (k + 1) (by omega) (by rw [e1]; simp only [*]; rfl)
              · refine hy_const (i := 23) rfl (by decide) ?_
                refine hy_zreturn (i := 24) rfl rfl (by first | decide | exact hy_b01 _) ?_
                exact ⟨congrArg some (by rw [ms_sigN_le (t 98) s fr fo 6 (k + 1) (by omega) (by rw [e1]; simp only [*]; rfl)]; rfl), rfl⟩
  refine hy_const (i := 0) rfl (by decide) ?_
  refine hy_istore (i := 1) rfl ?_
  exact loop 6 0 rfl rfl
theorem c_M_signals {n fr fo q w : Int} (hk : ml_ok t) (hp : me_pal t) : hy_Ct sc hm_M_signals 8 [.inr (some 59), .inl n, .inl fr, .inl fo, .inl q, .inl w] t (fun r t' => r = some (if ms_sgc n fr fo q w then (if w = 0 then (ms_acc (t' 98) (t 59 0) n fr fo 4096).1 else if w = 1 then (ms_acc (t' 98) (t 59 0) n fr fo 4096).2.1 else (ms_acc (t' 98) (t 59 0) n fr fo 4096).2.2) else -1) ∧ hy_F sgX t t' ∧ (ms_sgc n fr fo q w → ms_by t q t')) := by
  refine hy_mk_ct ok_M_signals ck_M_signals (Nat.le_of_ble_eq_true rfl) ?_
  by_cases hq : ms_sgc n fr fo q w
  · simp only [if_pos hq]
    have loop : ∀ (t1 : hy_T), hy_F sgX t t1 → ms_by t q t1 → ∀ (m : Nat), ∀ (k : Nat), m + k = 4096 → hy_W sc hm_M_signals 8 43 [.inr (some 59), .inl n, .inl fr, .inl fo, .inl q, .inl w, .inl (ms_acc (t1 98) (t 59 0) n fr fo k).1, .inl (ms_acc (t1 98) (t 59 0) n fr fo k).2.1, .inl (ms_acc (t1 98) (t 59 0) n fr fo k).2.2, .inl (k : Int)] [] t1 (fun r t' => r = some (if w = 0 then (ms_acc (t' 98) (t 59 0) n fr fo 4096).1 else if w = 1 then (ms_acc (t' 98) (t 59 0) n fr fo 4096).2.1 else (ms_acc (t' 98) (t 59 0) n fr fo 4096).2.2) ∧ hy_F sgX t t' ∧ (ms_sgc n fr fo q w → ms_by t q t')) := by
      intro t1 hF hB m
      have e0 : t1 59 0 = t 59 0 := hF 59 0 rfl
      induction m with
      | zero =>
        intro k hm
        obtain rfl : k = 4096 := by omega
        refine hy_iload (i := 43) rfl rfl ?_
        refine hy_const (i := 44) rfl (by decide) ?_
        refine hy_ic_ge (i := 45) (tt := 88) rfl (fun zc1 => ?_) (fun zc1 => ?_)
        · refine hy_iload (i := 88) rfl rfl ?_
          refine hy_if_ne (i := 89) (tt := 92) rfl (fun zc2 => ?_) (fun zc2 => ?_)
          · refine hy_iload (i := 92) rfl rfl ?_
            refine hy_const (i := 93) rfl (by decide) ?_
            refine hy_ic_ne (i := 94) (tt := 97) rfl (fun zc3 => ?_) (fun zc3 => ?_)
            · refine hy_iload (i := 97) rfl rfl ?_
              refine hy_ireturn (i := 98) rfl rfl ?_
              refine ⟨congrArg some ?_, hF, fun _ => hB⟩
              (repeat (first | rw [if_pos (by omega)] | rw [if_neg (by omega)]))
            · refine hy_iload (i := 95) rfl rfl ?_
              refine hy_goto (i := 96) (tt := 98) rfl ?_
              refine hy_ireturn (i := 98) rfl rfl ?_
              refine ⟨congrArg some ?_, hF, fun _ => hB⟩
              (repeat (first | rw [if_pos (by omega)] | rw [if_neg (by omega)]))
          · refine hy_iload (i := 90) rfl rfl ?_
            refine hy_goto (i := 91) (tt := 98) rfl ?_
            refine hy_ireturn (i := 98) rfl rfl ?_
            refine ⟨congrArg some ?_, hF, fun _ => hB⟩
            (repeat (first | rw [if_pos (by omega)] | rw [if_neg (by omega)]))
        · omega
      | succ m ih =>
        intro k hm
        have hin := ms_acc_in (t1 98) (t 59 0) n fr fo k
        have e1 : ms_acc (t1 98) (t 59 0) n fr fo (k + 1) = if ms_good (t1 98) (t 59 0) fr fo k then
      (if mf_bitsN k 12 = n then ((ms_acc (t1 98) (t 59 0) n fr fo k).1 + 1, (if (ms_acc (t1 98) (t 59 0) n fr fo k).1 = 0 then (k : Int) else (ms_acc (t1 98) (t 59 0) n fr fo k).2.1), (if mf_bitsN k 12 < (ms_acc (t1 98) (t 59 0) n fr fo k).2.2 then (ms_acc (t1 98) (t 59 0) n fr fo k).2.2 else mf_bitsN k 12))
       else ((ms_acc (t1 98) (t 59 0) n fr fo k).1, (ms_acc (t1 98) (t 59 0) n fr fo k).2.1, (if mf_bitsN k 12 < (ms_acc (t1 98) (t 59 0) n fr fo k).2.2 then (ms_acc (t1 98) (t 59 0) n fr fo k).2.2 else mf_bitsN k 12)))
    else ms_acc (t1 98) (t 59 0) n fr fo k := rfl
        have ih' := ih (k + 1) (by omega)
        rw [e1] at ih'
        by_cases hg : ms_good (t1 98) (t 59 0) fr fo k
        · rw [if_pos hg] at ih'
          obtain ⟨g1, g2, g3⟩ := id hg
          by_cases hn : mf_bitsN k 12 = n
          · rw [if_pos hn] at ih'
            dsimp only at ih'
            refine hy_iload (i := 43) rfl rfl ?_
            refine hy_const (i := 44) rfl (by decide) ?_
            refine hy_ic_ge (i := 45) (tt := 88) rfl (fun zc1 => ?_) (fun zc1 => ?_)
            · omega
            · refine hy_iload (i := 46) rfl rfl ?_
              refine hy_aload (i := 47) rfl rfl ?_
              refine hy_get (i := 48) (fk := 0) rfl rfl rfl ?_
              rw [e0]
              refine hy_const (i := 49) rfl (by decide) ?_
              refine hy_ixor (i := 50) rfl ?_
              refine hy_iand (i := 51) rfl ?_
              refine hy_if_ne (i := 52) (tt := 86) rfl (fun zc2 => ?_) (fun zc2 => ?_)
              · exact absurd g1 (by assumption)
              · refine hy_iload (i := 53) rfl rfl ?_
                refine hy_cS1e (i := 54) rfl (by decide) mj_M_bits (by decide) rfl (Nat.le_of_ble_eq_true rfl) (c_M_bits) ?_
                refine hy_const (i := 55) rfl (by decide) ?_
                refine hy_const (i := 56) rfl (by decide) ?_
                refine hy_cS3e (i := 57) rfl (by decide) mj_M_in (by decide) rfl (Nat.le_of_ble_eq_true rfl) (c_M_in) ?_
                refine hy_ib_eq (i := 58) (tt := 86) rfl (fun zc3 => ?_) (fun zc3 => ?_)
                · simp only [decide_eq_false_iff_not] at *; omega
                · refine hy_aload (i := 59) rfl rfl ?_
                  refine hy_iload (i := 60) rfl rfl ?_
                  refine hy_iload (i := 61) rfl rfl ?_
                  refine hy_iload (i := 62) rfl rfl ?_
                  refine hy_cV3e (i := 63) rfl mj_M_isSignal (by decide) rfl (Nat.le_of_ble_eq_true rfl) rfl rfl rfl (c_M_isSignal) ?_
                  refine hy_ib_ne (i := 64) (tt := 66) rfl (fun zc4 => ?_) (fun zc4 => ?_)
                  · refine hy_iload (i := 66) rfl rfl ?_
                    refine hy_iload (i := 67) rfl rfl ?_
                    refine hy_cS1e (i := 68) rfl (by decide) mj_M_bits (by decide) rfl (Nat.le_of_ble_eq_true rfl) (c_M_bits) ?_
                    refine hy_cS2e (i := 69) rfl (by decide) mj_M_max (by decide) rfl (Nat.le_of_ble_eq_true rfl) (c_M_max) ?_
                    refine hy_istore (i := 70) rfl ?_
                    refine hy_iload (i := 71) rfl rfl ?_
                    refine hy_cS1e (i := 72) rfl (by decide) mj_M_bits (by decide) rfl (Nat.le_of_ble_eq_true rfl) (c_M_bits) ?_
                    refine hy_iload (i := 73) rfl rfl ?_
                    refine hy_ic_eq (i := 74) (tt := 76) rfl (fun zc5 => ?_) (fun zc5 => ?_)
                    · refine hy_iload (i := 76) rfl rfl ?_
                      refine hy_if_ne (i := 77) (tt := 80) rfl (fun zc6 => ?_) (fun zc6 => ?_)
                      · refine hy_iload (i := 80) rfl rfl ?_
                        refine hy_istore (i := 81) rfl ?_
                        refine hy_iload (i := 82) rfl rfl ?_
                        refine hy_const (i := 83) rfl (by decide) ?_
                        refine hy_iadd (i := 84) rfl (by omega) ?_
                        refine hy_istore (i := 85) rfl ?_
                        refine hy_iinc (i := 86) rfl rfl (by omega) ?_
                        refine hy_goto (i := 87) (tt := 43) rfl ?_
                        first | (rw [if_pos (by assumption)] at ih'; exact ih') | (rw [if_neg (by assumption)] at ih'; exact ih')
                      · refine hy_iload (i := 78) rfl rfl ?_
                        refine hy_goto (i := 79) (tt := 81) rfl ?_
                        refine hy_istore (i := 81) rfl ?_
                        refine hy_iload (i := 82) rfl rfl ?_
                        refine hy_const (i := 83) rfl (by decide) ?_
                        refine hy_iadd (i := 84) rfl (by omega) ?_
                        refine hy_istore (i := 85) rfl ?_
                        refine hy_iinc (i := 86) rfl rfl (by omega) ?_
                        refine hy_goto (i := 87) (tt := 43) rfl ?_
                        first | (rw [if_pos (by assumption)] at ih'; exact ih') | (rw [if_neg (by assumption)] at ih'; exact ih')
                    · exact absurd hn (by assumption)
                  · exact bb_abs g3 (by assumption)
          · rw [if_neg hn] at ih'
            dsimp only at ih'
            refine hy_iload (i := 43) rfl rfl ?_
            refine hy_const (i := 44) rfl (by decide) ?_
            refine hy_ic_ge (i := 45) (tt := 88) rfl (fun zc1 => ?_) (fun zc1 => ?_)
            · omega
            · refine hy_iload (i := 46) rfl rfl ?_
              refine hy_aload (i := 47) rfl rfl ?_
              refine hy_get (i := 48) (fk := 0) rfl rfl rfl ?_
              rw [e0]
              refine hy_const (i := 49) rfl (by decide) ?_
              refine hy_ixor (i := 50) rfl ?_
              refine hy_iand (i := 51) rfl ?_
              refine hy_if_ne (i := 52) (tt := 86) rfl (fun zc2 => ?_) (fun zc2 => ?_)
              · exact absurd g1 (by assumption)
              · refine hy_iload (i := 53) rfl rfl ?_
                refine hy_cS1e (i := 54) rfl (by decide) mj_M_bits (by decide) rfl (Nat.le_of_ble_eq_true rfl) (c_M_bits) ?_
                refine hy_const (i := 55) rfl (by decide) ?_
                refine hy_const (i := 56) rfl (by decide) ?_
                refine hy_cS3e (i := 57) rfl (by decide) mj_M_in (by decide) rfl (Nat.le_of_ble_eq_true rfl) (c_M_in) ?_
                refine hy_ib_eq (i := 58) (tt := 86) rfl (fun zc3 => ?_) (fun zc3 => ?_)
                · simp only [decide_eq_false_iff_not] at *; omega
                · refine hy_aload (i := 59) rfl rfl ?_
                  refine hy_iload (i := 60) rfl rfl ?_
                  refine hy_iload (i := 61) rfl rfl ?_
                  refine hy_iload (i := 62) rfl rfl ?_
                  refine hy_cV3e (i := 63) rfl mj_M_isSignal (by decide) rfl (Nat.le_of_ble_eq_true rfl) rfl rfl rfl (c_M_isSignal) ?_
                  refine hy_ib_ne (i := 64) (tt := 66) rfl (fun zc4 => ?_) (fun zc4 => ?_)
                  · refine hy_iload (i := 66) rfl rfl ?_
                    refine hy_iload (i := 67) rfl rfl ?_
                    refine hy_cS1e (i := 68) rfl (by decide) mj_M_bits (by decide) rfl (Nat.le_of_ble_eq_true rfl) (c_M_bits) ?_
                    refine hy_cS2e (i := 69) rfl (by decide) mj_M_max (by decide) rfl (Nat.le_of_ble_eq_true rfl) (c_M_max) ?_
                    refine hy_istore (i := 70) rfl ?_
                    refine hy_iload (i := 71) rfl rfl ?_
                    refine hy_cS1e (i := 72) rfl (by decide) mj_M_bits (by decide) rfl (Nat.le_of_ble_eq_true rfl) (c_M_bits) ?_
                    refine hy_iload (i := 73) rfl rfl ?_
                    refine hy_ic_eq (i := 74) (tt := 76) rfl (fun zc5 => ?_) (fun zc5 => ?_)
                    · exact absurd (by assumption) hn
                    · refine hy_goto (i := 75) (tt := 86) rfl ?_
                      refine hy_iinc (i := 86) rfl rfl (by omega) ?_
                      refine hy_goto (i := 87) (tt := 43) rfl ?_
                      exact ih'
                  · exact bb_abs g3 (by assumption)
        · rw [if_neg hg] at ih'
          refine hy_iload (i := 43) rfl rfl ?_
          refine hy_const (i := 44) rfl (by decide) ?_
          refine hy_ic_ge (i := 45) (tt := 88) rfl (fun zc1 => ?_) (fun zc1 => ?_)
          · omega
          · refine hy_iload (i := 46) rfl rfl ?_
            refine hy_aload (i := 47) rfl rfl ?_
            refine hy_get (i := 48) (fk := 0) rfl rfl rfl ?_
            rw [e0]
            refine hy_const (i := 49) rfl (by decide) ?_
            refine hy_ixor (i := 50) rfl ?_
            refine hy_iand (i := 51) rfl ?_
            refine hy_if_ne (i := 52) (tt := 86) rfl (fun zc2 => ?_) (fun zc2 => ?_)
            · refine hy_iinc (i := 86) rfl rfl (by omega) ?_
              refine hy_goto (i := 87) (tt := 43) rfl ?_
              exact ih'
            · refine hy_iload (i := 53) rfl rfl ?_
              refine hy_cS1e (i := 54) rfl (by decide) mj_M_bits (by decide) rfl (Nat.le_of_ble_eq_true rfl) (c_M_bits) ?_
              refine hy_const (i := 55) rfl (by decide) ?_
              refine hy_const (i := 56) rfl (by decide) ?_
              refine hy_cS3e (i := 57) rfl (by decide) mj_M_in (by decide) rfl (Nat.le_of_ble_eq_true rfl) (c_M_in) ?_
              refine hy_ib_eq (i := 58) (tt := 86) rfl (fun zc3 => ?_) (fun zc3 => ?_)
              · refine hy_iinc (i := 86) rfl rfl (by omega) ?_
                refine hy_goto (i := 87) (tt := 43) rfl ?_
                exact ih'
              · refine hy_aload (i := 59) rfl rfl ?_
                refine hy_iload (i := 60) rfl rfl ?_
                refine hy_iload (i := 61) rfl rfl ?_
                refine hy_iload (i := 62) rfl rfl ?_
                refine hy_cV3e (i := 63) rfl mj_M_isSignal (by decide) rfl (Nat.le_of_ble_eq_true rfl) rfl rfl rfl (c_M_isSignal) ?_
                refine hy_ib_ne (i := 64) (tt := 66) rfl (fun zc4 => ?_) (fun zc4 => ?_)
                · exact absurd ⟨by assumption, by simp only [decide_eq_true_eq] at *; omega, by assumption⟩ hg
                · refine hy_goto (i := 65) (tt := 86) rfl ?_
                  refine hy_iinc (i := 86) rfl rfl (by omega) ?_
                  refine hy_goto (i := 87) (tt := 43) rfl ?_
                  exact ih'
    refine hy_iload (i := 0) rfl rfl ?_
    refine hy_const (i := 1) rfl (by decide) ?_
    refine hy_const (i := 2) rfl (by decide) ?_
    refine hy_cS3e (i := 3) rfl (by decide) mj_M_in (by decide) rfl (Nat.le_of_ble_eq_true rfl) (c_M_in) ?_
    refine hy_ib_eq (i := 4) (tt := 30) rfl (fun zc1 => ?_) (fun zc1 => ?_)
    · simp only [decide_eq_false_iff_not] at zc1; omega
    · refine hy_iload (i := 5) rfl rfl ?_
      refine hy_const (i := 6) rfl (by decide) ?_
      refine hy_const (i := 7) rfl (by decide) ?_
      refine hy_cS3e (i := 8) rfl (by decide) mj_M_in (by decide) rfl (Nat.le_of_ble_eq_true rfl) (c_M_in) ?_
      refine hy_ib_eq (i := 9) (tt := 30) rfl (fun zc2 => ?_) (fun zc2 => ?_)
      · simp only [decide_eq_false_iff_not] at zc2; omega
      · refine hy_iload (i := 10) rfl rfl ?_
        refine hy_iload (i := 11) rfl rfl ?_
        refine hy_iand (i := 12) rfl ?_
        refine hy_if_ne (i := 13) (tt := 30) rfl (fun zc3 => ?_) (fun zc3 => ?_)
        · exact absurd hq.2.2.1 (by assumption)
        · refine hy_iload (i := 14) rfl rfl ?_
          refine hy_cS1e (i := 15) rfl (by decide) mj_M_isQuarter (by decide) rfl (Nat.le_of_ble_eq_true rfl) (c_M_isQuarter) ?_
          refine hy_ib_eq (i := 16) (tt := 30) rfl (fun zc4 => ?_) (fun zc4 => ?_)
          · simp only [decide_eq_false_iff_not] at zc4; omega
          · refine hy_iload (i := 17) rfl rfl ?_
            refine hy_const (i := 18) rfl (by decide) ?_
            refine hy_const (i := 19) rfl (by decide) ?_
            refine hy_cS3e (i := 20) rfl (by decide) mj_M_in (by decide) rfl (Nat.le_of_ble_eq_true rfl) (c_M_in) ?_
            refine hy_ib_eq (i := 21) (tt := 30) rfl (fun zc5 => ?_) (fun zc5 => ?_)
            · simp only [decide_eq_false_iff_not] at zc5; omega
            · refine hy_iload (i := 22) rfl rfl ?_
              refine hy_const (i := 23) rfl (by decide) ?_
              refine hy_ic_ge (i := 24) (tt := 32) rfl (fun zc6 => ?_) (fun zc6 => ?_)
              · refine hy_aload (i := 32) rfl rfl ?_
                refine hy_iload (i := 33) rfl rfl ?_
                refine hy_cV1 (i := 34) rfl mj_M_laysAll (by decide) rfl (Nat.le_of_ble_eq_true rfl) rfl rfl rfl (c_M_laysAll (by assumption) (by assumption) (by omega)) (fun r5_ t5_ h5 => ?_)
                obtain ⟨rfl, hF5, hB5⟩ := h5
                dsimp only [hy_st, List.nil_append]
                refine hy_const (i := 35) rfl (by decide) ?_
                refine hy_istore (i := 36) rfl ?_
                refine hy_const (i := 37) rfl (by decide) ?_
                refine hy_istore (i := 38) rfl ?_
                refine hy_const (i := 39) rfl (by decide) ?_
                refine hy_istore (i := 40) rfl ?_
                refine hy_const (i := 41) rfl (by decide) ?_
                refine hy_istore (i := 42) rfl ?_
                exact loop _ (by assumption) (by assumption) 4096 0 rfl
              · refine hy_iload (i := 25) rfl rfl ?_
                refine hy_const (i := 26) rfl (by decide) ?_
                refine hy_const (i := 27) rfl (by decide) ?_
                refine hy_cS3e (i := 28) rfl (by decide) mj_M_in (by decide) rfl (Nat.le_of_ble_eq_true rfl) (c_M_in) ?_
                refine hy_ib_ne (i := 29) (tt := 32) rfl (fun zc7 => ?_) (fun zc7 => ?_)
                · refine hy_aload (i := 32) rfl rfl ?_
                  refine hy_iload (i := 33) rfl rfl ?_
                  refine hy_cV1 (i := 34) rfl mj_M_laysAll (by decide) rfl (Nat.le_of_ble_eq_true rfl) rfl rfl rfl (c_M_laysAll (by assumption) (by assumption) (by omega)) (fun r6_ t6_ h6 => ?_)
                  obtain ⟨rfl, hF6, hB6⟩ := h6
                  dsimp only [hy_st, List.nil_append]
                  refine hy_const (i := 35) rfl (by decide) ?_
                  refine hy_istore (i := 36) rfl ?_
                  refine hy_const (i := 37) rfl (by decide) ?_
                  refine hy_istore (i := 38) rfl ?_
                  refine hy_const (i := 39) rfl (by decide) ?_
                  refine hy_istore (i := 40) rfl ?_
                  refine hy_const (i := 41) rfl (by decide) ?_
                  refine hy_istore (i := 42) rfl ?_
                  exact loop _ (by assumption) (by assumption) 4096 0 rfl
                · simp only [decide_eq_false_iff_not] at zc7; omega
  · simp only [if_neg hq]
    refine hy_iload (i := 0) rfl rfl ?_
    refine hy_const (i := 1) rfl (by decide) ?_
    refine hy_const (i := 2) rfl (by decide) ?_
    refine hy_cS3e (i := 3) rfl (by decide) mj_M_in (by decide) rfl (Nat.le_of_ble_eq_true rfl) (c_M_in) ?_
    refine hy_ib_eq (i := 4) (tt := 30) rfl (fun zc1 => ?_) (fun zc1 => ?_)
    · refine hy_const (i := 30) rfl (by decide) ?_
      refine hy_ireturn (i := 31) rfl rfl ?_
      exact ⟨rfl, hy_F.rf, fun h => absurd h hq⟩
    · refine hy_iload (i := 5) rfl rfl ?_
      refine hy_const (i := 6) rfl (by decide) ?_
      refine hy_const (i := 7) rfl (by decide) ?_
      refine hy_cS3e (i := 8) rfl (by decide) mj_M_in (by decide) rfl (Nat.le_of_ble_eq_true rfl) (c_M_in) ?_
      refine hy_ib_eq (i := 9) (tt := 30) rfl (fun zc2 => ?_) (fun zc2 => ?_)
      · refine hy_const (i := 30) rfl (by decide) ?_
        refine hy_ireturn (i := 31) rfl rfl ?_
        exact ⟨rfl, hy_F.rf, fun h => absurd h hq⟩
      · refine hy_iload (i := 10) rfl rfl ?_
        refine hy_iload (i := 11) rfl rfl ?_
        refine hy_iand (i := 12) rfl ?_
        refine hy_if_ne (i := 13) (tt := 30) rfl (fun zc3 => ?_) (fun zc3 => ?_)
        · refine hy_const (i := 30) rfl (by decide) ?_
          refine hy_ireturn (i := 31) rfl rfl ?_
          exact ⟨rfl, hy_F.rf, fun h => absurd h hq⟩
        · refine hy_iload (i := 14) rfl rfl ?_
          refine hy_cS1e (i := 15) rfl (by decide) mj_M_isQuarter (by decide) rfl (Nat.le_of_ble_eq_true rfl) (c_M_isQuarter) ?_
          refine hy_ib_eq (i := 16) (tt := 30) rfl (fun zc4 => ?_) (fun zc4 => ?_)
          · refine hy_const (i := 30) rfl (by decide) ?_
            refine hy_ireturn (i := 31) rfl rfl ?_
            exact ⟨rfl, hy_F.rf, fun h => absurd h hq⟩
          · refine hy_iload (i := 17) rfl rfl ?_
            refine hy_const (i := 18) rfl (by decide) ?_
            refine hy_const (i := 19) rfl (by decide) ?_
            refine hy_cS3e (i := 20) rfl (by decide) mj_M_in (by decide) rfl (Nat.le_of_ble_eq_true rfl) (c_M_in) ?_
            refine hy_ib_eq (i := 21) (tt := 30) rfl (fun zc5 => ?_) (fun zc5 => ?_)
            · refine hy_const (i := 30) rfl (by decide) ?_
              refine hy_ireturn (i := 31) rfl rfl ?_
              exact ⟨rfl, hy_F.rf, fun h => absurd h hq⟩
            · refine hy_iload (i := 22) rfl rfl ?_
              refine hy_const (i := 23) rfl (by decide) ?_
              refine hy_ic_ge (i := 24) (tt := 32) rfl (fun zc6 => ?_) (fun zc6 => ?_)
              · exfalso; simp only [decide_eq_true_eq] at *; exact hq ⟨by assumption, by assumption, by assumption, by assumption, by assumption, fun h => absurd h (by omega)⟩
              · refine hy_iload (i := 25) rfl rfl ?_
                refine hy_const (i := 26) rfl (by decide) ?_
                refine hy_const (i := 27) rfl (by decide) ?_
                refine hy_cS3e (i := 28) rfl (by decide) mj_M_in (by decide) rfl (Nat.le_of_ble_eq_true rfl) (c_M_in) ?_
                refine hy_ib_ne (i := 29) (tt := 32) rfl (fun zc7 => ?_) (fun zc7 => ?_)
                · exfalso; simp only [decide_eq_true_eq] at *; exact hq ⟨by assumption, by assumption, by assumption, by assumption, by assumption, fun h => by assumption⟩
                · refine hy_const (i := 30) rfl (by decide) ?_
                  refine hy_ireturn (i := 31) rfl rfl ?_
                  exact ⟨rfl, hy_F.rf, fun h => absurd h hq⟩
end MS
abbrev mby (t : hy_T) (i : Nat) : Int := hz_iand (t 65 i) 255
theorem mby_in (t : hy_T) (i : Nat) : 0 ≤ mby t i ∧ mby t i ≤ 255 := hz_iand_le (by decide)
abbrev mf_ptc (t : hy_T) (m w : Int) : Prop := (2 ≤ m ∧ m ≤ 3) ∧ ((0 ≤ w ∧ w ≤ 1) ∨ 10 ≤ w ∧ w ≤ 13) ∧ 4 * m ≤ t 59 9
section MR
variable {sc : List Int32} {t : hy_T}
theorem c_M_hasBy {m i j x : Int} (hm : 2 ≤ m ∧ m ≤ 3) (hi : 0 ≤ i ∧ i < 3) (hx : 0 ≤ x ∧ x ≤ 100) : hy_Ct sc hm_M_hasBy 0 [.inr (some 59), .inl m, .inl i, .inl j, .inl x] t (hy_p (fun y => 0 ≤ y ∧ y ≤ 1020) t) := by
  refine hy_mk_ct ok_M_hasBy ck_M_hasBy (Nat.le_of_ble_eq_true rfl) ?_
  have loop : ∀ (n : Nat), n ≤ 4 → ∀ (s l : Int), (0 ≤ s ∧ s + 255 * n ≤ 1020) → (0 ≤ l ∧ l ≤ 100) → hy_W sc hm_M_hasBy 0 6 [.inr (some 59), .inl m, .inl i, .inl j, .inl x, .inl s, .inl l, .inl ((n : Int) - 1)] [] t (hy_p (fun y => 0 ≤ y ∧ y ≤ 1020) t) := by
    intro n
    induction n with
    | zero =>
      intro hn s l hs hl
      refine hy_iload (i := 6) rfl rfl ?_
      refine hy_if_lt (i := 7) (tt := 32) rfl (fun zc1 => ?_) (fun zc1 => ?_)
      · refine hy_iload (i := 32) rfl rfl ?_
        refine hy_ireturn (i := 33) rfl rfl ?_
        exact ⟨_, rfl, by omega, rfl⟩
      · omega
    | succ n ih =>
      intro hn s l hs hl
      rw [show (((n + 1 : Nat) : Int) - 1) = (n : Int) by omega]
      have hb : 0 ≤ hz_iand (t 65 (4 * i + n).toNat) 255 ∧ hz_iand (t 65 (4 * i + n).toNat) 255 ≤ 255 := mby_in t (4 * i + n).toNat
      have hlm : 0 ≤ l / m ∧ l / m ≤ l := ⟨Int.ediv_nonneg hl.1 (by omega), Int.ediv_le_self m hl.1⟩
      refine hy_iload (i := 6) rfl rfl ?_
      refine hy_if_lt (i := 7) (tt := 32) rfl (fun zc1 => ?_) (fun zc1 => ?_)
      · omega
      · refine hy_iload (i := 8) rfl rfl ?_
        refine hy_iload (i := 9) rfl rfl ?_
        refine hy_irem (i := 10) rfl (by omega) (by omega) ?_
        refine hy_iload (i := 11) rfl rfl ?_
        refine hy_ic_ne (i := 12) (tt := 26) rfl (fun zc2 => ?_) (fun zc2 => ?_)
        · refine hy_iload (i := 26) rfl rfl ?_
          refine hy_iload (i := 27) rfl rfl ?_
          refine hy_idiv (i := 28) rfl (by omega) (by omega) ?_
          refine hy_istore (i := 29) rfl ?_
          refine hy_iinc (i := 30) rfl rfl (by omega) ?_
          refine hy_goto (i := 31) (tt := 6) rfl ?_
          rw [show (n : Int) + -1 = (n : Int) - 1 by omega]
          exact ih (by omega) _ _ (by omega) (by omega)
        · refine hy_iload (i := 13) rfl rfl ?_
          refine hy_aload (i := 14) rfl rfl ?_
          refine hy_getr (i := 15) rfl rfl ?_
          refine hy_const (i := 16) rfl (by decide) ?_
          refine hy_iload (i := 17) rfl rfl ?_
          refine hy_imul (i := 18) rfl (by omega) ?_
          refine hy_iload (i := 19) rfl rfl ?_
          refine hy_iadd (i := 20) rfl (by omega) ?_
          refine hy_bald (i := 21) rfl rfl (by decide) (by omega) rfl ?_
          refine hy_const (i := 22) rfl (by decide) ?_
          refine hy_iand (i := 23) rfl ?_
          refine hy_iadd (i := 24) rfl (by omega) ?_
          refine hy_istore (i := 25) rfl ?_
          refine hy_iload (i := 26) rfl rfl ?_
          refine hy_iload (i := 27) rfl rfl ?_
          refine hy_idiv (i := 28) rfl (by omega) (by omega) ?_
          refine hy_istore (i := 29) rfl ?_
          refine hy_iinc (i := 30) rfl rfl (by omega) ?_
          refine hy_goto (i := 31) (tt := 6) rfl ?_
          rw [show (n : Int) + -1 = (n : Int) - 1 by omega]
          exact ih (by omega) _ _ (by omega) (by omega)
  refine hy_const (i := 0) rfl (by decide) ?_
  refine hy_istore (i := 1) rfl ?_
  refine hy_iload (i := 2) rfl rfl ?_
  refine hy_istore (i := 3) rfl ?_
  refine hy_const (i := 4) rfl (by decide) ?_
  refine hy_istore (i := 5) rfl ?_
  exact loop 4 (by decide) 0 x (by decide) hx
theorem c_M_leastBy {m x : Int} (hm : 2 ≤ m ∧ m ≤ 3) (hx : 0 ≤ x ∧ x ≤ 100) : hy_Ct sc hm_M_leastBy 1 [.inr (some 59), .inl m, .inl x] t (hy_p (fun _ => True) t) := by
  refine hy_mk_ct ok_M_leastBy ck_M_leastBy (Nat.le_of_ble_eq_true rfl) ?_
  have loop : ∀ (n : Nat), ∀ (k : Nat) (l : Int), n + k = m.toNat → hy_W sc hm_M_leastBy 1 4 [.inr (some 59), .inl m, .inl x, .inl l, .inl (k : Int)] [] t (hy_p (fun _ => True) t) := by
    intro n
    induction n with
    | zero =>
      intro k l hn
      refine hy_iload (i := 4) rfl rfl ?_
      refine hy_iload (i := 5) rfl rfl ?_
      refine hy_ic_ge (i := 6) (tt := 18) rfl (fun zc1 => ?_) (fun zc1 => ?_)
      · refine hy_iload (i := 18) rfl rfl ?_
        refine hy_ireturn (i := 19) rfl rfl ?_
        exact ⟨_, rfl, trivial, rfl⟩
      · omega
    | succ n ih =>
      intro k l hn
      refine hy_iload (i := 4) rfl rfl ?_
      refine hy_iload (i := 5) rfl rfl ?_
      refine hy_ic_ge (i := 6) (tt := 18) rfl (fun zc1 => ?_) (fun zc1 => ?_)
      · omega
      · refine hy_iload (i := 7) rfl rfl ?_
        refine hy_aload (i := 8) rfl rfl ?_
        refine hy_iload (i := 9) rfl rfl ?_
        refine hy_iload (i := 10) rfl rfl ?_
        refine hy_iload (i := 11) rfl rfl ?_
        refine hy_iload (i := 12) rfl rfl ?_
        refine hy_cV4 (i := 13) rfl mj_M_hasBy (by decide) rfl (Nat.le_of_ble_eq_true rfl) rfl rfl rfl (c_M_hasBy hm (by omega) hx) (fun r1_ t1_ h1 => ?_)
        obtain ⟨x1, rfl, hx1, rfl⟩ := h1
        dsimp only [hy_st, List.cons_append, List.nil_append]
        refine hy_cS2e (i := 14) rfl (by decide) mj_M_min (by decide) rfl (Nat.le_of_ble_eq_true rfl) (c_M_min) ?_
        refine hy_istore (i := 15) rfl ?_
        refine hy_iinc (i := 16) rfl rfl (by omega) ?_
        refine hy_goto (i := 17) (tt := 4) rfl ?_
        exact ih (k + 1) _ (by omega)
  refine hy_const (i := 0) rfl (by decide) ?_
  refine hy_istore (i := 1) rfl ?_
  refine hy_const (i := 2) rfl (by decide) ?_
  refine hy_istore (i := 3) rfl ?_
  exact loop m.toNat 0 _ rfl
theorem c_M_parted {m w : Int} (hl : 0 ≤ t 59 9 ∧ t 59 9 ≤ 260) : hy_Ct sc hm_M_parted 2 [.inr (some 59), .inl m, .inl w] t (fun r t' => (∃ x : Int, r = some x) ∧ t' = if mf_ptc t m w then hy_up t 59 9 0 else t) := by
  refine hy_mk_ct ok_M_parted ck_M_parted (Nat.le_of_ble_eq_true rfl) ?_
  by_cases hq : mf_ptc t m w
  · simp only [if_pos hq]
    have hm := hq.1
    generalize hu : hy_up t 59 9 0 = u
    have fin : ∀ (v4 v5 v6 : hy_V) (b : Int), (0 ≤ b ∧ b ≤ 100) → hy_W sc hm_M_parted 2 71 [.inr (some 59), .inl m, .inl w, .inl b, v4, v5, v6] [] u (fun r t' => (∃ x : Int, r = some x) ∧ t' = u) := by
      intro v4 v5 v6 b hb
      have envy : ∀ (n : Nat), ∀ (k : Nat) (y : Int) (v6 : hy_V), n + k = m.toNat → (0 ≤ y ∧ y ≤ 3 * k) → hy_W sc hm_M_parted 2 85 [.inr (some 59), .inl m, .inl w, .inl b, .inl y, .inl (k : Int), v6] [] u (fun r t' => (∃ x : Int, r = some x) ∧ t' = u) := by
        intro n
        induction n with
        | zero =>
          intro k y v6 hn hy
          refine hy_iload (i := 85) rfl rfl ?_
          refine hy_iload (i := 86) rfl rfl ?_
          refine hy_ic_ge (i := 87) (tt := 116) rfl (fun zc1 => ?_) (fun zc1 => ?_)
          · refine hy_iload (i := 116) rfl rfl ?_
            refine hy_ireturn (i := 117) rfl rfl ?_
            exact ⟨⟨_, rfl⟩, rfl⟩
          · omega
        | succ n ih =>
          intro k y v6 hn hy
          have inner : ∀ (n2 : Nat), ∀ (j : Nat) (y : Int), n2 + j = m.toNat → (0 ≤ y ∧ y ≤ 3 * k + j) → hy_W sc hm_M_parted 2 90 [.inr (some 59), .inl m, .inl w, .inl b, .inl y, .inl (k : Int), .inl (j : Int)] [] u (fun r t' => (∃ x : Int, r = some x) ∧ t' = u) := by
            intro n2
            induction n2 with
            | zero =>
              intro j y hn2 hy
              refine hy_iload (i := 90) rfl rfl ?_
              refine hy_iload (i := 91) rfl rfl ?_
              refine hy_ic_ge (i := 92) (tt := 114) rfl (fun zc1 => ?_) (fun zc1 => ?_)
              · refine hy_iinc (i := 114) rfl rfl (by omega) ?_
                refine hy_goto (i := 115) (tt := 85) rfl ?_
                exact ih (k + 1) _ _ (by omega) (by omega)
              · omega
            | succ n2 ih2 =>
              intro j y hn2 hy
              refine hy_iload (i := 90) rfl rfl ?_
              refine hy_iload (i := 91) rfl rfl ?_
              refine hy_ic_ge (i := 92) (tt := 114) rfl (fun zc1 => ?_) (fun zc1 => ?_)
              · omega
              · refine hy_iload (i := 93) rfl rfl ?_
                refine hy_aload (i := 94) rfl rfl ?_
                refine hy_iload (i := 95) rfl rfl ?_
                refine hy_iload (i := 96) rfl rfl ?_
                refine hy_iload (i := 97) rfl rfl ?_
                refine hy_iload (i := 98) rfl rfl ?_
                refine hy_cV4 (i := 99) rfl mj_M_hasBy (by decide) rfl (Nat.le_of_ble_eq_true rfl) rfl rfl rfl (c_M_hasBy (by assumption) (by omega) (by assumption)) (fun r1_ t1_ h1 => ?_)
                obtain ⟨x1, rfl, hx1, rfl⟩ := h1
                dsimp only [hy_st, List.cons_append, List.nil_append]
                refine hy_aload (i := 100) rfl rfl ?_
                refine hy_iload (i := 101) rfl rfl ?_
                refine hy_iload (i := 102) rfl rfl ?_
                refine hy_iload (i := 103) rfl rfl ?_
                refine hy_iload (i := 104) rfl rfl ?_
                refine hy_cV4 (i := 105) rfl mj_M_hasBy (by decide) rfl (Nat.le_of_ble_eq_true rfl) rfl rfl rfl (c_M_hasBy (by assumption) (by omega) (by assumption)) (fun r2_ t2_ h2 => ?_)
                obtain ⟨x2, rfl, hx2, rfl⟩ := h2
                dsimp only [hy_st, List.cons_append, List.nil_append]
                refine hy_ic_le (i := 106) (tt := 109) rfl (fun zc2 => ?_) (fun zc2 => ?_)
                · refine hy_const (i := 109) rfl (by decide) ?_
                  refine hy_iadd (i := 110) rfl (by omega) ?_
                  refine hy_istore (i := 111) rfl ?_
                  refine hy_iinc (i := 112) rfl rfl (by omega) ?_
                  refine hy_goto (i := 113) (tt := 90) rfl ?_
                  exact ih2 (j + 1) _ (by omega) (by omega)
                · refine hy_const (i := 107) rfl (by decide) ?_
                  refine hy_goto (i := 108) (tt := 110) rfl ?_
                  refine hy_iadd (i := 110) rfl (by omega) ?_
                  refine hy_istore (i := 111) rfl ?_
                  refine hy_iinc (i := 112) rfl rfl (by omega) ?_
                  refine hy_goto (i := 113) (tt := 90) rfl ?_
                  exact ih2 (j + 1) _ (by omega) (by omega)
          refine hy_iload (i := 85) rfl rfl ?_
          refine hy_iload (i := 86) rfl rfl ?_
          refine hy_ic_ge (i := 87) (tt := 116) rfl (fun zc1 => ?_) (fun zc1 => ?_)
          · omega
          · refine hy_const (i := 88) rfl (by decide) ?_
            refine hy_istore (i := 89) rfl ?_
            exact inner m.toNat 0 _ (by omega) (by omega)
      have left : (10 ≤ w ∧ w ≤ 13) → ∀ (n : Nat), ∀ (l k : Int), k ≤ 3 → -1 ≤ k → n = (k + 1).toNat → (0 ≤ l ∧ l ≤ 100) → hy_W sc hm_M_parted 2 122 [.inr (some 59), .inl m, .inl w, .inl b, .inl l, .inl k, v6] [] u (fun r t' => (∃ x : Int, r = some x) ∧ t' = u) := by
        intro hw n
        induction n with
        | zero =>
          intro l k h3 h0 hn hl
          refine hy_iload (i := 122) rfl rfl ?_
          refine hy_iload (i := 123) rfl rfl ?_
          refine hy_const (i := 124) rfl (by decide) ?_
          refine hy_isub (i := 125) rfl (by omega) ?_
          refine hy_ic_le (i := 126) (tt := 133) rfl (fun zc1 => ?_) (fun zc1 => ?_)
          · refine hy_iload (i := 133) rfl rfl ?_
            refine hy_iload (i := 134) rfl rfl ?_
            refine hy_irem (i := 135) rfl (by omega) (by omega) ?_
            refine hy_ireturn (i := 136) rfl rfl ?_
            exact ⟨⟨_, rfl⟩, rfl⟩
          · omega
        | succ n ih =>
          intro l k h3 h0 hn hl
          have hlm : 0 ≤ l / m ∧ l / m ≤ l := ⟨Int.ediv_nonneg hl.1 (by omega), Int.ediv_le_self m hl.1⟩
          refine hy_iload (i := 122) rfl rfl ?_
          refine hy_iload (i := 123) rfl rfl ?_
          refine hy_const (i := 124) rfl (by decide) ?_
          refine hy_isub (i := 125) rfl (by omega) ?_
          refine hy_ic_le (i := 126) (tt := 133) rfl (fun zc1 => ?_) (fun zc1 => ?_)
          · refine hy_iload (i := 133) rfl rfl ?_
            refine hy_iload (i := 134) rfl rfl ?_
            refine hy_irem (i := 135) rfl (by omega) (by omega) ?_
            refine hy_ireturn (i := 136) rfl rfl ?_
            exact ⟨⟨_, rfl⟩, rfl⟩
          · refine hy_iload (i := 127) rfl rfl ?_
            refine hy_iload (i := 128) rfl rfl ?_
            refine hy_idiv (i := 129) rfl (by omega) (by omega) ?_
            refine hy_istore (i := 130) rfl ?_
            refine hy_iinc (i := 131) rfl rfl (by omega) ?_
            refine hy_goto (i := 132) (tt := 122) rfl ?_
            exact ih _ _ (by omega) (by omega) (by omega) (by omega)
      refine hy_iload (i := 71) rfl rfl ?_
      refine hy_if_ne (i := 72) (tt := 78) rfl (fun zc1 => ?_) (fun zc1 => ?_)
      · refine hy_iload (i := 78) rfl rfl ?_
        refine hy_const (i := 79) rfl (by decide) ?_
        refine hy_ic_ne (i := 80) (tt := 118) rfl (fun zc2 => ?_) (fun zc2 => ?_)
        · refine hy_iload (i := 118) rfl rfl ?_
          refine hy_istore (i := 119) rfl ?_
          refine hy_const (i := 120) rfl (by decide) ?_
          refine hy_istore (i := 121) rfl ?_
          exact left (by omega) 4 b 3 (by decide) (by decide) rfl hb
        · refine hy_const (i := 81) rfl (by decide) ?_
          refine hy_istore (i := 82) rfl ?_
          refine hy_const (i := 83) rfl (by decide) ?_
          refine hy_istore (i := 84) rfl ?_
          exact envy m.toNat 0 0 _ rfl (by omega)
      · refine hy_aload (i := 73) rfl rfl ?_
        refine hy_iload (i := 74) rfl rfl ?_
        refine hy_iload (i := 75) rfl rfl ?_
        refine hy_cV2 (i := 76) rfl mj_M_leastBy (by decide) rfl (Nat.le_of_ble_eq_true rfl) rfl rfl rfl (c_M_leastBy (by assumption) (by assumption)) (fun r1_ t1_ h1 => ?_)
        obtain ⟨x1, rfl, hx1, rfl⟩ := h1
        dsimp only [hy_st, List.cons_append, List.nil_append]
        refine hy_ireturn (i := 77) rfl rfl ?_
        exact ⟨⟨_, rfl⟩, rfl⟩
    have mm : (16 ≤ m * m * m * m ∧ m * m * m * m ≤ 81) ∧ (m * m * m = 8 ∨ m * m * m = 27) ∧ (m * m = 4 ∨ m * m = 9) := by
      rcases (show m = 2 ∨ m = 3 by omega) with rfl | rfl <;> decide
    have best : ∀ (n : Nat), ∀ (b k : Int) (v5 v6 : hy_V), n = (m * m * m * m - k).toNat → (1 ≤ k ∧ k ≤ m * m * m * m) → (0 ≤ b ∧ b ≤ 100) → hy_W sc hm_M_parted 2 49 [.inr (some 59), .inl m, .inl w, .inl b, .inl k, v5, v6] [] u (fun r t' => (∃ x : Int, r = some x) ∧ t' = u) := by
      intro n
      induction n with
      | zero =>
        intro b k v5 v6 hn hk hb
        refine hy_iload (i := 49) rfl rfl ?_
        refine hy_iload (i := 50) rfl rfl ?_
        refine hy_iload (i := 51) rfl rfl ?_
        refine hy_imul (i := 52) rfl (by omega) ?_
        refine hy_iload (i := 53) rfl rfl ?_
        refine hy_imul (i := 54) rfl (by omega) ?_
        refine hy_iload (i := 55) rfl rfl ?_
        refine hy_imul (i := 56) rfl (by omega) ?_
        refine hy_ic_ge (i := 57) (tt := 71) rfl (fun zc1 => ?_) (fun zc1 => ?_)
        · exact fin _ _ _ b hb
        · omega
      | succ n ih =>
        intro b k v5 v6 hn hk hb
        refine hy_iload (i := 49) rfl rfl ?_
        refine hy_iload (i := 50) rfl rfl ?_
        refine hy_iload (i := 51) rfl rfl ?_
        refine hy_imul (i := 52) rfl (by omega) ?_
        refine hy_iload (i := 53) rfl rfl ?_
        refine hy_imul (i := 54) rfl (by omega) ?_
        refine hy_iload (i := 55) rfl rfl ?_
        refine hy_imul (i := 56) rfl (by omega) ?_
        refine hy_ic_ge (i := 57) (tt := 71) rfl (fun zc1 => ?_) (fun zc1 => ?_)
        · omega
        · refine hy_aload (i := 58) rfl rfl ?_
          refine hy_iload (i := 59) rfl rfl ?_
          refine hy_iload (i := 60) rfl rfl ?_
          refine hy_cV2 (i := 61) rfl mj_M_leastBy (by decide) rfl (Nat.le_of_ble_eq_true rfl) rfl rfl rfl (c_M_leastBy hm (by omega)) (fun r1_ t1_ h1 => ?_)
          obtain ⟨x1, rfl, hx1, rfl⟩ := h1
          dsimp only [hy_st, List.cons_append, List.nil_append]
          refine hy_aload (i := 62) rfl rfl ?_
          refine hy_iload (i := 63) rfl rfl ?_
          refine hy_iload (i := 64) rfl rfl ?_
          refine hy_cV2 (i := 65) rfl mj_M_leastBy (by decide) rfl (Nat.le_of_ble_eq_true rfl) rfl rfl rfl (c_M_leastBy (by assumption) (by assumption)) (fun r2_ t2_ h2 => ?_)
          obtain ⟨x2, rfl, hx2, rfl⟩ := h2
          dsimp only [hy_st, List.cons_append, List.nil_append]
          refine hy_ic_le (i := 66) (tt := 69) rfl (fun zc2 => ?_) (fun zc2 => ?_)
          · refine hy_iinc (i := 69) rfl rfl (by omega) ?_
            refine hy_goto (i := 70) (tt := 49) rfl ?_
            exact ih _ _ _ _ (by omega) (by omega) (by omega)
          · refine hy_iload (i := 67) rfl rfl ?_
            refine hy_istore (i := 68) rfl ?_
            refine hy_iinc (i := 69) rfl rfl (by omega) ?_
            refine hy_goto (i := 70) (tt := 49) rfl ?_
            exact ih _ _ _ _ (by omega) (by omega) (by omega)
    have shown : ∀ (n : Nat), ∀ (k : Nat) (v4 v5 v6 : hy_V), n + k = (4 * m).toNat → hy_W sc hm_M_parted 2 28 [.inr (some 59), .inl m, .inl w, .inl (k : Int), v4, v5, v6] [] u (fun r t' => (∃ x : Int, r = some x) ∧ t' = u) := by
      intro n
      induction n with
      | zero =>
        intro k v4 v5 v6 hn
        refine hy_iload (i := 28) rfl rfl ?_
        refine hy_const (i := 29) rfl (by decide) ?_
        refine hy_iload (i := 30) rfl rfl ?_
        refine hy_imul (i := 31) rfl (by omega) ?_
        refine hy_ic_ge (i := 32) (tt := 45) rfl (fun zc1 => ?_) (fun zc1 => ?_)
        · refine hy_const (i := 45) rfl (by decide) ?_
          refine hy_istore (i := 46) rfl ?_
          refine hy_const (i := 47) rfl (by decide) ?_
          refine hy_istore (i := 48) rfl ?_
          exact best (m * m * m * m - 1).toNat 0 1 _ _ rfl (by omega) (by decide)
        · omega
      | succ n ih =>
        intro k v4 v5 v6 hn
        refine hy_iload (i := 28) rfl rfl ?_
        refine hy_const (i := 29) rfl (by decide) ?_
        refine hy_iload (i := 30) rfl rfl ?_
        refine hy_imul (i := 31) rfl (by omega) ?_
        refine hy_ic_ge (i := 32) (tt := 45) rfl (fun zc1 => ?_) (fun zc1 => ?_)
        · omega
        · refine hy_aload (i := 33) rfl rfl ?_
          refine hy_getr (i := 34) rfl rfl ?_
          refine hy_iload (i := 35) rfl rfl ?_
          refine hy_bald (i := 36) rfl rfl (by decide) (by omega) rfl ?_
          refine hy_const (i := 37) rfl (by decide) ?_
          refine hy_iand (i := 38) rfl ?_
          refine hy_const (i := 39) rfl (by decide) ?_
          refine hy_ic_le (i := 40) (tt := 43) rfl (fun zc2 => ?_) (fun zc2 => ?_)
          · refine hy_iinc (i := 43) rfl rfl (by omega) ?_
            refine hy_goto (i := 44) (tt := 28) rfl ?_
            exact ih (k + 1) _ _ _ (by omega)
          · refine hy_const (i := 41) rfl (by decide) ?_
            refine hy_ireturn (i := 42) rfl rfl ?_
            exact ⟨⟨_, rfl⟩, rfl⟩
    refine hy_iload (i := 0) rfl rfl ?_
    refine hy_const (i := 1) rfl (by decide) ?_
    refine hy_const (i := 2) rfl (by decide) ?_
    refine hy_cS3e (i := 3) rfl (by decide) mj_M_in (by decide) rfl (Nat.le_of_ble_eq_true rfl) (c_M_in) ?_
    refine hy_ib_eq (i := 4) (tt := 21) rfl (fun zc1 => ?_) (fun zc1 => ?_)
    · simp only [decide_eq_false_iff_not] at zc1; omega
    · refine hy_iload (i := 5) rfl rfl ?_
      refine hy_const (i := 6) rfl (by decide) ?_
      refine hy_const (i := 7) rfl (by decide) ?_
      refine hy_cS3e (i := 8) rfl (by decide) mj_M_in (by decide) rfl (Nat.le_of_ble_eq_true rfl) (c_M_in) ?_
      refine hy_ib_ne (i := 9) (tt := 15) rfl (fun zc2 => ?_) (fun zc2 => ?_)
      · refine hy_const (i := 15) rfl (by decide) ?_
        refine hy_iload (i := 16) rfl rfl ?_
        refine hy_imul (i := 17) rfl (by omega) ?_
        refine hy_aload (i := 18) rfl rfl ?_
        refine hy_get (i := 19) (fk := 9) rfl rfl rfl ?_
        refine hy_ic_le (i := 20) (tt := 23) rfl (fun zc3 => ?_) (fun zc3 => ?_)
        · refine hy_aload (i := 23) rfl rfl ?_
          refine hy_const (i := 24) rfl (by decide) ?_
          refine hy_put (i := 25) (fk := 9) rfl rfl rfl rfl ?_
          rw [hu]
          refine hy_const (i := 26) rfl (by decide) ?_
          refine hy_istore (i := 27) rfl ?_
          exact shown (4 * m).toNat 0 _ _ _ rfl
        · omega
      · refine hy_iload (i := 10) rfl rfl ?_
        refine hy_const (i := 11) rfl (by decide) ?_
        refine hy_const (i := 12) rfl (by decide) ?_
        refine hy_cS3e (i := 13) rfl (by decide) mj_M_in (by decide) rfl (Nat.le_of_ble_eq_true rfl) (c_M_in) ?_
        refine hy_ib_eq (i := 14) (tt := 21) rfl (fun zc3 => ?_) (fun zc3 => ?_)
        · exfalso; simp only [decide_eq_false_iff_not] at *; omega
        · refine hy_const (i := 15) rfl (by decide) ?_
          refine hy_iload (i := 16) rfl rfl ?_
          refine hy_imul (i := 17) rfl (by omega) ?_
          refine hy_aload (i := 18) rfl rfl ?_
          refine hy_get (i := 19) (fk := 9) rfl rfl rfl ?_
          refine hy_ic_le (i := 20) (tt := 23) rfl (fun zc4 => ?_) (fun zc4 => ?_)
          · refine hy_aload (i := 23) rfl rfl ?_
            refine hy_const (i := 24) rfl (by decide) ?_
            refine hy_put (i := 25) (fk := 9) rfl rfl rfl rfl ?_
            rw [hu]
            refine hy_const (i := 26) rfl (by decide) ?_
            refine hy_istore (i := 27) rfl ?_
            exact shown (4 * m).toNat 0 _ _ _ rfl
          · omega
  · simp only [if_neg hq]
    refine hy_iload (i := 0) rfl rfl ?_
    refine hy_const (i := 1) rfl (by decide) ?_
    refine hy_const (i := 2) rfl (by decide) ?_
    refine hy_cS3e (i := 3) rfl (by decide) mj_M_in (by decide) rfl (Nat.le_of_ble_eq_true rfl) (c_M_in) ?_
    refine hy_ib_eq (i := 4) (tt := 21) rfl (fun zc1 => ?_) (fun zc1 => ?_)
    · refine hy_const (i := 21) rfl (by decide) ?_
      refine hy_ireturn (i := 22) rfl rfl ?_
      exact ⟨⟨_, rfl⟩, rfl⟩
    · refine hy_iload (i := 5) rfl rfl ?_
      refine hy_const (i := 6) rfl (by decide) ?_
      refine hy_const (i := 7) rfl (by decide) ?_
      refine hy_cS3e (i := 8) rfl (by decide) mj_M_in (by decide) rfl (Nat.le_of_ble_eq_true rfl) (c_M_in) ?_
      refine hy_ib_ne (i := 9) (tt := 15) rfl (fun zc2 => ?_) (fun zc2 => ?_)
      · refine hy_const (i := 15) rfl (by decide) ?_
        refine hy_iload (i := 16) rfl rfl ?_
        refine hy_imul (i := 17) rfl (by simp only [decide_eq_true_eq] at *; omega) ?_
        refine hy_aload (i := 18) rfl rfl ?_
        refine hy_get (i := 19) (fk := 9) rfl rfl rfl ?_
        refine hy_ic_le (i := 20) (tt := 23) rfl (fun zc3 => ?_) (fun zc3 => ?_)
        · exfalso; simp only [decide_eq_true_eq] at *; first | exact hq ⟨by assumption, .inl (by assumption), by omega⟩ | exact hq ⟨by assumption, .inr (by assumption), by omega⟩
        · refine hy_const (i := 21) rfl (by decide) ?_
          refine hy_ireturn (i := 22) rfl rfl ?_
          exact ⟨⟨_, rfl⟩, rfl⟩
      · refine hy_iload (i := 10) rfl rfl ?_
        refine hy_const (i := 11) rfl (by decide) ?_
        refine hy_const (i := 12) rfl (by decide) ?_
        refine hy_cS3e (i := 13) rfl (by decide) mj_M_in (by decide) rfl (Nat.le_of_ble_eq_true rfl) (c_M_in) ?_
        refine hy_ib_eq (i := 14) (tt := 21) rfl (fun zc3 => ?_) (fun zc3 => ?_)
        · refine hy_const (i := 21) rfl (by decide) ?_
          refine hy_ireturn (i := 22) rfl rfl ?_
          exact ⟨⟨_, rfl⟩, rfl⟩
        · refine hy_const (i := 15) rfl (by decide) ?_
          refine hy_iload (i := 16) rfl rfl ?_
          refine hy_imul (i := 17) rfl (by simp only [decide_eq_true_eq] at *; omega) ?_
          refine hy_aload (i := 18) rfl rfl ?_
          refine hy_get (i := 19) (fk := 9) rfl rfl rfl ?_
          refine hy_ic_le (i := 20) (tt := 23) rfl (fun zc4 => ?_) (fun zc4 => ?_)
          · exfalso; simp only [decide_eq_true_eq] at *; first | exact hq ⟨by assumption, .inl (by assumption), by omega⟩ | exact hq ⟨by assumption, .inr (by assumption), by omega⟩
          · refine hy_const (i := 21) rfl (by decide) ?_
            refine hy_ireturn (i := 22) rfl rfl ?_
            exact ⟨⟨_, rfl⟩, rfl⟩
end MR
