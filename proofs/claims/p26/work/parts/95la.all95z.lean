/-! the class's spies, exactly -/
theorem tp_at_k {t : hy_T} {i : Int} {j : Nat} (e : i = (j : Int)) (hj : (j : Int) < t 3 1) : tp_at t i = t 4 j := by
  unfold tp_at
  rw [if_pos (by omega), e, Int.toNat_natCast]
theorem br_lawS {t t1 : hy_T} (h : hy_F brX t t1) : lc_same t t1 := lc_same_of h (fun r j q => by revert q; simp [lawX, brX]; omega)
theorem br_seen {t t1 : hy_T} (h : hy_F brX t t1) (e q : Int) : sp_seen t1 e q = sp_seen t e q := by
  unfold sp_seen
  rw [sp_seenN_G h (br_lawS h) rfl rfl (fun _ => rfl) (fun _ => rfl), show t1 34 = t 34 from funext fun j => h 34 j rfl]
theorem br_as {t t1 : hy_T} (h : hy_F brX t t1) (s : Int) (f : Nat → Int) : ∀ n : Nat, sp_asN t1 s f n = sp_asN t s f n
  | 0 => rfl
  | n + 1 => by
    simp only [sp_asN]
    rw [br_as h s f n, h 5 3 rfl, show t1 6 n = t 6 n from h 6 n rfl, show t1 7 n = t 7 n from h 7 n rfl]
/-- what is bright to an empire in a quarter -/
def br_P (t : hy_T) (k : Nat) (v : Int) : Prop := ∃ f : Nat → Int, v = hz_iand (t 5 2) (hz_ixor (sp_alikeN (sp_asN t (sp_seen t ((k : Int) / 4) ((k : Int) % 4)) f 12) 12 12) (-1))
def wf_shN (t : hy_T) : Nat → Bool
  | 0 => true
  | k + 1 => wf_shN t k && ((sp_told (t 5 2) (t 4 (3 * k)) && decide (t 4 (3 * k + 1) ≤ 3)) && decide (t 4 (3 * k + 2) ≤ 1))
theorem wf_shN_le (t : hy_T) : ∀ (n m : Nat), m ≤ n → wf_shN t n = true → wf_shN t m = true
  | 0, m, h, hf => by obtain rfl : m = 0 := (by omega); exact hf
  | n + 1, m, h, hf => by
    by_cases hm : m = n + 1
    · rw [hm]; exact hf
    · simp only [wf_shN, Bool.and_eq_true] at hf
      exact wf_shN_le t n m (by omega) hf.1
theorem wf_sh_at {t : hy_T} {n k : Nat} (h : wf_shN t n = true) (hk : k < n) : sp_told (t 5 2) (t 4 (3 * k)) = true ∧ t 4 (3 * k + 1) ≤ 3 ∧ t 4 (3 * k + 2) ≤ 1 := by
  have h1 := wf_shN_le t n (k + 1) (by omega) h
  simp only [wf_shN, Bool.and_eq_true, decide_eq_true_eq] at h1
  exact ⟨h1.2.1.1, h1.2.1.2, h1.2.2⟩
theorem wf_sh_no {t : hy_T} {n k : Nat} (hk : k ≤ n) (h : wf_shN t k = false) : wf_shN t n = false := by
  cases h1 : wf_shN t n
  · rfl
  · exact bb_abs (wf_shN_le t n k hk h1) h
def wf_fiN (t : hy_T) (e : Int) : Nat → Bool
  | 0 => true
  | k + 1 => wf_fiN t e k && decide (hy_b (hz_b (t 57 (4 * e + t 4 (3 * k + 1)).toNat) (t 4 (3 * k))) = t 4 (3 * k + 2))
theorem wf_fi_no {t : hy_T} {e : Int} : ∀ (n k : Nat), k ≤ n → wf_fiN t e k = false → wf_fiN t e n = false
  | 0, k, h, hf => by obtain rfl : k = 0 := (by omega); exact hf
  | n + 1, k, h, hf => by
    by_cases hk : k = n + 1
    · rw [← hk]; exact hf
    · simp only [wf_fiN, wf_fi_no n k (by omega) hf, Bool.false_and]
def wf_seN (t : hy_T) (n : Nat) : Nat → Int
  | 0 => 0
  | e + 1 => if wf_fiN t e n = true then hz_ior (wf_seN t n e) (hz_ishl 1 e) else wf_seN t n e
def wf_cnN (t : hy_T) (s c q : Int) : Nat → Int
  | 0 => 0
  | e + 1 => wf_cnN t s c q e + hz_iand (hy_b (hz_b s e)) (hy_b (hz_b (t 57 (4 * (e : Int) + q).toNat) c))
theorem wf_cnN_in (t : hy_T) (s c q : Int) : ∀ n : Nat, 0 ≤ wf_cnN t s c q n ∧ wf_cnN t s c q n ≤ n
  | 0 => by simp [wf_cnN]
  | n + 1 => by
    have h := wf_cnN_in t s c q n
    have h2 : 0 ≤ hz_iand (hy_b (hz_b s n)) (hy_b (hz_b (t 57 (4 * (n : Int) + q).toNat) c)) ∧ hz_iand (hy_b (hz_b s n)) (hy_b (hz_b (t 57 (4 * (n : Int) + q).toNat) c)) ≤ 1 := by
      cases hz_b s n <;> cases hz_b (t 57 (4 * (n : Int) + q).toNat) c <;> decide
    simp only [wf_cnN]
    omega
def wf_gr (t : hy_T) (s c q : Int) : Int := if wf_cnN t s c q 6 < sp_bc s - wf_cnN t s c q 6 then sp_bc s - wf_cnN t s c q 6 else wf_cnN t s c q 6
def wf_beN (t : hy_T) (s : Int) : Nat → Int × Int
  | 0 => (0, 7)
  | k + 1 => if sp_told (t 5 2) ((k : Int) / 4) = true ∧ wf_gr t s ((k : Int) / 4) ((k : Int) % 4) < (wf_beN t s k).2 then ((k : Int), wf_gr t s ((k : Int) / 4) ((k : Int) % 4)) else wf_beN t s k
theorem wf_beN_in (t : hy_T) (s : Int) : ∀ n : Nat, 0 ≤ (wf_beN t s n).1 ∧ (wf_beN t s n).1 ≤ n
  | 0 => by simp [wf_beN]
  | n + 1 => by
    have h := wf_beN_in t s n
    simp only [wf_beN]
    split
    · dsimp only; omega
    · omega
theorem wf_beN_eq {t u : hy_T} (h57 : ∀ j, u 57 j = t 57 j) (h52 : u 5 2 = t 5 2) (s : Int) : ∀ n : Nat, wf_beN u s n = wf_beN t s n
  | 0 => rfl
  | n + 1 => by
    have hc : ∀ (c q : Int) (m : Nat), wf_cnN u s c q m = wf_cnN t s c q m := fun c q m => by
      induction m with
      | zero => rfl
      | succ m ih => simp only [wf_cnN, ih, h57]
    have hg : ∀ c q : Int, wf_gr u s c q = wf_gr t s c q := fun c q => by
      unfold wf_gr
      rw [hc]
    simp only [wf_beN]
    rw [wf_beN_eq h57 h52 s n, h52, hg]
def wf_spyA (t u : hy_T) (n w : Int) : Int := if wf_spyok t n w then (if wf_shN t n.toNat = true then (if w = 0 then wf_seN u n.toNat 6 else if w = 1 then (wf_beN u (wf_seN u n.toNat 6) 48).1 / 4 else (wf_beN u (wf_seN u n.toNat 6) 48).1 % 4) else -2) else -1
section SPX
variable {sc : List Int32} {t : hy_T}
theorem c_W_areShown_x {n : Int} (h : tp_ok t) (hn : n ≤ 10) (h3 : 3 * n ≤ t 3 1) : hy_Ct sc hm_W_areShown 2 [.inr (some 2), .inl n] t (hy_e (some (hy_b (wf_shN t n.toNat))) t) := by
  refine hy_mk_ct ok_W_areShown ck_W_areShown (Nat.le_of_ble_eq_true rfl) ?_
  have hl := h.l
  have loop : ∀ (m : Nat), ∀ (k : Nat), m + k = n.toNat → wf_shN t k = true → hy_W sc hm_W_areShown 2 2 [.inr (some 2), .inl n, .inl (k : Int)] [] t (hy_e (some (hy_b (wf_shN t n.toNat))) t) := by
    intro m
    induction m with
    | zero =>
      intro k hm hv
      obtain rfl : k = n.toNat := by omega
      refine hy_iload (i := 2) rfl rfl ?_
      refine hy_iload (i := 3) rfl rfl ?_
      refine hy_ic_ge (i := 4) (tt := 40) rfl (fun zc1 => ?_) (fun zc1 => ?_)
      · refine hy_const (i := 40) rfl (by decide) ?_
        refine hy_zreturn (i := 41) rfl rfl (by first | decide | exact hy_b01 _) ?_
        exact ⟨congrArg some (by rw [hv]; rfl), rfl⟩
      · omega
    | succ m ih =>
      intro k hm hv
      have e1 : wf_shN t (k + 1) = ((sp_told (t 5 2) (t 4 (3 * k)) && decide (t 4 (3 * k + 1) ≤ 3)) && decide (t 4 (3 * k + 2) ≤ 1)) := by simp only [wf_shN]; rw [hv, Bool.true_and]
      have b1 := h.b (3 * k + 1) (by omega)
      have b2 := h.b (3 * k + 2) (by omega)
      refine hy_iload (i := 2) rfl rfl ?_
      refine hy_iload (i := 3) rfl rfl ?_
      refine hy_ic_ge (i := 4) (tt := 40) rfl (fun zc1 => ?_) (fun zc1 => ?_)
      · omega
      · refine hy_aload (i := 5) rfl rfl ?_
        refine hy_getr (i := 6) rfl rfl ?_
        refine hy_aload (i := 7) rfl rfl ?_
        refine hy_getr (i := 8) rfl rfl ?_
        refine hy_const (i := 9) rfl (by decide) ?_
        refine hy_iload (i := 10) rfl rfl ?_
        refine hy_imul (i := 11) rfl (by omega) ?_
        refine hy_cV1e (i := 12) rfl mj_T_at (by decide) rfl (Nat.le_of_ble_eq_true rfl) rfl rfl rfl (c_T_at hl.2) ?_
        rw [tp_at_k (show 3 * (k : Int) = ((3 * k : Nat) : Int) by omega) (by omega)]
        refine hy_cV1e (i := 13) rfl mj_P_isTold (by decide) rfl (Nat.le_of_ble_eq_true rfl) rfl rfl rfl (c_P_isTold) ?_
        refine hy_ib_eq (i := 14) (tt := 36) rfl (fun zc2 => ?_) (fun zc2 => ?_)
        · refine hy_const (i := 36) rfl (by decide) ?_
          refine hy_zreturn (i := 37) rfl rfl (by first | decide | exact hy_b01 _) ?_
          exact ⟨congrArg some (by rw [wf_sh_no (n := n.toNat) (k := k + 1) (by omega) (by rw [e1]; first | (rw [show sp_told (t 5 2) (t 4 (3 * k)) = false by assumption]; rfl) | (rw [decide_eq_false (show ¬ t 4 (3 * k + 1) ≤ 3 by simp only [decide_eq_true_eq, decide_eq_false_iff_not] at *; omega), Bool.and_false]; rfl) | (rw [decide_eq_false (show ¬ t 4 (3 * k + 2) ≤ 1 by simp only [decide_eq_true_eq, decide_eq_false_iff_not] at *; omega), Bool.and_false]))]; rfl), rfl⟩
        · refine hy_aload (i := 15) rfl rfl ?_
          refine hy_getr (i := 16) rfl rfl ?_
          refine hy_const (i := 17) rfl (by decide) ?_
          refine hy_iload (i := 18) rfl rfl ?_
          refine hy_imul (i := 19) rfl (by omega) ?_
          refine hy_const (i := 20) rfl (by decide) ?_
          refine hy_iadd (i := 21) rfl (by omega) ?_
          refine hy_cV1e (i := 22) rfl mj_T_at (by decide) rfl (Nat.le_of_ble_eq_true rfl) rfl rfl rfl (c_T_at hl.2) ?_
          rw [tp_at_k (show 3 * (k : Int) + 1 = ((3 * k + 1 : Nat) : Int) by omega) (by omega)]
          refine hy_cS1e (i := 23) rfl (by decide) mj_W_isQuarter (by decide) rfl (Nat.le_of_ble_eq_true rfl) (c_W_isQuarter) ?_
          refine hy_ib_eq (i := 24) (tt := 36) rfl (fun zc3 => ?_) (fun zc3 => ?_)
          · refine hy_const (i := 36) rfl (by decide) ?_
            refine hy_zreturn (i := 37) rfl rfl (by first | decide | exact hy_b01 _) ?_
            exact ⟨congrArg some (by rw [wf_sh_no (n := n.toNat) (k := k + 1) (by omega) (by rw [e1]; first | (rw [show sp_told (t 5 2) (t 4 (3 * k)) = false by assumption]; rfl) | (rw [decide_eq_false (show ¬ t 4 (3 * k + 1) ≤ 3 by simp only [decide_eq_true_eq, decide_eq_false_iff_not] at *; omega), Bool.and_false]; rfl) | (rw [decide_eq_false (show ¬ t 4 (3 * k + 2) ≤ 1 by simp only [decide_eq_true_eq, decide_eq_false_iff_not] at *; omega), Bool.and_false]))]; rfl), rfl⟩
          · refine hy_aload (i := 25) rfl rfl ?_
            refine hy_getr (i := 26) rfl rfl ?_
            refine hy_const (i := 27) rfl (by decide) ?_
            refine hy_iload (i := 28) rfl rfl ?_
            refine hy_imul (i := 29) rfl (by omega) ?_
            refine hy_const (i := 30) rfl (by decide) ?_
            refine hy_iadd (i := 31) rfl (by omega) ?_
            refine hy_cV1e (i := 32) rfl mj_T_at (by decide) rfl (Nat.le_of_ble_eq_true rfl) rfl rfl rfl (c_T_at hl.2) ?_
            rw [tp_at_k (show 3 * (k : Int) + 2 = ((3 * k + 2 : Nat) : Int) by omega) (by omega)]
            refine hy_const (i := 33) rfl (by decide) ?_
            refine hy_cS2e (i := 34) rfl (by decide) mj_W_isAmong (by decide) rfl (Nat.le_of_ble_eq_true rfl) (c_W_isAmong) ?_
            refine hy_ib_ne (i := 35) (tt := 38) rfl (fun zc4 => ?_) (fun zc4 => ?_)
            · refine hy_iinc (i := 38) rfl rfl (by omega) ?_
              refine hy_goto (i := 39) (tt := 2) rfl ?_
              exact ih (k + 1) (by omega) (by rw [e1, show sp_told (t 5 2) (t 4 (3 * k)) = true by assumption, decide_eq_true (show t 4 (3 * k + 1) ≤ 3 by simp only [decide_eq_true_eq] at *; omega), decide_eq_true (show t 4 (3 * k + 2) ≤ 1 by simp only [decide_eq_true_eq] at *; omega)]; rfl)
            · refine hy_const (i := 36) rfl (by decide) ?_
              refine hy_zreturn (i := 37) rfl rfl (by first | decide | exact hy_b01 _) ?_
              exact ⟨congrArg some (by rw [wf_sh_no (n := n.toNat) (k := k + 1) (by omega) (by rw [e1]; first | (rw [show sp_told (t 5 2) (t 4 (3 * k)) = false by assumption]; rfl) | (rw [decide_eq_false (show ¬ t 4 (3 * k + 1) ≤ 3 by simp only [decide_eq_true_eq, decide_eq_false_iff_not] at *; omega), Bool.and_false]; rfl) | (rw [decide_eq_false (show ¬ t 4 (3 * k + 2) ≤ 1 by simp only [decide_eq_true_eq, decide_eq_false_iff_not] at *; omega), Bool.and_false]))]; rfl), rfl⟩
  refine hy_const (i := 0) rfl (by decide) ?_
  refine hy_istore (i := 1) rfl ?_
  exact loop n.toNat 0 rfl rfl
theorem c_W_findBright_x (hk : lc_ok t) : hy_Ct sc hm_W_findBright 5 [.inr (some 2)] t (fun r t' => r = none ∧ (∀ j : Nat, j < 24 → br_P t j (t' 57 j)) ∧ hy_F brX t t') := by
  refine hy_mk_ct ok_W_findBright ck_W_findBright (Nat.le_of_ble_eq_true rfl) ?_
  have loop : ∀ (m : Nat), ∀ (k : Nat) (t1 : hy_T), m + k = 24 → hy_F brX t t1 → (∀ j : Nat, j < k → br_P t j (t1 57 j)) → hy_W sc hm_W_findBright 5 2 [.inr (some 2), .inl (k : Int)] [] t1 (fun r t' => r = none ∧ (∀ j : Nat, j < 24 → br_P t j (t' 57 j)) ∧ hy_F brX t t') := by
    intro m
    induction m with
    | zero =>
      intro k t1 hm hF hi
      obtain rfl : k = 24 := by omega
      refine hy_iload (i := 2) rfl rfl ?_
      refine hy_const (i := 3) rfl (by decide) ?_
      refine hy_ic_ge (i := 4) (tt := 30) rfl (fun zc1 => ?_) (fun zc1 => ?_)
      · refine hy_return (i := 30) rfl rfl ?_
        exact ⟨rfl, hi, hF⟩
      · omega
    | succ m ih =>
      intro k t1 hm hF hi
      refine hy_iload (i := 2) rfl rfl ?_
      refine hy_const (i := 3) rfl (by decide) ?_
      refine hy_ic_ge (i := 4) (tt := 30) rfl (fun zc1 => ?_) (fun zc1 => ?_)
      · omega
      · refine hy_aload (i := 5) rfl rfl ?_
        refine hy_getr (i := 6) rfl rfl ?_
        refine hy_iload (i := 7) rfl rfl ?_
        refine hy_const (i := 8) rfl (by decide) ?_
        refine hy_idiv (i := 9) rfl (by omega) (by omega) ?_
        refine hy_iload (i := 10) rfl rfl ?_
        refine hy_const (i := 11) rfl (by decide) ?_
        refine hy_irem (i := 12) rfl (by omega) (by omega) ?_
        refine hy_cV2 (i := 13) rfl mj_E_look (by decide) rfl (Nat.le_of_ble_eq_true rfl) rfl rfl rfl (c_E_look (lc_ok_br hF hk)) (fun r1_ t1_ h1 => ?_)
        obtain ⟨rfl, hL1, hF1⟩ := h1
        dsimp only [hy_st, List.nil_append]
        refine hy_aload (i := 14) rfl rfl ?_
        refine hy_getr (i := 15) rfl rfl ?_
        refine hy_iload (i := 16) rfl rfl ?_
        refine hy_aload (i := 17) rfl rfl ?_
        refine hy_getr (i := 18) rfl rfl ?_
        refine hy_cV0e (i := 19) rfl mj_P_told (by decide) rfl (Nat.le_of_ble_eq_true rfl) rfl rfl rfl (c_P_told) ?_
        refine hy_aload (i := 20) rfl rfl ?_
        refine hy_getr (i := 21) rfl rfl ?_
        refine hy_const (i := 22) rfl (by decide) ?_
        refine hy_cV1e (i := 23) rfl mj_E_alike (by decide) rfl (Nat.le_of_ble_eq_true rfl) rfl rfl rfl (c_E_alike) ?_
        refine hy_const (i := 24) rfl (by decide) ?_
        refine hy_ixor (i := 25) rfl ?_
        refine hy_iand (i := 26) rfl ?_
        refine hy_iast (i := 27) rfl rfl (by omega) (k := k) (by omega) ?_
        refine hy_iinc (i := 28) rfl rfl (by omega) ?_
        refine hy_goto (i := 29) (tt := 2) rfl ?_
        refine ih (k + 1) _ (by omega) ((hF.tr' (hF1.w (fun r j q => by revert q; simp [lX, brX]; omega))).up rfl) (fun j hj => ?_)
        by_cases hjk : j = k
        · rw [hjk, show ∀ v, hy_up t1_ 57 k v 57 k = v from fun v => by simp [hy_up]]; exact ⟨t1 46, by rw [hL1, lk_12, br_seen hF, br_as hF, hF1 5 2 rfl, hF 5 2 rfl]⟩
        · rw [show ∀ v, hy_up t1_ 57 k v 57 j = t1_ 57 j from fun v => by simp [hy_up, hjk], hF1 57 j rfl]; exact hi j (by omega)
  refine hy_const (i := 0) rfl (by decide) ?_
  refine hy_istore (i := 1) rfl ?_
  exact loop 24 0 t rfl hy_F.rf (fun j hj => absurd hj (Nat.not_lt_zero j))
theorem c_W_fits_x {e n : Int} (h : tp_ok t) (hn : n ≤ 10) (h3 : 3 * n ≤ t 3 1) (hs : wf_shN t n.toNat = true) (he : 0 ≤ e ∧ e < 6) : hy_Ct sc hm_W_fits 1 [.inr (some 2), .inl e, .inl n] t (hy_e (some (hy_b (wf_fiN t e n.toNat))) t) := by
  refine hy_mk_ct ok_W_fits ck_W_fits (Nat.le_of_ble_eq_true rfl) ?_
  have hl := h.l
  have loop : ∀ (m : Nat), ∀ (k : Nat) (v4 : hy_V), m + k = n.toNat → wf_fiN t e k = true → hy_W sc hm_W_fits 1 2 [.inr (some 2), .inl e, .inl n, .inl (k : Int), v4] [] t (hy_e (some (hy_b (wf_fiN t e n.toNat))) t) := by
    intro m
    induction m with
    | zero =>
      intro k v4 hm hv
      obtain rfl : k = n.toNat := by omega
      refine hy_iload (i := 2) rfl rfl ?_
      refine hy_iload (i := 3) rfl rfl ?_
      refine hy_ic_ge (i := 4) (tt := 48) rfl (fun zc1 => ?_) (fun zc1 => ?_)
      · refine hy_const (i := 48) rfl (by decide) ?_
        refine hy_zreturn (i := 49) rfl rfl (by first | decide | exact hy_b01 _) ?_
        exact ⟨congrArg some (by rw [hv]; rfl), rfl⟩
      · omega
    | succ m ih =>
      intro k v4 hm hv
      have e1 : wf_fiN t e (k + 1) = decide (hy_b (hz_b (t 57 (4 * e + t 4 (3 * k + 1)).toNat) (t 4 (3 * k))) = t 4 (3 * k + 2)) := by simp only [wf_fiN]; rw [hv, Bool.true_and]
      have b1 := h.b (3 * k + 1) (by omega)
      have s1 := wf_sh_at hs (k := k) (by omega)
      refine hy_iload (i := 2) rfl rfl ?_
      refine hy_iload (i := 3) rfl rfl ?_
      refine hy_ic_ge (i := 4) (tt := 48) rfl (fun zc1 => ?_) (fun zc1 => ?_)
      · omega
      · refine hy_const (i := 5) rfl (by decide) ?_
        refine hy_iload (i := 6) rfl rfl ?_
        refine hy_imul (i := 7) rfl (by omega) ?_
        refine hy_aload (i := 8) rfl rfl ?_
        refine hy_getr (i := 9) rfl rfl ?_
        refine hy_const (i := 10) rfl (by decide) ?_
        refine hy_iload (i := 11) rfl rfl ?_
        refine hy_imul (i := 12) rfl (by omega) ?_
        refine hy_const (i := 13) rfl (by decide) ?_
        refine hy_iadd (i := 14) rfl (by omega) ?_
        refine hy_cV1e (i := 15) rfl mj_T_at (by decide) rfl (Nat.le_of_ble_eq_true rfl) rfl rfl rfl (c_T_at hl.2) ?_
        rw [tp_at_k (show 3 * (k : Int) + 1 = ((3 * k + 1 : Nat) : Int) by omega) (by omega)]
        refine hy_iadd (i := 16) rfl (by omega) ?_
        refine hy_istore (i := 17) rfl ?_
        refine hy_iload (i := 18) rfl rfl ?_
        refine hy_aload (i := 19) rfl rfl ?_
        refine hy_getr (i := 20) rfl rfl ?_
        refine hy_alen (i := 21) rfl rfl (by decide) (by decide) ?_
        refine hy_cS2e (i := 22) rfl (by decide) mj_W_isAmong (by decide) rfl (Nat.le_of_ble_eq_true rfl) (c_W_isAmong) ?_
        refine hy_ib_eq (i := 23) (tt := 44) rfl (fun zc2 => ?_) (fun zc2 => ?_)
        · exfalso; simp only [decide_eq_false_iff_not] at *; omega
        · refine hy_aload (i := 24) rfl rfl ?_
          refine hy_getr (i := 25) rfl rfl ?_
          refine hy_iload (i := 26) rfl rfl ?_
          refine hy_iald (i := 27) rfl rfl (by omega) rfl ?_
          refine hy_aload (i := 28) rfl rfl ?_
          refine hy_getr (i := 29) rfl rfl ?_
          refine hy_const (i := 30) rfl (by decide) ?_
          refine hy_iload (i := 31) rfl rfl ?_
          refine hy_imul (i := 32) rfl (by omega) ?_
          refine hy_cV1e (i := 33) rfl mj_T_at (by decide) rfl (Nat.le_of_ble_eq_true rfl) rfl rfl rfl (c_T_at hl.2) ?_
          rw [tp_at_k (show 3 * (k : Int) = ((3 * k : Nat) : Int) by omega) (by omega)]
          refine hy_cS2e (i := 34) rfl (by decide) mj_W_bit (by decide) rfl (Nat.le_of_ble_eq_true rfl) (c_W_bit) ?_
          refine hy_aload (i := 35) rfl rfl ?_
          refine hy_getr (i := 36) rfl rfl ?_
          refine hy_const (i := 37) rfl (by decide) ?_
          refine hy_iload (i := 38) rfl rfl ?_
          refine hy_imul (i := 39) rfl (by omega) ?_
          refine hy_const (i := 40) rfl (by decide) ?_
          refine hy_iadd (i := 41) rfl (by omega) ?_
          refine hy_cV1e (i := 42) rfl mj_T_at (by decide) rfl (Nat.le_of_ble_eq_true rfl) rfl rfl rfl (c_T_at hl.2) ?_
          rw [tp_at_k (show 3 * (k : Int) + 2 = ((3 * k + 2 : Nat) : Int) by omega) (by omega)]
          refine hy_ic_eq (i := 43) (tt := 46) rfl (fun zc3 => ?_) (fun zc3 => ?_)
          · refine hy_iinc (i := 46) rfl rfl (by omega) ?_
            refine hy_goto (i := 47) (tt := 2) rfl ?_
            exact ih (k + 1) _ (by omega) (by rw [e1]; exact decide_eq_true (by assumption))
          · refine hy_const (i := 44) rfl (by decide) ?_
            refine hy_zreturn (i := 45) rfl rfl (by first | decide | exact hy_b01 _) ?_
            exact ⟨congrArg some (by rw [wf_fi_no n.toNat (k + 1) (by omega) (by rw [e1]; exact decide_eq_false (by assumption))]; rfl), rfl⟩
  refine hy_const (i := 0) rfl (by decide) ?_
  refine hy_istore (i := 1) rfl ?_
  exact loop n.toNat 0 _ rfl rfl
theorem c_W_fitting_x {n : Int} (h : tp_ok t) (hn : n ≤ 10) (h3 : 3 * n ≤ t 3 1) (hs : wf_shN t n.toNat = true) : hy_Ct sc hm_W_fitting 2 [.inr (some 2), .inl n] t (hy_e (some (wf_seN t n.toNat 6)) t) := by
  refine hy_mk_ct ok_W_fitting ck_W_fitting (Nat.le_of_ble_eq_true rfl) ?_
  have loop : ∀ (m : Nat), ∀ (k : Nat), m + k = 6 → hy_W sc hm_W_fitting 2 4 [.inr (some 2), .inl n, .inl (wf_seN t n.toNat k), .inl (k : Int)] [] t (hy_e (some (wf_seN t n.toNat 6)) t) := by
    intro m
    induction m with
    | zero =>
      intro k hm
      obtain rfl : k = 6 := by omega
      refine hy_iload (i := 4) rfl rfl ?_
      refine hy_const (i := 5) rfl (by decide) ?_
      refine hy_ic_ge (i := 6) (tt := 20) rfl (fun zc1 => ?_) (fun zc1 => ?_)
      · refine hy_iload (i := 20) rfl rfl ?_
        refine hy_ireturn (i := 21) rfl rfl ?_
        exact ⟨rfl, rfl⟩
      · omega
    | succ m ih =>
      intro k hm
      have e1 : wf_seN t n.toNat (k + 1) = if wf_fiN t k n.toNat = true then hz_ior (wf_seN t n.toNat k) (hz_ishl 1 k) else wf_seN t n.toNat k := rfl
      have ih' := ih (k + 1) (by omega)
      rw [e1] at ih'
      refine hy_iload (i := 4) rfl rfl ?_
      refine hy_const (i := 5) rfl (by decide) ?_
      refine hy_ic_ge (i := 6) (tt := 20) rfl (fun zc1 => ?_) (fun zc1 => ?_)
      · omega
      · refine hy_aload (i := 7) rfl rfl ?_
        refine hy_iload (i := 8) rfl rfl ?_
        refine hy_iload (i := 9) rfl rfl ?_
        refine hy_cV2e (i := 10) rfl mj_W_fits (by decide) rfl (Nat.le_of_ble_eq_true rfl) rfl rfl rfl (c_W_fits_x h hn h3 hs (by omega)) ?_
        refine hy_ib_eq (i := 11) (tt := 18) rfl (fun zc2 => ?_) (fun zc2 => ?_)
        · refine hy_iinc (i := 18) rfl rfl (by omega) ?_
          refine hy_goto (i := 19) (tt := 4) rfl ?_
          first | (rw [if_pos (by assumption)] at ih'; exact ih') | (rw [if_neg (fun h => bb_abs h (by assumption))] at ih'; exact ih')
        · refine hy_iload (i := 12) rfl rfl ?_
          refine hy_const (i := 13) rfl (by decide) ?_
          refine hy_iload (i := 14) rfl rfl ?_
          refine hy_ishl (i := 15) rfl ?_
          refine hy_ior (i := 16) rfl ?_
          refine hy_istore (i := 17) rfl ?_
          refine hy_iinc (i := 18) rfl rfl (by omega) ?_
          refine hy_goto (i := 19) (tt := 4) rfl ?_
          first | (rw [if_pos (by assumption)] at ih'; exact ih') | (rw [if_neg (fun h => bb_abs h (by assumption))] at ih'; exact ih')
  refine hy_const (i := 0) rfl (by decide) ?_
  refine hy_istore (i := 1) rfl ?_
  refine hy_const (i := 2) rfl (by decide) ?_
  refine hy_istore (i := 3) rfl ?_
  exact loop 6 0 rfl
theorem c_W_greaterPart_x {s c q : Int} (hq : 0 ≤ q ∧ q < 4) : hy_Ct sc hm_W_greaterPart 1 [.inr (some 2), .inl s, .inl c, .inl q] t (hy_e (some (wf_gr t s c q)) t) := by
  refine hy_mk_ct ok_W_greaterPart ck_W_greaterPart (Nat.le_of_ble_eq_true rfl) ?_
  have hbc := hz_bc_le s
  have loop : ∀ (m : Nat), ∀ (k : Nat), m + k = 6 → hy_W sc hm_W_greaterPart 1 4 [.inr (some 2), .inl s, .inl c, .inl q, .inl (wf_cnN t s c q k), .inl (k : Int)] [] t (hy_e (some (wf_gr t s c q)) t) := by
    intro m
    induction m with
    | zero =>
      intro k hm
      obtain rfl : k = 6 := by omega
      have hin := wf_cnN_in t s c q 6
      refine hy_iload (i := 4) rfl rfl ?_
      refine hy_const (i := 5) rfl (by decide) ?_
      refine hy_ic_ge (i := 6) (tt := 26) rfl (fun zc1 => ?_) (fun zc1 => ?_)
      · refine hy_iload (i := 26) rfl rfl ?_
        refine hy_iload (i := 27) rfl rfl ?_
        refine hy_cS1e (i := 28) rfl (by decide) mj_J_bitCount (by decide) rfl (Nat.le_of_ble_eq_true rfl) (c_J_bitCount) ?_
        refine hy_iload (i := 29) rfl rfl ?_
        refine hy_isub (i := 30) rfl (by omega) ?_
        refine hy_max (i := 31) rfl (Nat.le_of_ble_eq_true rfl) ?_
        refine hy_ireturn (i := 32) rfl rfl ?_
        exact ⟨rfl, rfl⟩
      · omega
    | succ m ih =>
      intro k hm
      have hin := wf_cnN_in t s c q k
      have hin1 := wf_cnN_in t s c q (k + 1)
      have e1 : wf_cnN t s c q (k + 1) = wf_cnN t s c q k + hz_iand (hy_b (hz_b s k)) (hy_b (hz_b (t 57 (4 * (k : Int) + q).toNat) c)) := rfl
      rw [e1] at hin1
      refine hy_iload (i := 4) rfl rfl ?_
      refine hy_const (i := 5) rfl (by decide) ?_
      refine hy_ic_ge (i := 6) (tt := 26) rfl (fun zc1 => ?_) (fun zc1 => ?_)
      · omega
      · refine hy_iload (i := 7) rfl rfl ?_
        refine hy_iload (i := 8) rfl rfl ?_
        refine hy_iload (i := 9) rfl rfl ?_
        refine hy_cS2e (i := 10) rfl (by decide) mj_W_bit (by decide) rfl (Nat.le_of_ble_eq_true rfl) (c_W_bit) ?_
        refine hy_aload (i := 11) rfl rfl ?_
        refine hy_getr (i := 12) rfl rfl ?_
        refine hy_const (i := 13) rfl (by decide) ?_
        refine hy_iload (i := 14) rfl rfl ?_
        refine hy_imul (i := 15) rfl (by omega) ?_
        refine hy_iload (i := 16) rfl rfl ?_
        refine hy_iadd (i := 17) rfl (by omega) ?_
        refine hy_iald (i := 18) rfl rfl (by omega) rfl ?_
        refine hy_iload (i := 19) rfl rfl ?_
        refine hy_cS2e (i := 20) rfl (by decide) mj_W_bit (by decide) rfl (Nat.le_of_ble_eq_true rfl) (c_W_bit) ?_
        refine hy_iand (i := 21) rfl ?_
        refine hy_iadd (i := 22) rfl (by omega) ?_
        refine hy_istore (i := 23) rfl ?_
        refine hy_iinc (i := 24) rfl rfl (by omega) ?_
        refine hy_goto (i := 25) (tt := 4) rfl ?_
        exact ih (k + 1) (by omega)
  refine hy_const (i := 0) rfl (by decide) ?_
  refine hy_istore (i := 1) rfl ?_
  refine hy_const (i := 2) rfl (by decide) ?_
  refine hy_istore (i := 3) rfl ?_
  exact loop 6 0 rfl
theorem c_W_bestShown_x {s : Int} : hy_Ct sc hm_W_bestShown 2 [.inr (some 2), .inl s] t (hy_e (some (wf_beN t s 48).1) t) := by
  refine hy_mk_ct ok_W_bestShown ck_W_bestShown (Nat.le_of_ble_eq_true rfl) ?_
  have loop : ∀ (m : Nat), ∀ (k : Nat) (v5 v6 : hy_V), m + k = 48 → hy_W sc hm_W_bestShown 2 6 [.inr (some 2), .inl s, .inl (wf_beN t s k).1, .inl (wf_beN t s k).2, .inl (k : Int), v5, v6] [] t (hy_e (some (wf_beN t s 48).1) t) := by
    intro m
    induction m with
    | zero =>
      intro k v5 v6 hm
      obtain rfl : k = 48 := by omega
      refine hy_iload (i := 6) rfl rfl ?_
      refine hy_const (i := 7) rfl (by decide) ?_
      refine hy_ic_ge (i := 8) (tt := 35) rfl (fun zc1 => ?_) (fun zc1 => ?_)
      · refine hy_iload (i := 35) rfl rfl ?_
        refine hy_ireturn (i := 36) rfl rfl ?_
        exact ⟨rfl, rfl⟩
      · omega
    | succ m ih =>
      intro k v5 v6 hm
      have e1 : wf_beN t s (k + 1) = if sp_told (t 5 2) ((k : Int) / 4) = true ∧ wf_gr t s ((k : Int) / 4) ((k : Int) % 4) < (wf_beN t s k).2 then ((k : Int), wf_gr t s ((k : Int) / 4) ((k : Int) % 4)) else wf_beN t s k := rfl
      have ih' := ih (k + 1)
      rw [e1] at ih'
      refine hy_iload (i := 6) rfl rfl ?_
      refine hy_const (i := 7) rfl (by decide) ?_
      refine hy_ic_ge (i := 8) (tt := 35) rfl (fun zc1 => ?_) (fun zc1 => ?_)
      · omega
      · refine hy_iload (i := 9) rfl rfl ?_
        refine hy_const (i := 10) rfl (by decide) ?_
        refine hy_idiv (i := 11) rfl (by omega) (by omega) ?_
        refine hy_istore (i := 12) rfl ?_
        refine hy_aload (i := 13) rfl rfl ?_
        refine hy_getr (i := 14) rfl rfl ?_
        refine hy_iload (i := 15) rfl rfl ?_
        refine hy_cV1e (i := 16) rfl mj_P_isTold (by decide) rfl (Nat.le_of_ble_eq_true rfl) rfl rfl rfl (c_P_isTold) ?_
        refine hy_ib_eq (i := 17) (tt := 33) rfl (fun zc2 => ?_) (fun zc2 => ?_)
        · refine hy_iinc (i := 33) rfl rfl (by omega) ?_
          refine hy_goto (i := 34) (tt := 6) rfl ?_
          first | (rw [if_pos ⟨by assumption, by omega⟩] at ih'; exact ih' _ _ (by omega)) | (rw [if_neg (fun h => absurd h.2 (by omega))] at ih'; exact ih' _ _ (by omega)) | (rw [if_neg (fun h => bb_abs h.1 (by assumption))] at ih'; exact ih' _ _ (by omega))
        · refine hy_aload (i := 18) rfl rfl ?_
          refine hy_iload (i := 19) rfl rfl ?_
          refine hy_iload (i := 20) rfl rfl ?_
          refine hy_iload (i := 21) rfl rfl ?_
          refine hy_const (i := 22) rfl (by decide) ?_
          refine hy_irem (i := 23) rfl (by omega) (by omega) ?_
          refine hy_cV3e (i := 24) rfl mj_W_greaterPart (by decide) rfl (Nat.le_of_ble_eq_true rfl) rfl rfl rfl (c_W_greaterPart_x (by omega)) ?_
          refine hy_istore (i := 25) rfl ?_
          refine hy_iload (i := 26) rfl rfl ?_
          refine hy_iload (i := 27) rfl rfl ?_
          refine hy_ic_ge (i := 28) (tt := 33) rfl (fun zc3 => ?_) (fun zc3 => ?_)
          · refine hy_iinc (i := 33) rfl rfl (by omega) ?_
            refine hy_goto (i := 34) (tt := 6) rfl ?_
            first | (rw [if_pos ⟨by assumption, by omega⟩] at ih'; exact ih' _ _ (by omega)) | (rw [if_neg (fun h => absurd h.2 (by omega))] at ih'; exact ih' _ _ (by omega)) | (rw [if_neg (fun h => bb_abs h.1 (by assumption))] at ih'; exact ih' _ _ (by omega))
          · refine hy_iload (i := 29) rfl rfl ?_
            refine hy_istore (i := 30) rfl ?_
            refine hy_iload (i := 31) rfl rfl ?_
            refine hy_istore (i := 32) rfl ?_
            refine hy_iinc (i := 33) rfl rfl (by omega) ?_
            refine hy_goto (i := 34) (tt := 6) rfl ?_
            first | (rw [if_pos ⟨by assumption, by omega⟩] at ih'; exact ih' _ _ (by omega)) | (rw [if_neg (fun h => absurd h.2 (by omega))] at ih'; exact ih' _ _ (by omega)) | (rw [if_neg (fun h => bb_abs h.1 (by assumption))] at ih'; exact ih' _ _ (by omega))
  refine hy_const (i := 0) rfl (by decide) ?_
  refine hy_istore (i := 1) rfl ?_
  refine hy_const (i := 2) rfl (by decide) ?_
  refine hy_istore (i := 3) rfl ?_
  refine hy_const (i := 4) rfl (by decide) ?_
  refine hy_istore (i := 5) rfl ?_
  exact loop 48 0 _ _ rfl
theorem c_W_spies_x {n w : Int} (h : tp_ok t) (hk : lc_ok t) : hy_Ct sc hm_W_spies 6 [.inr (some 2), .inl n, .inl w] t (fun r t' => (∃ u : hy_T, hy_F brX t u ∧ (wf_spyok t n w → wf_shN t n.toNat = true → ∀ j : Nat, j < 24 → br_P t j (u 57 j)) ∧ r = some (wf_spyA t u n w)) ∧ hy_F brX (if wf_spyok t n w then hy_up t 3 1 0 else t) t') := by
  refine hy_mk_ct ok_W_spies ck_W_spies (Nat.le_of_ble_eq_true rfl) ?_
  by_cases hq : wf_spyok t n w
  · simp only [if_pos hq]
    obtain ⟨q1, q2, q3⟩ := id hq
    refine hy_iload (i := 0) rfl rfl ?_
    refine hy_const (i := 1) rfl (by decide) ?_
    refine hy_ic_lt (i := 2) (tt := 17) rfl (fun zc1 => ?_) (fun zc1 => ?_)
    · omega
    · refine hy_iload (i := 3) rfl rfl ?_
      refine hy_const (i := 4) rfl (by decide) ?_
      refine hy_ic_gt (i := 5) (tt := 17) rfl (fun zc2 => ?_) (fun zc2 => ?_)
      · omega
      · refine hy_iload (i := 6) rfl rfl ?_
        refine hy_const (i := 7) rfl (by decide) ?_
        refine hy_cS2e (i := 8) rfl (by decide) mj_W_isAmong (by decide) rfl (Nat.le_of_ble_eq_true rfl) (c_W_isAmong) ?_
        refine hy_ib_eq (i := 9) (tt := 17) rfl (fun zc3 => ?_) (fun zc3 => ?_)
        · simp only [decide_eq_false_iff_not] at *; omega
        · refine hy_aload (i := 10) rfl rfl ?_
          refine hy_getr (i := 11) rfl rfl ?_
          refine hy_cV0e (i := 12) rfl mj_T_length (by decide) rfl (Nat.le_of_ble_eq_true rfl) rfl rfl rfl (c_T_length) ?_
          refine hy_const (i := 13) rfl (by decide) ?_
          refine hy_iload (i := 14) rfl rfl ?_
          refine hy_imul (i := 15) rfl (by omega) ?_
          refine hy_ic_ge (i := 16) (tt := 19) rfl (fun zc4 => ?_) (fun zc4 => ?_)
          · refine hy_aload (i := 19) rfl rfl ?_
            refine hy_iload (i := 20) rfl rfl ?_
            refine hy_cV1e (i := 21) rfl mj_W_areShown (by decide) rfl (Nat.le_of_ble_eq_true rfl) rfl rfl rfl (c_W_areShown_x h (by omega) q3) ?_
            refine hy_ib_ne (i := 22) (tt := 28) rfl (fun zc5 => ?_) (fun zc5 => ?_)
            · refine hy_aload (i := 28) rfl rfl ?_
              refine hy_cV0 (i := 29) rfl mj_W_findBright (by decide) rfl (Nat.le_of_ble_eq_true rfl) rfl rfl rfl (c_W_findBright_x hk) (fun r4_ t4_ h4 => ?_)
              obtain ⟨rfl, hB, hF4⟩ := h4
              dsimp only [hy_st, List.nil_append]
              have hb := tp_ok_F hF4 (fun _ => rfl) (fun _ => rfl) h
              have h31 : t4_ 3 1 = t 3 1 := hF4 3 1 rfl
              have hs0 : wf_shN t n.toNat = true := (by assumption)
              have hsn : ∀ m : Nat, wf_shN t4_ m = wf_shN t m := fun m => by induction m with | zero => rfl | succ m ih => simp only [wf_shN, ih]; rw [hF4 5 2 rfl, hF4 4 _ rfl, hF4 4 _ rfl, hF4 4 _ rfl]
              refine hy_aload (i := 30) rfl rfl ?_
              refine hy_iload (i := 31) rfl rfl ?_
              refine hy_cV1e (i := 32) rfl mj_W_fitting (by decide) rfl (Nat.le_of_ble_eq_true rfl) rfl rfl rfl (c_W_fitting_x hb (by omega) (by rw [h31]; exact q3) (by rw [hsn]; exact hs0)) ?_
              refine hy_istore (i := 33) rfl ?_
              refine hy_aload (i := 34) rfl rfl ?_
              refine hy_getr (i := 35) rfl rfl ?_
              refine hy_cV0v (i := 36) rfl mj_T_clear (by decide) rfl (Nat.le_of_ble_eq_true rfl) rfl rfl rfl (c_T_clear) ?_
              refine hy_iload (i := 37) rfl rfl ?_
              refine hy_if_ne (i := 38) (tt := 41) rfl (fun zc6 => ?_) (fun zc6 => ?_)
              · refine hy_aload (i := 41) rfl rfl ?_
                refine hy_iload (i := 42) rfl rfl ?_
                refine hy_cV1e (i := 43) rfl mj_W_bestShown (by decide) rfl (Nat.le_of_ble_eq_true rfl) rfl rfl rfl (c_W_bestShown_x) ?_
                rw [wf_beN_eq (u := hy_up t4_ 3 1 0) (t := t4_) (fun j => hy_up_ne (by decide)) (hy_up_ne (by decide))]
                have hbe := wf_beN_in t4_ (wf_seN t4_ n.toNat 6) 48
                refine hy_istore (i := 44) rfl ?_
                refine hy_iload (i := 45) rfl rfl ?_
                refine hy_const (i := 46) rfl (by decide) ?_
                refine hy_ic_ne (i := 47) (tt := 52) rfl (fun zc7 => ?_) (fun zc7 => ?_)
                · refine hy_iload (i := 52) rfl rfl ?_
                  refine hy_const (i := 53) rfl (by decide) ?_
                  refine hy_irem (i := 54) rfl (by omega) (by omega) ?_
                  refine hy_ireturn (i := 55) rfl rfl ?_
                  first | exact ⟨⟨t, hy_F.rf, fun _ hs => bb_abs hs (by assumption), congrArg some (by unfold wf_spyA; rw [if_pos hq, if_neg (fun hs => bb_abs hs (by assumption))])⟩, hy_F.rf⟩ | exact ⟨⟨_, by assumption, fun _ _ => hB, congrArg some (by unfold wf_spyA; rw [if_pos hq, if_pos hs0, if_pos (by assumption)])⟩, hE_up (by assumption) _ _ _⟩ | exact ⟨⟨_, by assumption, fun _ _ => hB, congrArg some (by unfold wf_spyA; rw [if_pos hq, if_pos hs0, if_neg (by assumption), if_pos (by assumption)])⟩, hE_up (by assumption) _ _ _⟩ | exact ⟨⟨_, by assumption, fun _ _ => hB, congrArg some (by unfold wf_spyA; rw [if_pos hq, if_pos hs0, if_neg (by assumption), if_neg (by assumption)])⟩, hE_up (by assumption) _ _ _⟩
                · refine hy_iload (i := 48) rfl rfl ?_
                  refine hy_const (i := 49) rfl (by decide) ?_
                  refine hy_idiv (i := 50) rfl (by omega) (by omega) ?_
                  refine hy_goto (i := 51) (tt := 55) rfl ?_
                  refine hy_ireturn (i := 55) rfl rfl ?_
                  first | exact ⟨⟨t, hy_F.rf, fun _ hs => bb_abs hs (by assumption), congrArg some (by unfold wf_spyA; rw [if_pos hq, if_neg (fun hs => bb_abs hs (by assumption))])⟩, hy_F.rf⟩ | exact ⟨⟨_, by assumption, fun _ _ => hB, congrArg some (by unfold wf_spyA; rw [if_pos hq, if_pos hs0, if_pos (by assumption)])⟩, hE_up (by assumption) _ _ _⟩ | exact ⟨⟨_, by assumption, fun _ _ => hB, congrArg some (by unfold wf_spyA; rw [if_pos hq, if_pos hs0, if_neg (by assumption), if_pos (by assumption)])⟩, hE_up (by assumption) _ _ _⟩ | exact ⟨⟨_, by assumption, fun _ _ => hB, congrArg some (by unfold wf_spyA; rw [if_pos hq, if_pos hs0, if_neg (by assumption), if_neg (by assumption)])⟩, hE_up (by assumption) _ _ _⟩
              · refine hy_iload (i := 39) rfl rfl ?_
                refine hy_ireturn (i := 40) rfl rfl ?_
                first | exact ⟨⟨t, hy_F.rf, fun _ hs => bb_abs hs (by assumption), congrArg some (by unfold wf_spyA; rw [if_pos hq, if_neg (fun hs => bb_abs hs (by assumption))])⟩, hy_F.rf⟩ | exact ⟨⟨_, by assumption, fun _ _ => hB, congrArg some (by unfold wf_spyA; rw [if_pos hq, if_pos hs0, if_pos (by assumption)])⟩, hE_up (by assumption) _ _ _⟩ | exact ⟨⟨_, by assumption, fun _ _ => hB, congrArg some (by unfold wf_spyA; rw [if_pos hq, if_pos hs0, if_neg (by assumption), if_pos (by assumption)])⟩, hE_up (by assumption) _ _ _⟩ | exact ⟨⟨_, by assumption, fun _ _ => hB, congrArg some (by unfold wf_spyA; rw [if_pos hq, if_pos hs0, if_neg (by assumption), if_neg (by assumption)])⟩, hE_up (by assumption) _ _ _⟩
            · refine hy_aload (i := 23) rfl rfl ?_
              refine hy_getr (i := 24) rfl rfl ?_
              refine hy_cV0v (i := 25) rfl mj_T_clear (by decide) rfl (Nat.le_of_ble_eq_true rfl) rfl rfl rfl (c_T_clear) ?_
              refine hy_const (i := 26) rfl (by decide) ?_
              refine hy_ireturn (i := 27) rfl rfl ?_
              first | exact ⟨⟨t, hy_F.rf, fun _ hs => bb_abs hs (by assumption), congrArg some (by unfold wf_spyA; rw [if_pos hq, if_neg (fun hs => bb_abs hs (by assumption))])⟩, hy_F.rf⟩ | exact ⟨⟨_, by assumption, fun _ _ => hB, congrArg some (by unfold wf_spyA; rw [if_pos hq, if_pos hs0, if_pos (by assumption)])⟩, hE_up (by assumption) _ _ _⟩ | exact ⟨⟨_, by assumption, fun _ _ => hB, congrArg some (by unfold wf_spyA; rw [if_pos hq, if_pos hs0, if_neg (by assumption), if_pos (by assumption)])⟩, hE_up (by assumption) _ _ _⟩ | exact ⟨⟨_, by assumption, fun _ _ => hB, congrArg some (by unfold wf_spyA; rw [if_pos hq, if_pos hs0, if_neg (by assumption), if_neg (by assumption)])⟩, hE_up (by assumption) _ _ _⟩
          · omega
  · simp only [if_neg hq]
    refine hy_iload (i := 0) rfl rfl ?_
    refine hy_const (i := 1) rfl (by decide) ?_
    refine hy_ic_lt (i := 2) (tt := 17) rfl (fun zc1 => ?_) (fun zc1 => ?_)
    · refine hy_const (i := 17) rfl (by decide) ?_
      refine hy_ireturn (i := 18) rfl rfl ?_
      exact ⟨⟨t, hy_F.rf, fun h => absurd h hq, congrArg some (by unfold wf_spyA; rw [if_neg hq])⟩, hy_F.rf⟩
    · refine hy_iload (i := 3) rfl rfl ?_
      refine hy_const (i := 4) rfl (by decide) ?_
      refine hy_ic_gt (i := 5) (tt := 17) rfl (fun zc2 => ?_) (fun zc2 => ?_)
      · refine hy_const (i := 17) rfl (by decide) ?_
        refine hy_ireturn (i := 18) rfl rfl ?_
        exact ⟨⟨t, hy_F.rf, fun h => absurd h hq, congrArg some (by unfold wf_spyA; rw [if_neg hq])⟩, hy_F.rf⟩
      · refine hy_iload (i := 6) rfl rfl ?_
        refine hy_const (i := 7) rfl (by decide) ?_
        refine hy_cS2e (i := 8) rfl (by decide) mj_W_isAmong (by decide) rfl (Nat.le_of_ble_eq_true rfl) (c_W_isAmong) ?_
        refine hy_ib_eq (i := 9) (tt := 17) rfl (fun zc3 => ?_) (fun zc3 => ?_)
        · refine hy_const (i := 17) rfl (by decide) ?_
          refine hy_ireturn (i := 18) rfl rfl ?_
          exact ⟨⟨t, hy_F.rf, fun h => absurd h hq, congrArg some (by unfold wf_spyA; rw [if_neg hq])⟩, hy_F.rf⟩
        · refine hy_aload (i := 10) rfl rfl ?_
          refine hy_getr (i := 11) rfl rfl ?_
          refine hy_cV0e (i := 12) rfl mj_T_length (by decide) rfl (Nat.le_of_ble_eq_true rfl) rfl rfl rfl (c_T_length) ?_
          refine hy_const (i := 13) rfl (by decide) ?_
          refine hy_iload (i := 14) rfl rfl ?_
          refine hy_imul (i := 15) rfl (by omega) ?_
          refine hy_ic_ge (i := 16) (tt := 19) rfl (fun zc4 => ?_) (fun zc4 => ?_)
          · exfalso; simp only [decide_eq_true_eq] at *; exact hq ⟨⟨by omega, by omega⟩, by assumption, by omega⟩
          · refine hy_const (i := 17) rfl (by decide) ?_
            refine hy_ireturn (i := 18) rfl rfl ?_
            exact ⟨⟨t, hy_F.rf, fun h => absurd h hq, congrArg some (by unfold wf_spyA; rw [if_neg hq])⟩, hy_F.rf⟩
end SPX
/-! the class's battle, exactly -/
/-- what a fight has laid down before the twos are found -/
def ft_P (t : hy_T) (a b q : Int) (t2 : hy_T) : Prop := t2 49 4 = hz_iand (sp_hadN (t 34) b q 12) (hz_ixor (sp_hadN (t 34) a q 12) (-1)) ∧ t2 49 5 = hz_iand (sp_hadN (t 34) a q 12) (hz_ixor (sp_hadN (t 34) b q 12) (-1)) ∧ ∀ w : Nat, w < 144 → dl_chosen (t2 49 4) (t2 49 5) w = true → t2 50 w = dl_worth t a q (dl_plainA (sp_hadN (t 34) a q 12) w) ∧ t2 51 w = dl_worth t b q (dl_plainB (sp_hadN (t 34) b q 12) w)
abbrev ft_c (a b q w : Int) : Prop := (((0 ≤ a ∧ a < 6) ∧ 0 ≤ b ∧ b < 6) ∧ a ≠ b) ∧ (0 ≤ q ∧ q < 4) ∧ 0 ≤ w ∧ w < 3
def ft_A (t2 : hy_T) (w : Int) : Int := if w = 0 then dl_twos t2 144 else if w = 1 then dl_a (dl_first t2 144) else dl_b (dl_first t2 144)
section BAT
variable {sc : List Int32} {t : hy_T}
theorem c_W_battle_x {a b q w : Int} (hk : lc_ok t) : hy_Ct sc hm_W_battle 6 [.inr (some 2), .inl a, .inl b, .inl q, .inl w] t (fun r t' => (∃ t2 : hy_T, (ft_c a b q w → ft_P t a b q t2) ∧ r = some (if ft_c a b q w then ft_A t2 w else -1)) ∧ hy_F fX t t') := by
  refine hy_mk_ct ok_W_battle ck_W_battle (Nat.le_of_ble_eq_true rfl) ?_
  by_cases hq : ft_c a b q w
  · obtain ⟨⟨⟨q1, q2⟩, q3⟩, q4, q5⟩ := id hq
    simp only [if_pos hq]
    refine hy_iload (i := 0) rfl rfl ?_
    refine hy_cS1e (i := 1) rfl (by decide) mj_W_isEmpire (by decide) rfl (Nat.le_of_ble_eq_true rfl) (c_W_isEmpire) ?_
    refine hy_ib_eq (i := 2) (tt := 16) rfl (fun zc1 => ?_) (fun zc1 => ?_)
    · simp at zc1; omega
    · refine hy_iload (i := 3) rfl rfl ?_
      refine hy_cS1e (i := 4) rfl (by decide) mj_W_isEmpire (by decide) rfl (Nat.le_of_ble_eq_true rfl) (c_W_isEmpire) ?_
      refine hy_ib_eq (i := 5) (tt := 16) rfl (fun zc2 => ?_) (fun zc2 => ?_)
      · simp at zc2; omega
      · refine hy_iload (i := 6) rfl rfl ?_
        refine hy_iload (i := 7) rfl rfl ?_
        refine hy_ic_eq (i := 8) (tt := 16) rfl (fun zc3 => ?_) (fun zc3 => ?_)
        · omega
        · refine hy_iload (i := 9) rfl rfl ?_
          refine hy_cS1e (i := 10) rfl (by decide) mj_W_isQuarter (by decide) rfl (Nat.le_of_ble_eq_true rfl) (c_W_isQuarter) ?_
          refine hy_ib_eq (i := 11) (tt := 16) rfl (fun zc4 => ?_) (fun zc4 => ?_)
          · simp at zc4; omega
          · refine hy_iload (i := 12) rfl rfl ?_
            refine hy_const (i := 13) rfl (by decide) ?_
            refine hy_cS2e (i := 14) rfl (by decide) mj_W_isAmong (by decide) rfl (Nat.le_of_ble_eq_true rfl) (c_W_isAmong) ?_
            refine hy_ib_ne (i := 15) (tt := 18) rfl (fun zc5 => ?_) (fun zc5 => ?_)
            · refine hy_aload (i := 18) rfl rfl ?_
              refine hy_getr (i := 19) rfl rfl ?_
              refine hy_iload (i := 20) rfl rfl ?_
              refine hy_iload (i := 21) rfl rfl ?_
              refine hy_iload (i := 22) rfl rfl ?_
              refine hy_cV3 (i := 23) rfl mj_D_fight (by decide) rfl (Nat.le_of_ble_eq_true rfl) rfl rfl rfl (c_D_fight hk) (fun r5_ t5_ h5 => ?_)
              obtain ⟨rfl, hF5, t2, e4, e5, hw, w6, w7, w8⟩ := h5
              dsimp only [hy_st, List.nil_append]
              refine hy_iload (i := 24) rfl rfl ?_
              by_cases zq6 : w = 0
              · refine hy_lsw (i := 25) (tt := 26) rfl (by rw [zq6]; rfl) ?_
                refine hy_aload (i := 26) rfl rfl ?_
                refine hy_getr (i := 27) rfl rfl ?_
                refine hy_cV0e (i := 28) rfl mj_D_twos (by decide) rfl (Nat.le_of_ble_eq_true rfl) rfl rfl rfl (c_D_twos) ?_
                refine hy_ireturn (i := 29) rfl rfl ?_
                exact ⟨⟨t2, fun _ => ⟨e4, e5, hw⟩, congrArg some (by unfold ft_A; rw [if_pos (by assumption)]; exact w6)⟩, hF5⟩
              · skip
                by_cases zq6 : w = 1
                · refine hy_lsw (i := 25) (tt := 30) rfl (by rw [zq6]; rfl) ?_
                  refine hy_aload (i := 30) rfl rfl ?_
                  refine hy_getr (i := 31) rfl rfl ?_
                  refine hy_cV0e (i := 32) rfl mj_D_firstOfA (by decide) rfl (Nat.le_of_ble_eq_true rfl) rfl rfl rfl (c_D_firstOfA) ?_
                  refine hy_ireturn (i := 33) rfl rfl ?_
                  exact ⟨⟨t2, fun _ => ⟨e4, e5, hw⟩, congrArg some (by unfold ft_A; rw [if_neg (by omega), if_pos (by assumption)]; exact w7)⟩, hF5⟩
                · skip
                  refine hy_lsw (i := 25) (tt := 34) rfl (by simp [hx_look]; omega) ?_
                  refine hy_aload (i := 34) rfl rfl ?_
                  refine hy_getr (i := 35) rfl rfl ?_
                  refine hy_cV0e (i := 36) rfl mj_D_firstOfB (by decide) rfl (Nat.le_of_ble_eq_true rfl) rfl rfl rfl (c_D_firstOfB) ?_
                  refine hy_ireturn (i := 37) rfl rfl ?_
                  exact ⟨⟨t2, fun _ => ⟨e4, e5, hw⟩, congrArg some (by unfold ft_A; rw [if_neg (by omega), if_neg (by omega)]; exact w8)⟩, hF5⟩
            · simp at zc5; omega
  · simp only [if_neg hq]
    refine hy_iload (i := 0) rfl rfl ?_
    refine hy_cS1e (i := 1) rfl (by decide) mj_W_isEmpire (by decide) rfl (Nat.le_of_ble_eq_true rfl) (c_W_isEmpire) ?_
    refine hy_ib_eq (i := 2) (tt := 16) rfl (fun zc1 => ?_) (fun zc1 => ?_)
    · refine hy_const (i := 16) rfl (by decide) ?_
      refine hy_ireturn (i := 17) rfl rfl ?_
      exact ⟨⟨t, fun h => absurd h hq, rfl⟩, hy_F.rf⟩
    · refine hy_iload (i := 3) rfl rfl ?_
      refine hy_cS1e (i := 4) rfl (by decide) mj_W_isEmpire (by decide) rfl (Nat.le_of_ble_eq_true rfl) (c_W_isEmpire) ?_
      refine hy_ib_eq (i := 5) (tt := 16) rfl (fun zc2 => ?_) (fun zc2 => ?_)
      · refine hy_const (i := 16) rfl (by decide) ?_
        refine hy_ireturn (i := 17) rfl rfl ?_
        exact ⟨⟨t, fun h => absurd h hq, rfl⟩, hy_F.rf⟩
      · refine hy_iload (i := 6) rfl rfl ?_
        refine hy_iload (i := 7) rfl rfl ?_
        refine hy_ic_eq (i := 8) (tt := 16) rfl (fun zc3 => ?_) (fun zc3 => ?_)
        · refine hy_const (i := 16) rfl (by decide) ?_
          refine hy_ireturn (i := 17) rfl rfl ?_
          exact ⟨⟨t, fun h => absurd h hq, rfl⟩, hy_F.rf⟩
        · refine hy_iload (i := 9) rfl rfl ?_
          refine hy_cS1e (i := 10) rfl (by decide) mj_W_isQuarter (by decide) rfl (Nat.le_of_ble_eq_true rfl) (c_W_isQuarter) ?_
          refine hy_ib_eq (i := 11) (tt := 16) rfl (fun zc4 => ?_) (fun zc4 => ?_)
          · refine hy_const (i := 16) rfl (by decide) ?_
            refine hy_ireturn (i := 17) rfl rfl ?_
            exact ⟨⟨t, fun h => absurd h hq, rfl⟩, hy_F.rf⟩
          · refine hy_iload (i := 12) rfl rfl ?_
            refine hy_const (i := 13) rfl (by decide) ?_
            refine hy_cS2e (i := 14) rfl (by decide) mj_W_isAmong (by decide) rfl (Nat.le_of_ble_eq_true rfl) (c_W_isAmong) ?_
            refine hy_ib_ne (i := 15) (tt := 18) rfl (fun zc5 => ?_) (fun zc5 => ?_)
            · exfalso; simp at zc1 zc2 zc4 zc5; exact hq ⟨⟨⟨zc1, zc2⟩, zc3⟩, zc4, zc5⟩
            · refine hy_const (i := 16) rfl (by decide) ?_
              refine hy_ireturn (i := 17) rfl rfl ?_
              exact ⟨⟨t, fun h => absurd h hq, rfl⟩, hy_F.rf⟩
end BAT
/-! the class's power, exactly -/
abbrev pw_c (t : hy_T) (cs c e q w : Int) : Prop := (hz_iand cs (hz_ixor (hz_iand (t 5 2) (hz_ixor (t 5 3) (-1))) (-1)) = 0 ∧ 1 ≤ sp_bc cs ∧ sp_bc cs ≤ 5) ∧ ((0 ≤ c ∧ c < 12) ∧ hz_b cs c = true) ∧ (0 ≤ e ∧ e < 6) ∧ (0 ≤ q ∧ q < 4) ∧ 0 ≤ w ∧ w < 2
def pw_g (A O : Int) : Int := mg_gcdN 64 (if 0 ≤ A then A else -A) O
def wf_pow (t : hy_T) (cs c e q w : Int) : Int := if pw_c t cs c e q w then (if pw_g (ad_by t cs c e q) (ad_o (sp_bc cs)) < 1 then -1000000000 else if w = 0 then hz_div (ad_by t cs c e q) (pw_g (ad_by t cs c e q) (ad_o (sp_bc cs))) else hz_div (ad_o (sp_bc cs)) (pw_g (ad_by t cs c e q) (ad_o (sp_bc cs)))) else -1000000000
section POW
variable {sc : List Int32} {t : hy_T}
theorem c_W_commonDivisor_x {a b : Int} : hy_Ct sc hm_W_commonDivisor 0 [.inl a, .inl b] t (hy_e (some (mg_gcdN 64 a b)) t) := by
  refine hy_mk_ct ok_W_commonDivisor ck_W_commonDivisor (Nat.le_of_ble_eq_true rfl) ?_
  generalize hG : mg_gcdN 64 a b = G
  have loop : ∀ (m : Nat), ∀ (k : Nat) (x y : Int) (v5 : hy_V), m + k = 64 → mg_gcdN m x y = G → hy_W sc hm_W_commonDivisor 0 6 [.inl a, .inl b, .inl x, .inl y, .inl (k : Int), v5] [] t (hy_e (some G) t) := by
    intro m
    induction m with
    | zero =>
      intro k x y v5 hm hv
      refine hy_iload (i := 6) rfl rfl ?_
      refine hy_const (i := 7) rfl (by decide) ?_
      refine hy_ic_ge (i := 8) (tt := 21) rfl (fun zc1 => ?_) (fun zc1 => ?_)
      · refine hy_iload (i := 21) rfl rfl ?_
        refine hy_ireturn (i := 22) rfl rfl ?_
        exact ⟨congrArg some hv, rfl⟩
      · omega
    | succ m ih =>
      intro k x y v5 hm hv
      simp only [mg_gcdN] at hv
      by_cases hz : y = 0
      · rw [if_pos hz] at hv
        refine hy_iload (i := 6) rfl rfl ?_
        refine hy_const (i := 7) rfl (by decide) ?_
        refine hy_ic_ge (i := 8) (tt := 21) rfl (fun zc1 => ?_) (fun zc1 => ?_)
        · omega
        · refine hy_iload (i := 9) rfl rfl ?_
          refine hy_if_eq (i := 10) (tt := 21) rfl (fun zc2 => ?_) (fun zc2 => ?_)
          · refine hy_iload (i := 21) rfl rfl ?_
            refine hy_ireturn (i := 22) rfl rfl ?_
            exact ⟨congrArg some hv, rfl⟩
          · exact absurd hz (by assumption)
      · rw [if_neg hz] at hv
        refine hy_iload (i := 6) rfl rfl ?_
        refine hy_const (i := 7) rfl (by decide) ?_
        refine hy_ic_ge (i := 8) (tt := 21) rfl (fun zc1 => ?_) (fun zc1 => ?_)
        · omega
        · refine hy_iload (i := 9) rfl rfl ?_
          refine hy_if_eq (i := 10) (tt := 21) rfl (fun zc2 => ?_) (fun zc2 => ?_)
          · exact absurd (by assumption) hz
          · refine hy_iload (i := 11) rfl rfl ?_
            refine hy_iload (i := 12) rfl rfl ?_
            refine hy_iremw (i := 13) rfl hz ?_
            refine hy_istore (i := 14) rfl ?_
            refine hy_iload (i := 15) rfl rfl ?_
            refine hy_istore (i := 16) rfl ?_
            refine hy_iload (i := 17) rfl rfl ?_
            refine hy_istore (i := 18) rfl ?_
            refine hy_iinc (i := 19) rfl rfl (by omega) ?_
            refine hy_goto (i := 20) (tt := 6) rfl ?_
            exact ih (k + 1) _ _ _ (by omega) hv
  refine hy_iload (i := 0) rfl rfl ?_
  refine hy_istore (i := 1) rfl ?_
  refine hy_iload (i := 2) rfl rfl ?_
  refine hy_istore (i := 3) rfl ?_
  refine hy_const (i := 4) rfl (by decide) ?_
  refine hy_istore (i := 5) rfl ?_
  exact loop 64 0 _ _ _ rfl hG
theorem c_U_orders_x {n : Int} : hy_Ct sc hm_U_orders 1 [.inl n] t (hy_e (some (ad_o n)) t) := c_U_orders
theorem c_W_power_x {cs c e q w : Int} (hk : lc_ok t) (hB : pw_c t cs c e q w → -2147483648 < ad_by t cs c e q) : hy_Ct sc hm_W_power 6 [.inr (some 2), .inl cs, .inl c, .inl e, .inl q, .inl w] t (fun r t' => r = some (wf_pow t cs c e q w) ∧ hy_F pX t t') := by
  refine hy_mk_ct ok_W_power ck_W_power (Nat.le_of_ble_eq_true rfl) ?_
  by_cases hq : pw_c t cs c e q w
  · have hb := hB hq
    obtain ⟨⟨q1, q2, q3⟩, ⟨q4, q5⟩, q6, q7, q8⟩ := id hq
    unfold wf_pow
    rw [if_pos hq]
    refine hy_iload (i := 0) rfl rfl ?_
    refine hy_cS1e (i := 1) rfl (by decide) mj_J_bitCount (by decide) rfl (Nat.le_of_ble_eq_true rfl) (c_J_bitCount) ?_
    refine hy_istore (i := 2) rfl ?_
    refine hy_aload (i := 3) rfl rfl ?_
    refine hy_getr (i := 4) rfl rfl ?_
    refine hy_iload (i := 5) rfl rfl ?_
    refine hy_cV1e (i := 6) rfl mj_P_arePlain (by decide) rfl (Nat.le_of_ble_eq_true rfl) rfl rfl rfl (c_P_arePlain) ?_
    refine hy_ib_eq (i := 7) (tt := 14) rfl (fun zc1 => ?_) (fun zc1 => ?_)
    · exact absurd q1 (by simpa using zc1)
    · refine hy_iload (i := 8) rfl rfl ?_
      refine hy_const (i := 9) rfl (by decide) ?_
      refine hy_ic_lt (i := 10) (tt := 14) rfl (fun zc2 => ?_) (fun zc2 => ?_)
      · omega
      · refine hy_iload (i := 11) rfl rfl ?_
        refine hy_const (i := 12) rfl (by decide) ?_
        refine hy_ic_le (i := 13) (tt := 16) rfl (fun zc3 => ?_) (fun zc3 => ?_)
        · refine hy_iload (i := 16) rfl rfl ?_
          refine hy_const (i := 17) rfl (by decide) ?_
          refine hy_cS2e (i := 18) rfl (by decide) mj_W_isAmong (by decide) rfl (Nat.le_of_ble_eq_true rfl) (c_W_isAmong) ?_
          refine hy_ib_eq (i := 19) (tt := 24) rfl (fun zc4 => ?_) (fun zc4 => ?_)
          · simp only [decide_eq_false_iff_not] at *; omega
          · refine hy_iload (i := 20) rfl rfl ?_
            refine hy_iload (i := 21) rfl rfl ?_
            refine hy_cS2e (i := 22) rfl (by decide) mj_W_bit (by decide) rfl (Nat.le_of_ble_eq_true rfl) (c_W_bit) ?_
            refine hy_if_ne (i := 23) (tt := 26) rfl (fun zc5 => ?_) (fun zc5 => ?_)
            · refine hy_iload (i := 26) rfl rfl ?_
              refine hy_cS1e (i := 27) rfl (by decide) mj_W_isEmpire (by decide) rfl (Nat.le_of_ble_eq_true rfl) (c_W_isEmpire) ?_
              refine hy_ib_eq (i := 28) (tt := 36) rfl (fun zc6 => ?_) (fun zc6 => ?_)
              · simp only [decide_eq_false_iff_not] at *; omega
              · refine hy_iload (i := 29) rfl rfl ?_
                refine hy_cS1e (i := 30) rfl (by decide) mj_W_isQuarter (by decide) rfl (Nat.le_of_ble_eq_true rfl) (c_W_isQuarter) ?_
                refine hy_ib_eq (i := 31) (tt := 36) rfl (fun zc7 => ?_) (fun zc7 => ?_)
                · simp only [decide_eq_false_iff_not] at *; omega
                · refine hy_iload (i := 32) rfl rfl ?_
                  refine hy_const (i := 33) rfl (by decide) ?_
                  refine hy_cS2e (i := 34) rfl (by decide) mj_W_isAmong (by decide) rfl (Nat.le_of_ble_eq_true rfl) (c_W_isAmong) ?_
                  refine hy_ib_ne (i := 35) (tt := 38) rfl (fun zc8 => ?_) (fun zc8 => ?_)
                  · refine hy_aload (i := 38) rfl rfl ?_
                    refine hy_getr (i := 39) rfl rfl ?_
                    refine hy_iload (i := 40) rfl rfl ?_
                    refine hy_iload (i := 41) rfl rfl ?_
                    refine hy_iload (i := 42) rfl rfl ?_
                    refine hy_iload (i := 43) rfl rfl ?_
                    refine hy_cV4 (i := 44) rfl mj_U_addedBy (by decide) rfl (Nat.le_of_ble_eq_true rfl) rfl rfl rfl (c_U_addedBy hk) (fun r8_ t8_ h8 => ?_)
                    obtain ⟨rfl, hF8⟩ := h8
                    dsimp only [hy_st, List.cons_append, List.nil_append]
                    refine hy_istore (i := 45) rfl ?_
                    refine hy_iload (i := 46) rfl rfl ?_
                    refine hy_cS1e (i := 47) rfl (by decide) mj_U_orders (by decide) rfl (Nat.le_of_ble_eq_true rfl) (c_U_orders_x) ?_
                    refine hy_istore (i := 48) rfl ?_
                    refine hy_iload (i := 49) rfl rfl ?_
                    refine hy_abs (i := 50) rfl (Nat.le_of_ble_eq_true rfl) hb ?_
                    refine hy_iload (i := 51) rfl rfl ?_
                    refine hy_cS2e (i := 52) rfl (by decide) mj_W_commonDivisor (by decide) rfl (Nat.le_of_ble_eq_true rfl) (c_W_commonDivisor_x) ?_
                    refine hy_istore (i := 53) rfl ?_
                    refine hy_iload (i := 54) rfl rfl ?_
                    refine hy_const (i := 55) rfl (by decide) ?_
                    refine hy_ic_ge (i := 56) (tt := 59) rfl (fun zc9 => ?_) (fun zc9 => ?_)
                    · refine hy_iload (i := 59) rfl rfl ?_
                      refine hy_if_ne (i := 60) (tt := 65) rfl (fun zc10 => ?_) (fun zc10 => ?_)
                      · refine hy_iload (i := 65) rfl rfl ?_
                        refine hy_iload (i := 66) rfl rfl ?_
                        refine hy_idivw (i := 67) rfl (by omega) ?_
                        refine hy_ireturn (i := 68) rfl rfl ?_
                        exact ⟨congrArg some (by rw [if_neg (show ¬ pw_g (ad_by t cs c e q) (ad_o (sp_bc cs)) < 1 from fun x => by unfold pw_g at x; omega), if_neg (show ¬ w = 0 by assumption)]; rfl), by assumption⟩
                      · refine hy_iload (i := 61) rfl rfl ?_
                        refine hy_iload (i := 62) rfl rfl ?_
                        refine hy_idivw (i := 63) rfl (by omega) ?_
                        refine hy_goto (i := 64) (tt := 68) rfl ?_
                        refine hy_ireturn (i := 68) rfl rfl ?_
                        exact ⟨congrArg some (by rw [if_neg (show ¬ pw_g (ad_by t cs c e q) (ad_o (sp_bc cs)) < 1 from fun x => by unfold pw_g at x; omega), if_pos (show w = 0 by assumption)]; rfl), by assumption⟩
                    · refine hy_const (i := 57) rfl (by decide) ?_
                      refine hy_ireturn (i := 58) rfl rfl ?_
                      exact ⟨congrArg some (by rw [if_pos (show pw_g (ad_by t cs c e q) (ad_o (sp_bc cs)) < 1 by unfold pw_g; omega)]), by assumption⟩
                  · simp only [decide_eq_false_iff_not] at *; omega
            · exfalso; simp_all [hy_b]
        · omega
  · have ew : wf_pow t cs c e q w = -1000000000 := if_neg hq
    rw [ew]
    refine hy_iload (i := 0) rfl rfl ?_
    refine hy_cS1e (i := 1) rfl (by decide) mj_J_bitCount (by decide) rfl (Nat.le_of_ble_eq_true rfl) (c_J_bitCount) ?_
    refine hy_istore (i := 2) rfl ?_
    refine hy_aload (i := 3) rfl rfl ?_
    refine hy_getr (i := 4) rfl rfl ?_
    refine hy_iload (i := 5) rfl rfl ?_
    refine hy_cV1e (i := 6) rfl mj_P_arePlain (by decide) rfl (Nat.le_of_ble_eq_true rfl) rfl rfl rfl (c_P_arePlain) ?_
    refine hy_ib_eq (i := 7) (tt := 14) rfl (fun zc1 => ?_) (fun zc1 => ?_)
    · refine hy_const (i := 14) rfl (by decide) ?_
      refine hy_ireturn (i := 15) rfl rfl ?_
      exact ⟨rfl, hy_F.rf⟩
    · refine hy_iload (i := 8) rfl rfl ?_
      refine hy_const (i := 9) rfl (by decide) ?_
      refine hy_ic_lt (i := 10) (tt := 14) rfl (fun zc2 => ?_) (fun zc2 => ?_)
      · refine hy_const (i := 14) rfl (by decide) ?_
        refine hy_ireturn (i := 15) rfl rfl ?_
        exact ⟨rfl, hy_F.rf⟩
      · refine hy_iload (i := 11) rfl rfl ?_
        refine hy_const (i := 12) rfl (by decide) ?_
        refine hy_ic_le (i := 13) (tt := 16) rfl (fun zc3 => ?_) (fun zc3 => ?_)
        · refine hy_iload (i := 16) rfl rfl ?_
          refine hy_const (i := 17) rfl (by decide) ?_
          refine hy_cS2e (i := 18) rfl (by decide) mj_W_isAmong (by decide) rfl (Nat.le_of_ble_eq_true rfl) (c_W_isAmong) ?_
          refine hy_ib_eq (i := 19) (tt := 24) rfl (fun zc4 => ?_) (fun zc4 => ?_)
          · refine hy_const (i := 24) rfl (by decide) ?_
            refine hy_ireturn (i := 25) rfl rfl ?_
            exact ⟨rfl, hy_F.rf⟩
          · refine hy_iload (i := 20) rfl rfl ?_
            refine hy_iload (i := 21) rfl rfl ?_
            refine hy_cS2e (i := 22) rfl (by decide) mj_W_bit (by decide) rfl (Nat.le_of_ble_eq_true rfl) (c_W_bit) ?_
            refine hy_if_ne (i := 23) (tt := 26) rfl (fun zc5 => ?_) (fun zc5 => ?_)
            · refine hy_iload (i := 26) rfl rfl ?_
              refine hy_cS1e (i := 27) rfl (by decide) mj_W_isEmpire (by decide) rfl (Nat.le_of_ble_eq_true rfl) (c_W_isEmpire) ?_
              refine hy_ib_eq (i := 28) (tt := 36) rfl (fun zc6 => ?_) (fun zc6 => ?_)
              · refine hy_const (i := 36) rfl (by decide) ?_
                refine hy_ireturn (i := 37) rfl rfl ?_
                exact ⟨rfl, hy_F.rf⟩
              · refine hy_iload (i := 29) rfl rfl ?_
                refine hy_cS1e (i := 30) rfl (by decide) mj_W_isQuarter (by decide) rfl (Nat.le_of_ble_eq_true rfl) (c_W_isQuarter) ?_
                refine hy_ib_eq (i := 31) (tt := 36) rfl (fun zc7 => ?_) (fun zc7 => ?_)
                · refine hy_const (i := 36) rfl (by decide) ?_
                  refine hy_ireturn (i := 37) rfl rfl ?_
                  exact ⟨rfl, hy_F.rf⟩
                · refine hy_iload (i := 32) rfl rfl ?_
                  refine hy_const (i := 33) rfl (by decide) ?_
                  refine hy_cS2e (i := 34) rfl (by decide) mj_W_isAmong (by decide) rfl (Nat.le_of_ble_eq_true rfl) (c_W_isAmong) ?_
                  refine hy_ib_ne (i := 35) (tt := 38) rfl (fun zc8 => ?_) (fun zc8 => ?_)
                  · exfalso; refine hq ⟨⟨by simpa using zc1, by omega, by omega⟩, ⟨by simpa using zc4, ?_⟩, by simpa using zc6, by simpa using zc7, by simpa using zc8⟩; simp_all [hy_b]
                  · refine hy_const (i := 36) rfl (by decide) ?_
                    refine hy_ireturn (i := 37) rfl rfl ?_
                    exact ⟨rfl, hy_F.rf⟩
            · refine hy_const (i := 24) rfl (by decide) ?_
              refine hy_ireturn (i := 25) rfl rfl ?_
              exact ⟨rfl, hy_F.rf⟩
        · refine hy_const (i := 14) rfl (by decide) ?_
          refine hy_ireturn (i := 15) rfl rfl ?_
          exact ⟨rfl, hy_F.rf⟩
end POW
/-! the class's way, exactly -/
abbrev wy_c (t : hy_T) (a b u e q w : Int) : Prop := ((0 ≤ a ∧ a < 64) ∧ (0 ≤ b ∧ b < 64) ∧ sp_told (t 5 2) u = true) ∧ (0 ≤ e ∧ e < 6) ∧ (0 ≤ q ∧ q < 4) ∧ 0 ≤ w ∧ w < 3
def wy_A (S : hy_T) (b w : Int) : Int := if w = 0 then (if S 55 b.toNat / 100 = 0 then S 55 b.toNat % 100 else -2) else if w = 1 then S 55 b.toNat / 100 else S 55 b.toNat % 100
theorem wy_A0 {S : hy_T} {b w : Int} (h : w = 0) (h2 : ¬ S 55 b.toNat / 100 = 0) : wy_A S b w = -2 := by
  unfold wy_A
  rw [if_pos h, if_neg h2]
theorem wy_A1 {S : hy_T} {b w : Int} (h : w = 0) (h2 : S 55 b.toNat / 100 = 0) : wy_A S b w = S 55 b.toNat % 100 := by
  unfold wy_A
  rw [if_pos h, if_pos h2]
theorem wy_A2 {S : hy_T} {b w : Int} (h : w = 1) : wy_A S b w = S 55 b.toNat / 100 := by
  unfold wy_A
  rw [if_neg (by omega), if_pos h]
theorem wy_A3 {S : hy_T} {b w : Int} (h : ¬ w = 0) (h2 : ¬ w = 1) : wy_A S b w = S 55 b.toNat % 100 := by
  unfold wy_A
  rw [if_neg h, if_neg h2]
section WAY
variable {sc : List Int32} {t : hy_T}
theorem c_W_way_x {a b u e q w : Int} (hk : lc_ok t) : hy_Ct sc hm_W_way 5 [.inr (some 2), .inl a, .inl b, .inl u, .inl e, .inl q, .inl w] t (fun r t' => (∃ t2 : hy_T, (wy_c t a b u e q w → ∀ f : Nat, f < 64 → t2 53 f = hy_b (wf_hid t (wf_as t e q) f u)) ∧ r = some (if wy_c t a b u e q w then wy_A (pa_searchN (pa_search0 t2 a) 64) b w else -1)) ∧ hy_F wyX t t') := by
  refine hy_mk_ct ok_W_way ck_W_way (Nat.le_of_ble_eq_true rfl) ?_
  by_cases hq : wy_c t a b u e q w
  · obtain ⟨⟨q1, q2, q3⟩, q4, q5, q6⟩ := id hq
    simp only [if_pos hq]
    have fin : ∀ (t1 : hy_T) (v7 : hy_V), hy_F wyX t t1 → (∀ f : Nat, f < 64 → t1 53 f = hy_b (wf_hid t (wf_as t e q) f u)) → hy_W sc hm_W_way 5 47 [.inr (some 2), .inl a, .inl b, .inl u, .inl e, .inl q, .inl w, v7] [] t1 (fun r t' => (∃ t2 : hy_T, (wy_c t a b u e q w → ∀ f : Nat, f < 64 → t2 53 f = hy_b (wf_hid t (wf_as t e q) f u)) ∧ r = some (wy_A (pa_searchN (pa_search0 t2 a) 64) b w)) ∧ hy_F wyX t t') := by
      intro t1 v7 hF h53
      have hi := pa_searchN_inv (pa_search0_inv t1 a) 64
      have hG := hF.tr' ((pa_search_G t1 a 64).w (fun r j q => by revert q; simp [wyX]; omega))
      refine hy_aload (i := 47) rfl rfl ?_
      refine hy_getr (i := 48) rfl rfl ?_
      refine hy_iload (i := 49) rfl rfl ?_
      refine hy_cV1v (i := 50) rfl mj_A_search (by decide) rfl (Nat.le_of_ble_eq_true rfl) rfl rfl rfl (c_A_search) ?_
      refine hy_aload (i := 51) rfl rfl ?_
      refine hy_getr (i := 52) rfl rfl ?_
      refine hy_iload (i := 53) rfl rfl ?_
      refine hy_cV1e (i := 54) rfl mj_A_watchedTo (by decide) rfl (Nat.le_of_ble_eq_true rfl) rfl rfl rfl (c_A_watchedTo (by assumption)) ?_
      rw [if_pos q2]
      refine hy_istore (i := 55) rfl ?_
      refine hy_iload (i := 56) rfl rfl ?_
      by_cases zq1 : w = 0
      · refine hy_lsw (i := 57) (tt := 58) rfl (by rw [zq1]; rfl) ?_
        refine hy_iload (i := 58) rfl rfl ?_
        refine hy_if_ne (i := 59) (tt := 65) rfl (fun zc2 => ?_) (fun zc2 => ?_)
        · refine hy_const (i := 65) rfl (by decide) ?_
          refine hy_ireturn (i := 66) rfl rfl ?_
          exact ⟨⟨t1, fun _ => h53, congrArg some (wy_A0 zq1 zc2).symm⟩, hG⟩
        · refine hy_aload (i := 60) rfl rfl ?_
          refine hy_getr (i := 61) rfl rfl ?_
          refine hy_iload (i := 62) rfl rfl ?_
          refine hy_cV1e (i := 63) rfl mj_A_stepsTo (by decide) rfl (Nat.le_of_ble_eq_true rfl) rfl rfl rfl (c_A_stepsTo (by assumption)) ?_
          rw [if_pos q2]
          refine hy_goto (i := 64) (tt := 66) rfl ?_
          refine hy_ireturn (i := 66) rfl rfl ?_
          exact ⟨⟨t1, fun _ => h53, congrArg some (wy_A1 zq1 zc2).symm⟩, hG⟩
      · skip
        by_cases zq1 : w = 1
        · refine hy_lsw (i := 57) (tt := 67) rfl (by rw [zq1]; rfl) ?_
          refine hy_iload (i := 67) rfl rfl ?_
          refine hy_ireturn (i := 68) rfl rfl ?_
          exact ⟨⟨t1, fun _ => h53, congrArg some (wy_A2 (by assumption)).symm⟩, hG⟩
        · skip
          refine hy_lsw (i := 57) (tt := 69) rfl (by simp [hx_look]; omega) ?_
          refine hy_aload (i := 69) rfl rfl ?_
          refine hy_getr (i := 70) rfl rfl ?_
          refine hy_iload (i := 71) rfl rfl ?_
          refine hy_cV1e (i := 72) rfl mj_A_stepsTo (by decide) rfl (Nat.le_of_ble_eq_true rfl) rfl rfl rfl (c_A_stepsTo (by assumption)) ?_
          rw [if_pos q2]
          refine hy_ireturn (i := 73) rfl rfl ?_
          exact ⟨⟨t1, fun _ => h53, congrArg some (wy_A3 (by omega) (by omega)).symm⟩, hG⟩
    have loop : ∀ (m : Nat), ∀ (k : Nat) (t1 : hy_T), m + k = 64 → hy_F wyX t t1 → t1 46 = wf_as t e q → (∀ f : Nat, f < k → t1 53 f = hy_b (wf_hid t (wf_as t e q) f u)) → hy_W sc hm_W_way 5 34 [.inr (some 2), .inl a, .inl b, .inl u, .inl e, .inl q, .inl w, .inl (k : Int)] [] t1 (fun r t' => (∃ t2 : hy_T, (wy_c t a b u e q w → ∀ f : Nat, f < 64 → t2 53 f = hy_b (wf_hid t (wf_as t e q) f u)) ∧ r = some (wy_A (pa_searchN (pa_search0 t2 a) 64) b w)) ∧ hy_F wyX t t') := by
      intro m
      induction m with
      | zero =>
        intro k t1 hm hF ha h53
        obtain rfl : k = 64 := by omega
        refine hy_iload (i := 34) rfl rfl ?_
        refine hy_const (i := 35) rfl (by decide) ?_
        refine hy_ic_ge (i := 36) (tt := 47) rfl (fun zc1 => ?_) (fun zc1 => ?_)
        · exact fin _ _ hF h53
        · omega
      | succ m ih =>
        intro k t1 hm hF ha h53
        have eh : wf_hid t1 (t1 46) k u = wf_hid t (wf_as t e q) k u := by
          unfold wf_hid
          rw [ha, show t1 9 = t 9 from funext fun j => hF 9 j rfl]
        refine hy_iload (i := 34) rfl rfl ?_
        refine hy_const (i := 35) rfl (by decide) ?_
        refine hy_ic_ge (i := 36) (tt := 47) rfl (fun zc1 => ?_) (fun zc1 => ?_)
        · omega
        · refine hy_aload (i := 37) rfl rfl ?_
          refine hy_getr (i := 38) rfl rfl ?_
          refine hy_iload (i := 39) rfl rfl ?_
          refine hy_aload (i := 40) rfl rfl ?_
          refine hy_iload (i := 41) rfl rfl ?_
          refine hy_iload (i := 42) rfl rfl ?_
          refine hy_cV2e (i := 43) rfl mj_W_isHidden (by decide) rfl (Nat.le_of_ble_eq_true rfl) rfl rfl rfl (c_W_isHidden) ?_
          refine hy_cV2v (i := 44) rfl mj_A_mark (by decide) rfl (Nat.le_of_ble_eq_true rfl) rfl rfl rfl (c_A_mark (hy_b01 _)) ?_
          rw [if_pos (show 0 ≤ (k : Int) ∧ (k : Int) < 64 by omega), Int.toNat_natCast, eh]
          refine hy_iinc (i := 45) rfl rfl (by omega) ?_
          refine hy_goto (i := 46) (tt := 34) rfl ?_
          refine ih (k + 1) _ (by omega) (hF.up rfl) ?_ (fun f hf => ?_)
          · rw [← ha]; exact funext fun j => hy_up_ne (by decide)
          · by_cases hfk : f = k
            · rw [hfk, show ∀ v, hy_up t1 53 k v 53 k = v from fun v => by simp [hy_up]]
            · rw [show ∀ v, hy_up t1 53 k v 53 f = t1 53 f from fun v => by simp [hy_up, hfk]]; exact h53 f (by omega)
    refine hy_iload (i := 0) rfl rfl ?_
    refine hy_const (i := 1) rfl (by decide) ?_
    refine hy_cS2e (i := 2) rfl (by decide) mj_W_isAmong (by decide) rfl (Nat.le_of_ble_eq_true rfl) (c_W_isAmong) ?_
    refine hy_ib_eq (i := 3) (tt := 13) rfl (fun zc1 => ?_) (fun zc1 => ?_)
    · simp only [decide_eq_false_iff_not] at *; omega
    · refine hy_iload (i := 4) rfl rfl ?_
      refine hy_const (i := 5) rfl (by decide) ?_
      refine hy_cS2e (i := 6) rfl (by decide) mj_W_isAmong (by decide) rfl (Nat.le_of_ble_eq_true rfl) (c_W_isAmong) ?_
      refine hy_ib_eq (i := 7) (tt := 13) rfl (fun zc2 => ?_) (fun zc2 => ?_)
      · simp only [decide_eq_false_iff_not] at *; omega
      · refine hy_aload (i := 8) rfl rfl ?_
        refine hy_getr (i := 9) rfl rfl ?_
        refine hy_iload (i := 10) rfl rfl ?_
        refine hy_cV1e (i := 11) rfl mj_P_isTold (by decide) rfl (Nat.le_of_ble_eq_true rfl) rfl rfl rfl (c_P_isTold) ?_
        refine hy_ib_ne (i := 12) (tt := 15) rfl (fun zc3 => ?_) (fun zc3 => ?_)
        · refine hy_iload (i := 15) rfl rfl ?_
          refine hy_cS1e (i := 16) rfl (by decide) mj_W_isEmpire (by decide) rfl (Nat.le_of_ble_eq_true rfl) (c_W_isEmpire) ?_
          refine hy_ib_eq (i := 17) (tt := 25) rfl (fun zc4 => ?_) (fun zc4 => ?_)
          · simp only [decide_eq_false_iff_not] at *; omega
          · refine hy_iload (i := 18) rfl rfl ?_
            refine hy_cS1e (i := 19) rfl (by decide) mj_W_isQuarter (by decide) rfl (Nat.le_of_ble_eq_true rfl) (c_W_isQuarter) ?_
            refine hy_ib_eq (i := 20) (tt := 25) rfl (fun zc5 => ?_) (fun zc5 => ?_)
            · simp only [decide_eq_false_iff_not] at *; omega
            · refine hy_iload (i := 21) rfl rfl ?_
              refine hy_const (i := 22) rfl (by decide) ?_
              refine hy_cS2e (i := 23) rfl (by decide) mj_W_isAmong (by decide) rfl (Nat.le_of_ble_eq_true rfl) (c_W_isAmong) ?_
              refine hy_ib_ne (i := 24) (tt := 27) rfl (fun zc6 => ?_) (fun zc6 => ?_)
              · refine hy_aload (i := 27) rfl rfl ?_
                refine hy_getr (i := 28) rfl rfl ?_
                refine hy_iload (i := 29) rfl rfl ?_
                refine hy_iload (i := 30) rfl rfl ?_
                refine hy_cV2 (i := 31) rfl mj_E_look (by decide) rfl (Nat.le_of_ble_eq_true rfl) rfl rfl rfl (c_E_look hk) (fun r7_ t7_ h7 => ?_)
                obtain ⟨rfl, hL7, hF7⟩ := h7
                dsimp only [hy_st, List.nil_append]
                have hL : _ = wf_as t e q := hL7
                refine hy_const (i := 32) rfl (by decide) ?_
                refine hy_istore (i := 33) rfl ?_
                exact loop 64 0 _ rfl ((show hy_F lX t _ by assumption).w (fun r j q => by revert q; simp [lX, wyX]; omega)) hL (fun f hf => absurd hf (Nat.not_lt_zero f))
              · simp only [decide_eq_false_iff_not] at *; omega
        · rw [q3] at zc3; cases zc3
  · simp only [if_neg hq]
    refine hy_iload (i := 0) rfl rfl ?_
    refine hy_const (i := 1) rfl (by decide) ?_
    refine hy_cS2e (i := 2) rfl (by decide) mj_W_isAmong (by decide) rfl (Nat.le_of_ble_eq_true rfl) (c_W_isAmong) ?_
    refine hy_ib_eq (i := 3) (tt := 13) rfl (fun zc1 => ?_) (fun zc1 => ?_)
    · refine hy_const (i := 13) rfl (by decide) ?_
      refine hy_ireturn (i := 14) rfl rfl ?_
      exact ⟨⟨t, fun h => absurd h hq, rfl⟩, hy_F.rf⟩
    · refine hy_iload (i := 4) rfl rfl ?_
      refine hy_const (i := 5) rfl (by decide) ?_
      refine hy_cS2e (i := 6) rfl (by decide) mj_W_isAmong (by decide) rfl (Nat.le_of_ble_eq_true rfl) (c_W_isAmong) ?_
      refine hy_ib_eq (i := 7) (tt := 13) rfl (fun zc2 => ?_) (fun zc2 => ?_)
      · refine hy_const (i := 13) rfl (by decide) ?_
        refine hy_ireturn (i := 14) rfl rfl ?_
        exact ⟨⟨t, fun h => absurd h hq, rfl⟩, hy_F.rf⟩
      · refine hy_aload (i := 8) rfl rfl ?_
        refine hy_getr (i := 9) rfl rfl ?_
        refine hy_iload (i := 10) rfl rfl ?_
        refine hy_cV1e (i := 11) rfl mj_P_isTold (by decide) rfl (Nat.le_of_ble_eq_true rfl) rfl rfl rfl (c_P_isTold) ?_
        refine hy_ib_ne (i := 12) (tt := 15) rfl (fun zc3 => ?_) (fun zc3 => ?_)
        · refine hy_iload (i := 15) rfl rfl ?_
          refine hy_cS1e (i := 16) rfl (by decide) mj_W_isEmpire (by decide) rfl (Nat.le_of_ble_eq_true rfl) (c_W_isEmpire) ?_
          refine hy_ib_eq (i := 17) (tt := 25) rfl (fun zc4 => ?_) (fun zc4 => ?_)
          · refine hy_const (i := 25) rfl (by decide) ?_
            refine hy_ireturn (i := 26) rfl rfl ?_
            exact ⟨⟨t, fun h => absurd h hq, rfl⟩, hy_F.rf⟩
          · refine hy_iload (i := 18) rfl rfl ?_
            refine hy_cS1e (i := 19) rfl (by decide) mj_W_isQuarter (by decide) rfl (Nat.le_of_ble_eq_true rfl) (c_W_isQuarter) ?_
            refine hy_ib_eq (i := 20) (tt := 25) rfl (fun zc5 => ?_) (fun zc5 => ?_)
            · refine hy_const (i := 25) rfl (by decide) ?_
              refine hy_ireturn (i := 26) rfl rfl ?_
              exact ⟨⟨t, fun h => absurd h hq, rfl⟩, hy_F.rf⟩
            · refine hy_iload (i := 21) rfl rfl ?_
              refine hy_const (i := 22) rfl (by decide) ?_
              refine hy_cS2e (i := 23) rfl (by decide) mj_W_isAmong (by decide) rfl (Nat.le_of_ble_eq_true rfl) (c_W_isAmong) ?_
              refine hy_ib_ne (i := 24) (tt := 27) rfl (fun zc6 => ?_) (fun zc6 => ?_)
              · exfalso; simp only [decide_eq_true_eq] at *; exact hq ⟨⟨by assumption, by assumption, by assumption⟩, by assumption, by assumption, by assumption⟩
              · refine hy_const (i := 25) rfl (by decide) ?_
                refine hy_ireturn (i := 26) rfl rfl ?_
                exact ⟨⟨t, fun h => absurd h hq, rfl⟩, hy_F.rf⟩
        · refine hy_const (i := 13) rfl (by decide) ?_
          refine hy_ireturn (i := 14) rfl rfl ?_
          exact ⟨⟨t, fun h => absurd h hq, rfl⟩, hy_F.rf⟩
end WAY
/-! spies: both sides say the same -/
def b8 (t : hy_T) : Prop := ∀ j : Nat, j < 260 → -128 ≤ t 65 j ∧ t 65 j ≤ 127
theorem b8_1 {t : hy_T} (h : b8 t) (v k : Int) : b8 (mf_ty1 t v k) := fun j hj => by
  unfold mf_ty1
  rw [hy_up_ne (by decide)]
  simp only [hy_up, true_and]
  split
  · exact hz_i2b_in _
  · exact h j hj
theorem b8_N (v : Int) : ∀ (n : Nat) {t : hy_T}, b8 t → b8 (mf_tyN v n t)
  | 0, _, h => h
  | n + 1, _, h => b8_N v n (b8_1 h v n)
theorem b8_feed {t t1 t2 : hy_T} {a b c d e : Int} (h : b8 t) (F : hy_F taX t t1) (e4 : t2 = if t1 59 9 ≤ 240 then mf_feed t1 a b c d e else t1) : b8 t2 := by
  have h1 : b8 t1 := fun j hj => by
    rw [F 65 j rfl]
    exact h j hj
  rw [e4]
  split
  · exact b8_N e 4 (b8_N d 4 (b8_N c 4 (b8_N b 4 (b8_N a 4 h1))))
  · exact h1
theorem b8_F {XW XM : Nat → Nat → Bool} {t t1 t2 : hy_T} (h : b8 t) (F : hy_F XW t t1) (F2 : hy_F XM t1 t2) (a : ∀ j, XW 65 j = false) (b : ∀ j, XM 65 j = false) : b8 t2 := fun j hj => by
  rw [F2 65 j (b j), F 65 j (a j)]
  exact h j hj
theorem b8_raw : ∀ x : Fin 256, (hz_iand ((x.val : Int) - 128) 255 = 1 ↔ (x.val : Int) - 128 = 1) := by decide +kernel
theorem b8_one {x : Int} (h : -128 ≤ x ∧ x ≤ 127) : hz_iand x 255 = 1 ↔ x = 1 := by
  have := b8_raw ⟨(x + 128).toNat, by omega⟩
  dsimp only at this
  rw [show (((x + 128).toNat : Nat) : Int) - 128 = x by omega] at this
  exact this
theorem dv_4 : ∀ k : Fin 48, hz_div (k.val : Int) 4 = (k.val : Int) / 4 ∧ hz_rem (k.val : Int) 4 = (k.val : Int) % 4 := by decide +kernel
theorem bc_6 : ∀ n : Nat, n < 64 → sp_bc (n : Int) ≤ 6 := by decide +kernel
/-- what is bright is what stops -/
def sy_B (t v u : hy_T) : Prop := ∀ (e q : Int) (c : Nat), 0 ≤ e ∧ e < 6 → 0 ≤ q ∧ q < 4 → c < 12 → sp_told (t 5 2) c = true → hz_b (u 57 (4 * e + q).toNat) c = ms_stop v e c q
theorem sy_bright {X : Nat → Nat → Bool} {t t1 u : hy_T} (h : fr t) (m : mK t) (F : hy_F X t t1) (hX : ∀ r j, 59 ≤ r → X r j = false) (B : ∀ j : Nat, j < 24 → br_P t j (u 57 j)) : sy_B t (hy_up t1 59 9 0) u := fun e q c he hq hc hb => by
  have hw := h.1.2.1.1.2.1
  obtain ⟨f, ef⟩ := B (4 * e + q).toNat (by omega)
  rw [show (((4 * e + q).toNat : Nat) : Int) / 4 = e by omega, show (((4 * e + q).toNat : Nat) : Int) % 4 = q by omega] at ef
  obtain ⟨a1, a2⟩ := al_bits (sp_asN t (sp_seen t e q) f 12) 12 12 (Nat.le_refl _)
  have hwc : hz_b (t 5 2) c = true := by
    unfold sp_told at hb
    rw [Bool.and_eq_true] at hb
    exact hb.2
  rw [ef, (b_sub hw a1).2 c hc, a2 c hc, hwc, decide_eq_true hc, Bool.true_and, Bool.true_and]
  unfold ms_stop
  rw [Int.toNat_natCast, mq_as_F (hy_F.rf.up (X := fun r j => r == 59 && j == 9) (t := t1) (r := 59) (j := 9) (v := 0) rfl) (fun r j k => by revert k; simp [meqX, mlawX]; omega)]
  have ea : sp_asN t (sp_seen t e q) f 12 c = mq_as t1 e q c := by
    unfold mq_as
    rw [(fr_seen h m F hX hq).1]
    exact fe_asN (fr_fe h m F hX) _ f 12 (Nat.le_refl _) c hc
  rw [ea]
  by_cases h12 : mq_as t1 e q c = 12
  · rw [decide_eq_true h12, decide_eq_false (fun x => x h12)]
    rfl
  · rw [decide_eq_false h12, decide_eq_true h12]
    rfl
section SYX
variable {t v u : hy_T}
theorem sy_shown (h4 : ∀ j : Nat, j < 260 → t 4 j = mby v j) (h0 : v 59 0 = t 5 2) : ∀ k : Nat, k ≤ 10 → ms_shownN v k = wf_shN t k
  | 0, _ => rfl
  | k + 1, hk => by
    simp only [ms_shownN, wf_shN]
    rw [sy_shown h4 h0 k (by omega), h0, h4 (3 * k) (by omega), h4 (3 * k + 1) (by omega), h4 (3 * k + 2) (by omega)]
theorem sy_eq {S : Bool} {raw b : Int} (e : b = hz_iand raw 255) (h8 : -128 ≤ raw ∧ raw ≤ 127) (hb : 0 ≤ b ∧ b ≤ 1) : (S == decide (raw = 1)) = decide (hy_b S = b) := by
  have := b8_one h8
  rw [← e] at this
  by_cases h1 : raw = 1
  · rw [decide_eq_true h1, this.mpr h1]
    cases S <;> rfl
  · have : b = 0 := by
      by_cases hb1 : b = 1
      · exact absurd (this.mp hb1) h1
      · omega
    rw [decide_eq_false h1, this]
    cases S <;> rfl
theorem sy_fit (hB : sy_B t v u) (h4 : ∀ j : Nat, j < 260 → t 4 j = mby v j) (u4 : ∀ j : Nat, u 4 j = t 4 j) (h8 : b8 v) {n : Nat} (hn : n ≤ 10) (hs : wf_shN t n = true) {e : Int} (he : 0 ≤ e ∧ e < 6) : ∀ k : Nat, k ≤ n → ms_fitN v e k = wf_fiN u e k
  | 0, _ => rfl
  | k + 1, hk => by
    obtain ⟨s1, s2, s3⟩ := wf_sh_at hs (k := k) (by omega)
    have hc := sp_told_in s1
    have c1 := mby_in v (3 * k + 1)
    have c2 := mby_in v (3 * k + 2)
    have e0 := h4 (3 * k) (by omega)
    have e1 := h4 (3 * k + 1) (by omega)
    have e2 := h4 (3 * k + 2) (by omega)
    simp only [ms_fitN, wf_fiN]
    rw [sy_fit hB h4 u4 h8 hn hs he k (by omega), u4, u4, u4, ← e0, ← e1]
    have b := hB e (t 4 (3 * k + 1)) (t 4 (3 * k)).toNat he (by omega) (by omega) (by rw [show (((t 4 (3 * k)).toNat : Nat) : Int) = t 4 (3 * k) by omega]; exact s1)
    rw [show (((t 4 (3 * k)).toNat : Nat) : Int) = t 4 (3 * k) by omega] at b
    rw [b, sy_eq e2 (h8 (3 * k + 2) (by omega)) (by omega)]
theorem sy_set {n : Nat} (hf : ∀ e : Int, 0 ≤ e ∧ e < 6 → ms_fitN v e n = wf_fiN u e n) : ∀ e : Nat, e ≤ 6 → ms_setN v n e = wf_seN u n e ∧ 0 ≤ ms_setN v n e ∧ ms_setN v n e ≤ 63
  | 0, _ => ⟨rfl, (show (0 : Int) ≤ 0 by decide), (show (0 : Int) ≤ 63 by decide)⟩
  | e + 1, he => by
    obtain ⟨a1, a2⟩ := sy_set hf e (by omega)
    have hv := hv_or' a2 (e := (e : Int)) (by omega)
    simp only [ms_setN, wf_seN]
    rw [hf e (by omega), a1] at *
    split
    · exact ⟨rfl, hv⟩
    · exact ⟨rfl, a2⟩
theorem sy_cnt (hB : sy_B t v u) {c : Nat} (hc : c < 12) (ht : sp_told (t 5 2) c = true) {q : Int} (hq : 0 ≤ q ∧ q < 4) (s : Int) : ∀ e : Nat, e ≤ 6 → ms_cntN v s c q e = wf_cnN u s c q e
  | 0, _ => rfl
  | e + 1, he => by
    simp only [ms_cntN, wf_cnN]
    rw [sy_cnt hB hc ht hq s e (by omega), hB e q c (by omega) hq hc ht]
    congr 1
    cases hz_b s e <;> cases ms_stop v e c q <;> decide
theorem sy_gr (hB : sy_B t v u) {c : Nat} (hc : c < 12) (ht : sp_told (t 5 2) c = true) {q : Int} (hq : 0 ≤ q ∧ q < 4) {s : Int} (hs : 0 ≤ s ∧ s ≤ 63) : ms_great v s c q = wf_gr u s c q ∧ wf_gr u s c q ≤ 6 := by
  have h6 := bc_6 s.toNat (by omega)
  rw [show ((s.toNat : Nat) : Int) = s by omega] at h6
  have hi := wf_cnN_in u s c q 6
  unfold ms_great wf_gr
  rw [sy_cnt hB hc ht hq s 6 (Nat.le_refl _), ← bc_bits' hs]
  constructor
  · split <;> split <;> omega
  · split <;> omega
theorem sy_best (hB : sy_B t v u) (h0 : v 59 0 = t 5 2) (u52 : u 5 2 = t 5 2) {s : Int} (hs : 0 ≤ s ∧ s ≤ 63) : ∀ k : Nat, k ≤ 48 → (ms_bestN v s k = wf_beN u s k ∧ (wf_beN u s k).2 ≤ 6) ∨ ((ms_bestN v s k = (-1, 1000000000) ∧ wf_beN u s k = (0, 7)) ∧ ∀ j : Nat, j < k → sp_told (t 5 2) ((j : Int) / 4) = false)
  | 0, _ => .inr ⟨⟨rfl, rfl⟩, fun j hj => absurd hj (Nat.not_lt_zero j)⟩
  | k + 1, hk => by
    have ih := sy_best hB h0 u52 hs k (by omega)
    simp only [ms_bestN, wf_beN]
    rw [h0, u52]
    by_cases ht : sp_told (t 5 2) ((k : Int) / 4) = true
    · have g := sy_gr hB (c := ((k : Int) / 4).toNat) (by omega) (by rw [show ((((k : Int) / 4).toNat : Nat) : Int) = (k : Int) / 4 by omega]; exact ht) (q := (k : Int) % 4) (by omega) hs
      rw [show ((((k : Int) / 4).toNat : Nat) : Int) = (k : Int) / 4 by omega] at g
      rw [g.1]
      rcases ih with ⟨a1, a2⟩ | ⟨⟨a1, a2⟩, -⟩
      · rw [a1]
        by_cases hl : wf_gr u s ((k : Int) / 4) ((k : Int) % 4) < (wf_beN u s k).2
        · rw [if_pos ⟨ht, hl⟩]
          exact .inl ⟨rfl, g.2⟩
        · rw [if_neg (fun x => hl x.2)]
          exact .inl ⟨rfl, a2⟩
      · rw [a1, a2]
        have hg := g.2
        rw [if_pos ⟨ht, (show wf_gr u s ((k : Int) / 4) ((k : Int) % 4) < 1000000000 by omega)⟩, if_pos ⟨ht, (show wf_gr u s ((k : Int) / 4) ((k : Int) % 4) < 7 by omega)⟩]
        exact .inl ⟨rfl, hg⟩
    · rw [if_neg (fun x => ht x.1), if_neg (fun x => ht x.1)]
      rcases ih with a | ⟨a1, a2⟩
      · exact .inl a
      · refine .inr ⟨a1, fun j hj => ?_⟩
        rcases Nat.lt_succ_iff_lt_or_eq.mp hj with x | x
        · exact a2 j x
        · rw [x]
          simpa using ht
end SYX
theorem fr_spyA {t t1 u : hy_T} {n w : Int} (h : fr t) (m : mK t) (h8 : b8 t) (F : hy_F spX t t1) (Fu : hy_F brX t u) (B : wf_spyok t n w → wf_shN t n.toNat = true → ∀ j : Nat, j < 24 → br_P t j (u 57 j)) : (if ms_spc t1 n w then ms_spy (hy_up t1 59 9 0) n.toNat w else -1) = wf_spyA t u n w := by
  have hX : ∀ r j, 59 ≤ r → spX r j = false := fun r j q => by simp only [spX, t1X, brX, Bool.or_eq_true, Bool.and_eq_true, decide_eq_true_eq, decide_eq_false_iff_not, beq_iff_eq, Bool.or_eq_false_iff, Bool.and_eq_false_iff, beq_eq_false_iff_ne]; omega
  have e9 : t1 59 9 = t 3 1 := (F 59 9 rfl).trans h.1.1.1.symm
  unfold wf_spyA
  by_cases hq : wf_spyok t n w
  · have hq2 : ms_spc t1 n w := ⟨hq.1, ⟨hq.2.1.1, by have := hq.2.1.2; omega⟩, by rw [e9]; exact hq.2.2⟩
    rw [if_pos hq, if_pos hq2]
    have hn := hq.1
    have h0 : (hy_up t1 59 9 0) 59 0 = t 5 2 := (show hy_up t1 59 9 0 59 0 = t1 59 0 from rfl).trans (fr_toldE h F hX)
    have h4 : ∀ j : Nat, j < 260 → t 4 j = mby (hy_up t1 59 9 0) j := fun j hj => by
      show _ = hz_iand (hy_up t1 59 9 0 65 j) 255
      rw [hy_up_ne (by decide), F 65 j (hX 65 j (by decide))]
      exact h.1.1.2 j hj
    have u4 : ∀ j : Nat, u 4 j = t 4 j := fun j => Fu 4 j rfl
    have v8 : b8 (hy_up t1 59 9 0) := fun j hj => by
      rw [hy_up_ne (by decide), F 65 j (hX 65 j (by decide))]
      exact h8 j hj
    unfold ms_spy
    rw [sy_shown h4 h0 n.toNat (by omega)]
    by_cases hs : wf_shN t n.toNat = true
    · rw [if_pos hs, if_pos hs]
      have hB := sy_bright h m F hX (B hq hs)
      obtain ⟨z1, z2⟩ := sy_set (v := hy_up t1 59 9 0) (u := u) (n := n.toNat) (fun e he => sy_fit hB h4 u4 v8 (by omega) hs he n.toNat (Nat.le_refl _)) 6 (Nat.le_refl _)
      rw [← z1]
      generalize ms_setN (hy_up t1 59 9 0) n.toNat 6 = S at z2
      by_cases w0 : w = 0
      · rw [if_pos w0, if_pos w0]
      · rw [if_neg w0, if_neg w0]
        have hbest := sy_best hB h0 (Fu 5 2 rfl) z2 48 (Nat.le_refl _)
        have e : ms_bestN (hy_up t1 59 9 0) S 48 = wf_beN u S 48 := by
          rcases hbest with a | ⟨-, a⟩
          · exact a.1
          · have s1 := (wf_sh_at hs (k := 0) (by omega)).1
            have hc := sp_told_in s1
            have := a (4 * (t 4 (3 * 0)).toNat) (by omega)
            rw [show ((4 * (t 4 (3 * 0)).toNat : Nat) : Int) / 4 = t 4 (3 * 0) by omega, s1] at this
            cases this
        have hbi := wf_beN_in u S 48
        rw [e]
        have hb48 : (wf_beN u S 48).1 < 48 := by
          have : ∀ k : Nat, (wf_beN u S k).1 < k ∨ (wf_beN u S k).1 = 0 := fun k => by
            induction k with
            | zero => exact .inr rfl
            | succ k ih =>
              simp only [wf_beN]
              split
              · dsimp only
                omega
              · omega
          have := this 48
          omega
        have hd := dv_4 ⟨(wf_beN u S 48).1.toNat, by omega⟩
        dsimp only at hd
        rw [show ((((wf_beN u S 48).1.toNat : Nat)) : Int) = (wf_beN u S 48).1 by omega] at hd
        rw [hd.1, hd.2]
    · rw [if_neg hs, if_neg hs]
  · have hq2 : ¬ ms_spc t1 n w := fun g => hq ⟨g.1, ⟨g.2.1.1, by have := g.2.1.2; omega⟩, by have := g.2.2; omega⟩
    rw [if_neg hq, if_neg hq2]
/-- the full relation, and that the model's bytes are such -/
def fr8 (t : hy_T) : Prop := fr t ∧ b8 t
theorem fr8_F (t t1 : hy_T) (h : fr8 t) (hY : ∀ r j, fr_Y r j = true → t1 r j = t r j) : fr8 t1 := ⟨fr_F t t1 h.1 hY, fun j hj => by
  rw [hY 65 j rfl]
  exact h.2 j hj⟩
/-! worth with a set in place of what is had; battles -/
theorem fw_own {t v : hy_T} (h : ∀ f : Nat, f < 64 → t 9 f = v 63 f ∧ t 35 f = v 64 f) (e c : Int) : ∀ n : Nat, n ≤ 64 → sp_fields t e c n = mo_ownN v e c n
  | 0, _ => rfl
  | n + 1, hn => by
    simp only [sp_fields, mo_ownN]
    rw [fw_own h e c n (by omega), (h n (by omega)).1, (h n (by omega)).2]
    by_cases hq : v 63 n = c ∧ v 64 n = e
    · rw [if_pos hq, if_pos ⟨hq.2, hq.1⟩]
    · rw [if_neg hq, if_neg (fun q => hq ⟨q.2, q.1⟩)]
theorem fe_62 {t u v : hy_T} (h : fe t u) (G : ∀ r j, r ≠ 62 → v r j = u r j) : fe t v := by
  have FU : hy_F (fun r _ => r == 62) u v := fun r j q => G r j (by simpa using q)
  have ML : ∀ r j, mlawX r j = true → (fun (r _ : Nat) => r == 62) r j = false := fun r j q => by revert q; simp only [mlawX, Bool.or_eq_true, Bool.and_eq_true, decide_eq_true_eq, decide_eq_false_iff_not, beq_iff_eq, Bool.or_eq_false_iff, Bool.and_eq_false_iff, beq_eq_false_iff_ne]; omega
  obtain ⟨⟨v1, v2⟩, v3, v4⟩ := h
  refine ⟨⟨fun x hx => ?_, ?_⟩, fun V V' k s hV => ?_, fun V V' hV => ?_⟩
  · have em : mf_mixed v x = mf_mixed u x := by
      unfold mf_mixed
      rw [G 59 0 (by decide), G 60 _ (by decide)]
    rw [em, G 60 x (by decide), G 61 x (by decide)]
    exact v1 x hx
  · rw [G 59 2 (by decide)]
    exact v2
  · rw [mb_holds_F FU ML]
    exact v3 V V' k s hV
  · rw [mb_amt_F FU ML]
    exact v4 V V' hV
theorem fw_worthN {t v : hy_T} (L : fe t v) (ho : ∀ f : Nat, f < 64 → t 9 f = v 63 f ∧ t 35 f = v 64 f) {e q : Int} (sup s : Int) (hc : ∀ c : Nat, c < 12 → hz_b s c = true → sp_bc (hz_ior (sp_hav (t 34) c q) (hz_ishl (hy_b (hz_b sup c)) e)) = if mf_mixed v c = true then 0 else mf_bitsN (v 62 (4 * (c : Int) + q).toNat) 12) : ∀ n : Nat, n ≤ 12 → sp_worthN (fun c => sp_price t e q sup c) s n = mw_worthN v e q s n
  | 0, _ => rfl
  | n + 1, hn => by
    simp only [sp_worthN, mw_worthN]
    rw [fw_worthN L ho sup s hc n (by omega)]
    congr 1
    unfold mw_one
    rw [← fw_own ho e n 64 (by omega)]
    rw [hb_mul]
    by_cases hb : hz_b s n = true
    · rw [if_pos hb, if_pos hb]
      have hle := sp_fields_le t e n 64
      unfold sp_price
      by_cases h0 : sp_fields t e n 64 = 0
      · rw [if_neg (by omega), if_pos h0]
      · rw [if_pos (by omega), if_neg h0]
        congr 1
        unfold sp_priceOf
        rw [hc n (by omega) hb]
        refine (L.2.2 _ _ (fun j hj => ?_)).symm
        unfold mq_V
        rw [(L.1.1 n (by omega)).1, L.1.2]
    · rw [if_neg hb, if_neg hb, if_pos rfl]
theorem fw_worth {t u v : hy_T} (h : fv t u) (G : ∀ r j, r ≠ 62 → v r j = u r j) {e q plain sup : Int} (hp : 0 ≤ plain ∧ plain ≤ 4095) (hb : ∀ j : Nat, j < 12 → hz_b plain j = (mf_plain u j && hz_b (v 62 (4 * (j : Int) + q).toNat) e)) (hc : ∀ c : Nat, c < 12 → hz_b (mq_seenN v e q 12) c = true → sp_bc (hz_ior (sp_hav (t 34) c q) (hz_ishl (hy_b (hz_b sup c)) e)) = if mf_mixed u c = true then 0 else mf_bitsN (v 62 (4 * (c : Int) + q).toNat) 12) : sp_worthN (fun c => sp_price t e q sup c) (sp_seenN t e q plain 12) 12 = mw_worth v e q := by
  have L := fe_62 h.1 G
  have pl : ∀ c, mf_plain v c = mf_plain u c := fun c => mf_plain_F (G 59 0 (by decide)) (fun j => G 60 j (by decide)) c
  have mx : ∀ c, mf_mixed v c = mf_mixed u c := fun c => by
    unfold mf_mixed
    rw [G 59 0 (by decide), G 60 _ (by decide)]
  have es := (fe_seen L (e := e) (q := q) hp (fun j hj => by rw [pl]; exact hb j hj)).1
  unfold mw_worth
  rw [es]
  exact fw_worthN L (fun f hf => by rw [G 63 f (by decide), G 64 f (by decide)]; exact h.2.2.2 f hf) sup _ (fun c h1 h2 => by rw [mx]; exact hc c h1 h2) 12 (Nat.le_refl _)
/-! battles -/
theorem one_bits : ∀ c : Fin 12, (0 ≤ hz_ishl 1 (c.val : Int) ∧ hz_ishl 1 (c.val : Int) ≤ 4095) ∧ ∀ j : Fin 12, hz_b (hz_ishl 1 (c.val : Int)) (j.val : Int) = decide (c = j) := by decide +kernel
theorem one_b {c : Nat} (hc : c < 12) : (0 ≤ hz_ishl 1 (c : Int) ∧ hz_ishl 1 (c : Int) ≤ 4095) ∧ ∀ j : Nat, j < 12 → hz_b (hz_ishl 1 (c : Int)) j = decide (c = j) := by
  have := one_bits ⟨c, hc⟩
  refine ⟨this.1, fun j hj => ?_⟩
  have h2 := this.2 ⟨j, hj⟩
  dsimp only at h2
  rw [h2]
  exact decide_eq_decide.mpr ⟨fun e => by have := congrArg Fin.val e; exact this, fun e => by subst e; rfl⟩
theorem and_one {x : Int} (hx : 0 ≤ x ∧ x ≤ 4095) {c : Nat} (hc : c < 12) : hz_iand x (hz_ishl 1 (c : Int)) ≠ 0 ↔ hz_b x c = true := by
  obtain ⟨o1, o2⟩ := one_b hc
  obtain ⟨a1, a2⟩ := b_and hx o1
  constructor
  · intro h
    cases e : hz_b x c with
    | true => rfl
    | false =>
      exfalso
      refine h (bits_ext a1 (by decide) (fun j hj => ?_))
      rw [a2 j hj, o2 j hj, hz_b_0]
      by_cases hcj : c = j
      · subst hcj
        rw [e]
        rfl
      · rw [decide_eq_false hcj, Bool.and_false]
  · intro h e
    have := a2 c hc
    rw [e, hz_b_0, h, o2 c hc, decide_eq_true rfl] at this
    cases this
theorem sw_bits : ∀ x : Fin 64, ∀ a b : Fin 6, hz_b (x.val : Int) (a.val : Int) = false → hz_b (x.val : Int) (b.val : Int) = true → mf_bitsN (hz_iand (hz_ior (x.val : Int) (hz_ishl 1 (a.val : Int))) (hz_ixor (hz_ishl 1 (b.val : Int)) (-1))) 12 = mf_bitsN (x.val : Int) 12 ∧ hz_b (hz_iand (hz_ior (x.val : Int) (hz_ishl 1 (a.val : Int))) (hz_ixor (hz_ishl 1 (b.val : Int)) (-1))) (a.val : Int) = true ∧ hz_b (hz_iand (hz_ior (x.val : Int) (hz_ishl 1 (a.val : Int))) (hz_ixor (hz_ishl 1 (b.val : Int)) (-1))) (b.val : Int) = false := by decide +kernel
theorem sw_b {x a b : Int} (hx : 0 ≤ x ∧ x ≤ 63) (ha : 0 ≤ a ∧ a < 6) (hb : 0 ≤ b ∧ b < 6) (h1 : hz_b x a = false) (h2 : hz_b x b = true) : mf_bitsN (hz_iand (hz_ior x (hz_ishl 1 a)) (hz_ixor (hz_ishl 1 b) (-1))) 12 = mf_bitsN x 12 ∧ hz_b (hz_iand (hz_ior x (hz_ishl 1 a)) (hz_ixor (hz_ishl 1 b) (-1))) a = true ∧ hz_b (hz_iand (hz_ior x (hz_ishl 1 a)) (hz_ixor (hz_ishl 1 b) (-1))) b = false := by
  have := sw_bits ⟨x.toNat, by omega⟩ ⟨a.toNat, by omega⟩ ⟨b.toNat, by omega⟩
  dsimp only at this
  rw [show ((x.toNat : Nat) : Int) = x by omega, show ((a.toNat : Nat) : Int) = a by omega, show ((b.toNat : Nat) : Int) = b by omega] at this
  exact this h1 h2
theorem pl_bits {h : Int} (hh : 0 ≤ h ∧ h ≤ 4095) {c d : Nat} (hc : c < 12) (hd : d < 12) : (0 ≤ hz_iand (hz_ior h (hz_ishl 1 (c : Int))) (hz_ixor (hz_ishl 1 (d : Int)) (-1)) ∧ hz_iand (hz_ior h (hz_ishl 1 (c : Int))) (hz_ixor (hz_ishl 1 (d : Int)) (-1)) ≤ 4095) ∧ ∀ j : Nat, j < 12 → hz_b (hz_iand (hz_ior h (hz_ishl 1 (c : Int))) (hz_ixor (hz_ishl 1 (d : Int)) (-1))) j = ((hz_b h j || decide (c = j)) && !decide (d = j)) := by
  obtain ⟨e1, e2⟩ := bit_may hh hc true
  obtain ⟨o1, o2⟩ := one_b hd
  obtain ⟨a1, a2⟩ := b_sub e1 o1
  refine ⟨a1, fun j hj => ?_⟩
  have := a2 j hj
  rw [e2 j hj, o2 j hj, Bool.and_true] at this
  exact this
/-- the heap of the model with two colours given over -/
theorem mt_62 {u : hy_T} {a b q : Int} (hq : 0 ≤ q ∧ q < 4) {k : Nat} (hk : k < 144) (hne : k / 12 ≠ k % 12) : (∀ r j, r ≠ 62 → mt_set u a b q k r j = u r j) ∧ ∀ j : Nat, mt_set u a b q k 62 j = if j = (4 * ((k / 12 : Nat) : Int) + q).toNat then hz_iand (hz_ior (u 62 j) (hz_ishl 1 a)) (hz_ixor (hz_ishl 1 b) (-1)) else if j = (4 * ((k % 12 : Nat) : Int) + q).toNat then hz_iand (hz_ior (u 62 j) (hz_ishl 1 b)) (hz_ixor (hz_ishl 1 a) (-1)) else u 62 j := by
  have ec : (k : Int) / 12 = ((k / 12 : Nat) : Int) := by omega
  have ed : (k : Int) % 12 = ((k % 12 : Nat) : Int) := by omega
  have c12 : 0 ≤ ((k / 12 : Nat) : Int) ∧ ((k / 12 : Nat) : Int) < 12 := by omega
  have d12 : 0 ≤ ((k % 12 : Nat) : Int) ∧ ((k % 12 : Nat) : Int) < 12 := by omega
  unfold mt_set
  rw [ec, ed]
  refine ⟨fun r j hr => by rw [ch_r _ _ _ _ _ 4 r j hr, ch_r _ _ _ _ _ 4 r j hr, ch_r _ _ _ _ _ 4 r j hr, ch_r _ _ _ _ _ 4 r j hr], fun j => ?_⟩
  rw [ch_v _ d12 4 j, ch_v _ d12 4 j, ch_v _ c12 4 j, ch_v _ c12 4 j, if_pos rfl, if_neg (show ¬ (1 : Int) = 0 by decide), if_pos rfl, if_neg (show ¬ (1 : Int) = 0 by decide)]
  by_cases h1 : j = (4 * ((k / 12 : Nat) : Int) + q).toNat
  · have f1 := (fs_in_q c12 hq j).mpr h1
    have f2 : ¬ fs_in ((k % 12 : Nat) : Int) (hz_ishl 1 q) 4 j := fun x => by
      have := (fs_in_q d12 hq j).mp x
      omega
    rw [if_pos h1, if_neg f2, if_neg f2, if_pos f1, if_pos f1]
  · have f1 : ¬ fs_in ((k / 12 : Nat) : Int) (hz_ishl 1 q) 4 j := fun x => h1 ((fs_in_q c12 hq j).mp x)
    rw [if_neg h1, if_neg f1, if_neg f1]
    by_cases h2 : j = (4 * ((k % 12 : Nat) : Int) + q).toNat
    · have f2 := (fs_in_q d12 hq j).mpr h2
      rw [if_pos h2, if_pos f2, if_pos f2]
    · have f2 : ¬ fs_in ((k % 12 : Nat) : Int) (hz_ishl 1 q) 4 j := fun x => h2 ((fs_in_q d12 hq j).mp x)
      rw [if_neg h2, if_neg f2, if_neg f2]
theorem take_iff {u : hy_T} {a b c q : Int} : mt_take u a b c q = true ↔ mf_plain u c = true ∧ hz_b (u 62 (4 * c + q).toNat) b = true ∧ hz_b (u 62 (4 * c + q).toNat) a = false := by
  unfold mt_take
  generalize mf_plain u c = x
  generalize hz_b (u 62 (4 * c + q).toNat) b = y
  generalize hz_b (u 62 (4 * c + q).toNat) a = z
  cases x <;> cases y <;> cases z <;> simp
section BTX
variable {t u t2 : hy_T} {a b q : Int}
/-- the side of the battle that takes c and gives d -/
theorem bt_side (V : fv t u) (ha : 0 ≤ a ∧ a < 6) (hb : 0 ≤ b ∧ b < 6) (hq : 0 ≤ q ∧ q < 4) {c d : Nat} (hc : c < 12) (hd : d < 12) (hne : c ≠ d) {v : hy_T} (G : ∀ r j, r ≠ 62 → v r j = u r j)
    (tc : mt_take u a b c q = true) (td : mt_take u b a d q = true) (ec : v 62 (4 * (c : Int) + q).toNat = hz_iand (hz_ior (u 62 (4 * (c : Int) + q).toNat) (hz_ishl 1 a)) (hz_ixor (hz_ishl 1 b) (-1))) (ed : v 62 (4 * (d : Int) + q).toNat = hz_iand (hz_ior (u 62 (4 * (d : Int) + q).toNat) (hz_ishl 1 b)) (hz_ixor (hz_ishl 1 a) (-1))) (eo : ∀ j : Nat, j < 12 → j ≠ c → j ≠ d → v 62 (4 * (j : Int) + q).toNat = u 62 (4 * (j : Int) + q).toNat) :
    dl_worth t a q (hz_iand (hz_ior (sp_hadN (t 34) a q 12) (hz_ishl 1 (c : Int))) (hz_ixor (hz_ishl 1 (d : Int)) (-1))) = mw_worth v a q := by
  obtain ⟨h1, h2⟩ := fv_had V hq (e := a)
  obtain ⟨p1, p2⟩ := pl_bits h1 hc hd
  rw [take_iff] at tc td
  have vc := (V.2.2.1 (4 * (c : Int) + q).toNat (by omega)).1
  have vd := (V.2.2.1 (4 * (d : Int) + q).toNat (by omega)).1
  have sc := sw_b vc ha hb tc.2.2 tc.2.1
  have sd := sw_b vd hb ha td.2.2 td.2.1
  unfold dl_worth
  refine fw_worth V G p1 (fun j hj => ?_) (fun x hx _ => ?_)
  · rw [p2 j hj, h2 j hj]
    by_cases hjc : c = j
    · subst hjc
      rw [ec, sc.2.1, tc.1, decide_eq_true rfl, decide_eq_false (fun e => hne e.symm)]
      simp
    · by_cases hjd : d = j
      · subst hjd
        rw [ed, sd.2.2, decide_eq_true rfl]
        simp
      · rw [eo j hj (fun e => hjc e.symm) (fun e => hjd e.symm), decide_eq_false hjc, decide_eq_false hjd]
        simp
  · rw [hz_b_0, show hy_b false = 0 from rfl, fz_shl0, fz_or0 (by have := fv_hav V (c := (x : Int)) (q := q); omega), fv_bc V (c := (x : Int)) (by omega) hq]
    by_cases hjc : x = c
    · rw [hjc, ec, sc.1]
    · by_cases hjd : x = d
      · rw [hjd, ed, sd.1]
      · rw [eo x hx hjc hjd]
theorem bt_take (V : fv t u) (hq : 0 ≤ q ∧ q < 4) {c : Nat} (hc : c < 12) : decide (hz_iand (hz_iand (sp_hadN (t 34) b q 12) (hz_ixor (sp_hadN (t 34) a q 12) (-1))) (hz_ishl 1 (c : Int)) ≠ 0) = mt_take u a b c q := by
  obtain ⟨h1, h2⟩ := fv_had V hq (e := a)
  obtain ⟨g1, g2⟩ := fv_had V hq (e := b)
  obtain ⟨s1, s2⟩ := b_sub g1 h1
  have := and_one s1 hc
  rw [s2 c hc, g2 c hc, h2 c hc] at this
  refine Bool.eq_iff_iff.mpr ?_
  rw [decide_eq_true_eq, take_iff, this]
  generalize mf_plain u c = x
  generalize hz_b (u 62 (4 * (c : Int) + q).toNat) b = y
  generalize hz_b (u 62 (4 * (c : Int) + q).toNat) a = z
  cases x <;> cases y <;> cases z <;> simp
theorem bt_chosen (V : fv t u) (hq : 0 ≤ q ∧ q < 4) (P : ft_P t a b q t2) {k : Nat} (hk : k < 144) : dl_chosen (t2 49 4) (t2 49 5) (k : Int) = mt_can u a b q k := by
  unfold dl_chosen mt_can
  rw [P.1, P.2.1, show (k : Int) / 12 = ((k / 12 : Nat) : Int) by omega, show (k : Int) % 12 = ((k % 12 : Nat) : Int) by omega, ← bt_take (t := t) (a := a) (b := b) V hq (c := k / 12) (by omega), ← bt_take (t := t) (a := b) (b := a) V hq (c := k % 12) (by omega)]
  exact Bool.decide_and _ _
theorem bt_worths (V : fv t u) (ha : 0 ≤ a ∧ a < 6) (hb : 0 ≤ b ∧ b < 6) (hq : 0 ≤ q ∧ q < 4) (P : ft_P t a b q t2) {k : Nat} (hk : k < 144) (hc : mt_can u a b q k = true) : t2 50 k = mw_worth (mt_set u a b q k) a q ∧ t2 51 k = mw_worth (mt_set u a b q k) b q := by
  obtain ⟨w1, w2⟩ := P.2.2 k hk (by rw [bt_chosen V hq P hk]; exact hc)
  rw [w1, w2]
  unfold mt_can at hc
  rw [Bool.and_eq_true, show (k : Int) / 12 = ((k / 12 : Nat) : Int) by omega, show (k : Int) % 12 = ((k % 12 : Nat) : Int) by omega] at hc
  obtain ⟨tc, td⟩ := hc
  have hne : k / 12 ≠ k % 12 := fun e => by
    have x1 := tc
    have x2 := td
    rw [take_iff] at x1 x2
    rw [← e, x1.2.2] at x2
    cases x2.2.1
  obtain ⟨G, e62⟩ := mt_62 (u := u) (a := a) (b := b) hq hk hne
  have i1 : ∀ x y : Nat, (4 * (x : Int) + q).toNat = (4 * (y : Int) + q).toNat ↔ x = y := fun x y => by omega
  have ec : mt_set u a b q k 62 (4 * ((k / 12 : Nat) : Int) + q).toNat = hz_iand (hz_ior (u 62 (4 * ((k / 12 : Nat) : Int) + q).toNat) (hz_ishl 1 a)) (hz_ixor (hz_ishl 1 b) (-1)) := by
    rw [e62, if_pos rfl]
  have ed : mt_set u a b q k 62 (4 * ((k % 12 : Nat) : Int) + q).toNat = hz_iand (hz_ior (u 62 (4 * ((k % 12 : Nat) : Int) + q).toNat) (hz_ishl 1 b)) (hz_ixor (hz_ishl 1 a) (-1)) := by
    rw [e62, if_neg (fun x => hne ((i1 _ _).mp x).symm), if_pos rfl]
  have eo : ∀ j : Nat, j < 12 → j ≠ k / 12 → j ≠ k % 12 → mt_set u a b q k 62 (4 * (j : Int) + q).toNat = u 62 (4 * (j : Int) + q).toNat := fun j _ h1 h2 => by
    rw [e62, if_neg (fun x => h1 ((i1 _ _).mp x)), if_neg (fun x => h2 ((i1 _ _).mp x))]
  unfold dl_plainA dl_plainB
  rw [show (k : Int) / 12 = ((k / 12 : Nat) : Int) by omega, show (k : Int) % 12 = ((k % 12 : Nat) : Int) by omega]
  exact ⟨bt_side V ha hb hq (by omega) (by omega) hne G tc td ec ed eo, bt_side V hb ha hq (by omega) (by omega) (fun e => hne e.symm) G td tc ed ec (fun j hj h1 h2 => eo j hj h2 h1)⟩
theorem rest_iff (C A B : Nat → Int) (k : Nat) : ∀ n : Nat, mt_restN C A B k n = true ↔ ∀ c : Nat, c < n → ¬ (C (12 * c + k % 12) ≠ 0 ∧ A k < A (12 * c + k % 12)) ∧ ¬ (C (k / 12 * 12 + c) ≠ 0 ∧ B k < B (k / 12 * 12 + c))
  | 0 => ⟨fun _ c hc => absurd hc (Nat.not_lt_zero c), fun _ => rfl⟩
  | n + 1 => by
    simp only [mt_restN]
    rw [Bool.and_eq_true, rest_iff C A B k n, all_succ]
    simp only [Bool.and_eq_true, Bool.not_eq_true', Bool.and_eq_false_iff, decide_eq_false_iff_not]
    refine and_congr Iff.rfl (and_congr ?_ ?_)
    · exact ⟨fun x y => x.elim (fun z => z y.1) (fun z => z y.2), fun x => if z : C (12 * n + k % 12) ≠ 0 then .inr (fun w => x ⟨z, w⟩) else .inl z⟩
    · exact ⟨fun x y => x.elim (fun z => z y.1) (fun z => z y.2), fun x => if z : C (k / 12 * 12 + n) ≠ 0 then .inr (fun w => x ⟨z, w⟩) else .inl z⟩
theorem hb_ne (p : Bool) : hy_b p ≠ 0 ↔ p = true := by cases p <;> decide
theorem bt_good (V : fv t u) (ha : 0 ≤ a ∧ a < 6) (hb : 0 ≤ b ∧ b < 6) (hq : 0 ≤ q ∧ q < 4) (P : ft_P t a b q t2) {v : hy_T} (L : mt_laid u a b q 144 v) {k : Nat} (hk : k < 144) : dl_good t2 k = true ↔ v 101 k ≠ 0 ∧ mt_restN (v 101) (v 99) (v 100) k 12 = true := by
  have C : ∀ j : Nat, j < 144 → (v 101 j ≠ 0 ↔ dl_chosen (t2 49 4) (t2 49 5) j = true) := fun j hj => by
    rw [(L j hj).1, hb_ne, bt_chosen V hq P hj]
  have W : ∀ j : Nat, j < 144 → v 101 j ≠ 0 → v 99 j = t2 50 j ∧ v 100 j = t2 51 j := fun j hj h => by
    have h2 : mt_can u a b q j = true := by
      rw [(L j hj).1, hb_ne] at h
      exact h
    obtain ⟨x1, x2⟩ := (L j hj).2 h2
    obtain ⟨y1, y2⟩ := bt_worths V ha hb hq P hj h2
    exact ⟨x1.trans y1.symm, x2.trans y2.symm⟩
  unfold dl_good
  rw [Bool.and_eq_true, Bool.and_eq_true, ← C k hk, rest_iff, and_assoc]
  refine and_congr_right (fun hck => ?_)
  obtain ⟨w1, w2⟩ := W k hk hck
  unfold dl_bestA dl_bestB
  rw [decide_eq_true_eq, decide_eq_true_eq]
  have iA : ∀ c : Nat, 12 * (c : Int) + (k : Int) % 12 = ((12 * c + k % 12 : Nat) : Int) := fun c => by omega
  have iB : ∀ c : Nat, (k : Int) - (k : Int) % 12 + (c : Int) = ((k / 12 * 12 + c : Nat) : Int) := fun c => by omega
  simp only [iA, iB, Int.toNat_natCast]
  constructor
  · intro ⟨h1, h2⟩ c hc
    refine ⟨fun x => h1 c hc ⟨(C _ (by omega)).mp x.1, ?_⟩, fun x => h2 c hc ⟨(C _ (by omega)).mp x.1, ?_⟩⟩
    · rw [← w1, ← (W _ (by omega) x.1).1]
      exact x.2
    · rw [← w2, ← (W _ (by omega) x.1).2]
      exact x.2
  · intro h
    refine ⟨fun c hc x => (h c hc).1 ⟨(C _ (by omega)).mpr x.1, ?_⟩, fun c hc x => (h c hc).2 ⟨(C _ (by omega)).mpr x.1, ?_⟩⟩
    · rw [w1, (W _ (by omega) ((C _ (by omega)).mpr x.1)).1]
      exact x.2
    · rw [w2, (W _ (by omega) ((C _ (by omega)).mpr x.1)).2]
      exact x.2
def dl_i (o : Option Nat) : Int := match o with
  | some k => (k : Int)
  | none => -1
theorem bt_all {C A B : Nat → Int} (H : ∀ k : Nat, k < 144 → (dl_good t2 k = true ↔ C k ≠ 0 ∧ mt_restN C A B k 12 = true)) : ∀ n : Nat, n ≤ 144 → (mt_btN C A B n).1 = dl_twos t2 n ∧ (mt_btN C A B n).2 = dl_i (dl_first t2 n)
  | 0, _ => ⟨rfl, rfl⟩
  | n + 1, hn => by
    obtain ⟨a1, a2⟩ := bt_all H n (by omega)
    simp only [mt_btN, dl_twos, dl_first]
    by_cases hg : dl_good t2 n = true
    · rw [if_pos ((H n (by omega)).mp hg), if_pos hg, a1, a2]
      refine ⟨rfl, ?_⟩
      cases dl_first t2 n with
      | none =>
        show (if dl_i none = -1 then (n : Int) else dl_i none) = dl_i (if dl_good t2 n = true then some n else none)
        rw [if_pos hg]
        rfl
      | some k =>
        show (if (k : Int) = -1 then (n : Int) else (k : Int)) = (k : Int)
        rw [if_neg (by omega)]
    · rw [if_neg (fun x => hg ((H n (by omega)).mpr x)), if_neg hg, a1, a2]
      refine ⟨rfl, ?_⟩
      cases dl_first t2 n with
      | none =>
        show dl_i none = dl_i (if dl_good t2 n = true then some n else none)
        rw [if_neg hg]
      | some k => rfl
end BTX
theorem fr_battle {t t1 t2 t3 : hy_T} {a b q w : Int} (h : fr t) (m : mK t) (F : hy_F fX t t1) (P : ft_c a b q w → ft_P t a b q t2) (L : mt_btc a b q w → mt_laid t1 a b q 144 t3) : (if mt_btc a b q w then mt_btA (mt_btN (t3 101) (t3 99) (t3 100) 144) w else -1) = if ft_c a b q w then ft_A t2 w else -1 := by
  have hX : ∀ r j, 59 ≤ r → fX r j = false := fun r j q => by simp only [fX, Bool.or_eq_true, Bool.and_eq_true, decide_eq_true_eq, decide_eq_false_iff_not, beq_iff_eq, Bool.or_eq_false_iff, Bool.and_eq_false_iff, beq_eq_false_iff_ne]; omega
  have V := fr_fv h m F hX
  by_cases hq : ft_c a b q w
  · have hq2 : mt_btc a b q w := ⟨hq.1.1.1, hq.1.1.2, hq.1.2, hq.2.1, hq.2.2.1, by have := hq.2.2.2; omega⟩
    rw [if_pos hq, if_pos hq2]
    obtain ⟨e1, e2⟩ := bt_all (t2 := t2) (C := t3 101) (A := t3 99) (B := t3 100) (fun k hk => bt_good V hq.1.1.1 hq.1.1.2 hq.2.1 (P hq) (L hq2) hk) 144 (Nat.le_refl _)
    unfold mt_btA ft_A
    rw [e1, e2]
    by_cases h0 : w = 0
    · rw [if_pos h0, if_pos h0]
    · rw [if_neg h0, if_neg h0]
      cases dl_first t2 144 with
      | none =>
        rw [if_pos (show dl_i none = -1 from rfl)]
        by_cases h1 : w = 1
        · rw [if_pos h1]
          rfl
        · rw [if_neg h1]
          rfl
      | some k =>
        rw [if_neg (show ¬ dl_i (some k) = -1 from fun x => by have y : (k : Int) = -1 := x; omega)]
        by_cases h1 : w = 1
        · rw [if_pos h1, if_pos h1]
          show (k : Int) / 12 = ((k / 12 : Nat) : Int)
          omega
        · rw [if_neg h1, if_neg h1]
          show (k : Int) % 12 = ((k % 12 : Nat) : Int)
          omega
  · have hq2 : ¬ mt_btc a b q w := fun g => hq ⟨⟨⟨g.1, g.2.1⟩, g.2.2.1⟩, g.2.2.2.1, g.2.2.2.2.1, by have := g.2.2.2.2.2; omega⟩
    rw [if_neg hq, if_neg hq2]
/-! power: the sets within a set, from the greatest on -/
theorem land_h (x y : Nat) : x &&& y = 2 * (x / 2 &&& y / 2) + (if x % 2 = 1 ∧ y % 2 = 1 then 1 else 0) := by
  have h1 := @Nat.and_div_two x y
  have h2 := @Nat.and_mod_two_eq_one x y
  generalize x / 2 &&& y / 2 = z at h1 ⊢
  generalize x &&& y = v at h1 h2 ⊢
  split
  · next h =>
    have := h2.mpr h
    omega
  · next h =>
    have : v % 2 ≠ 1 := fun q => h (h2.mp q)
    omega
theorem sub_bit {x y : Nat} (h : x &&& y = x) (hx : x % 2 = 1) : y % 2 = 1 := (Nat.and_mod_two_eq_one.mp (by rw [h]; exact hx)).2
theorem sub_half {x y : Nat} (h : x &&& y = x) : x / 2 &&& y / 2 = x / 2 := by rw [← Nat.and_div_two, h]
theorem sub_dn : ∀ (n g h r : Nat), g ≤ n → 0 < g → h < g → h &&& r = h → g &&& r = g → h ≤ (g - 1) &&& r
  | 0, g, h, r, h1, h2, _, _, _ => by omega
  | n + 1, g, h, r, h1, h2, h3, hh, hg => by
    have el := land_h (g - 1) r
    have b1 := fun q => sub_bit hh q
    by_cases b : g % 2 = 1
    · rw [show (g - 1) / 2 = g / 2 by omega, sub_half hg, if_neg (by omega)] at el
      rw [el]
      omega
    · have ih := sub_dn n (g / 2) (h / 2) (r / 2) (by omega) (by omega) (by omega) (sub_half hh) (sub_half hg)
      rw [show (g - 1) / 2 = g / 2 - 1 by omega] at el
      rw [el]
      generalize (g / 2 - 1) &&& (r / 2) = y at ih ⊢
      by_cases c : r % 2 = 1
      · rw [if_pos ⟨by omega, c⟩]
        omega
      · rw [if_neg (fun q => c q.2)]
        have : h % 2 ≠ 1 := fun q => c (b1 q)
        omega
/-- the sets within r, from the greatest on -/
def dnN (r : Nat) : Nat → Nat
  | 0 => r
  | n + 1 => (dnN r n - 1) &&& r
theorem dn_sub (r : Nat) : ∀ n : Nat, dnN r n &&& r = dnN r n
  | 0 => Nat.and_self r
  | n + 1 => by
    simp only [dnN]
    rw [Nat.and_assoc, Nat.and_self]
theorem dn_le (r n : Nat) : dnN r n ≤ r := by
  rw [← dn_sub r n]
  exact Nat.and_le_right
def dn_ok (r : Nat) : Nat → Nat → Bool
  | 0, g => g == 0
  | n + 1, g => (g != 0) && dn_ok r n ((g - 1) &&& r)
theorem dn_ok_s {r : Nat} : ∀ (n k : Nat), dn_ok r n (dnN r k) = true → (∀ i : Nat, i < n → dnN r (k + i) ≠ 0) ∧ dnN r (k + n) = 0
  | 0, k, h => ⟨fun i hi => absurd hi (Nat.not_lt_zero i), by simpa [dn_ok] using h⟩
  | n + 1, k, h => by
    simp only [dn_ok, Bool.and_eq_true, bne_iff_ne] at h
    obtain ⟨a1, a2⟩ := dn_ok_s n (k + 1) h.2
    refine ⟨fun i hi => ?_, by rw [show k + (n + 1) = k + 1 + n by omega]; exact a2⟩
    cases i with
    | zero => exact h.1
    | succ i =>
      rw [show k + (i + 1) = k + 1 + i by omega]
      exact a1 i (by omega)
theorem dn_all : ∀ a : Nat, a < 64 → ∀ b : Nat, b < 64 → (decide (4 < popc 12 (64 * a + b)) || dn_ok (64 * a + b) (2 ^ popc 12 (64 * a + b) - 1) (64 * a + b)) = true := by decide +kernel
theorem dn_end {r : Nat} (hr : r < 4096) (h4 : popc 12 r ≤ 4) : (∀ i : Nat, i < 2 ^ popc 12 r - 1 → dnN r i ≠ 0) ∧ dnN r (2 ^ popc 12 r - 1) = 0 := by
  have h := dn_all (r / 64) (by omega) (r % 64) (by omega)
  rw [show 64 * (r / 64) + r % 64 = r by omega, decide_eq_false (by omega), Bool.false_or] at h
  have := dn_ok_s (2 ^ popc 12 r - 1) 0 h
  simp only [Nat.zero_add] at this
  exact this
theorem popc_sub : ∀ (n x y : Nat), x &&& y = x → popc n x ≤ popc n y
  | 0, _, _, _ => Nat.le_refl _
  | n + 1, x, y, h => by
    simp only [popc]
    have ih := popc_sub n (x / 2) (y / 2) (sub_half h)
    have hb := fun q => sub_bit h q
    omega
/-- what is summed over the sets within r below a bound -/
def msN (f : Nat → Int) (r : Nat) : Nat → Int
  | 0 => 0
  | g + 1 => if g &&& r = g then msN f r g + f g else msN f r g
theorem ms_skip (f : Nat → Int) (r a : Nat) : ∀ m : Nat, a ≤ m → (∀ h : Nat, a ≤ h → h < m → ¬ h &&& r = h) → msN f r m = msN f r a
  | 0, h, _ => by
    obtain rfl : a = 0 := by omega
    rfl
  | m + 1, h, hn => by
    by_cases e : a = m + 1
    · rw [e]
    · simp only [msN]
      rw [if_neg (hn m (by omega) (by omega))]
      exact ms_skip f r a m (by omega) (fun x h1 h2 => hn x h1 (by omega))
def ssN (f : Nat → Int) (r : Nat) : Nat → Int
  | 0 => 0
  | n + 1 => ssN f r n + f (dnN r n)
theorem ms_ss (f : Nat → Int) (r : Nat) : ∀ n : Nat, (∀ i : Nat, i < n → dnN r i ≠ 0) → msN f r (r + 1) = ssN f r n + msN f r (dnN r n + 1)
  | 0, _ => by
    show _ = 0 + msN f r (r + 1)
    omega
  | n + 1, h => by
    have h0 := h n (Nat.lt_succ_self n)
    have s0 := dn_sub r n
    rw [ms_ss f r n (fun i hi => h i (by omega))]
    have e1 : msN f r (dnN r n + 1) = msN f r (dnN r n) + f (dnN r n) := by
      simp only [msN]
      rw [if_pos s0]
    have e2 : msN f r (dnN r n) = msN f r (dnN r (n + 1) + 1) := by
      have hl : dnN r (n + 1) < dnN r n := by
        have : dnN r (n + 1) ≤ dnN r n - 1 := Nat.and_le_left
        omega
      refine ms_skip f r _ _ (by omega) (fun x h1 h2 h3 => ?_)
      have := sub_dn (dnN r n) (dnN r n) x r (Nat.le_refl _) (by omega) h2 h3 s0
      have e : dnN r (n + 1) = (dnN r n - 1) &&& r := rfl
      omega
    rw [e1, e2]
    simp only [ssN]
    omega
theorem ms_all (f : Nat → Int) {r : Nat} (hr : r < 4096) (h4 : popc 12 r ≤ 4) : msN f r 4096 = ssN f r (2 ^ popc 12 r) := by
  obtain ⟨a1, a2⟩ := dn_end hr h4
  have e := ms_ss f r (2 ^ popc 12 r - 1) a1
  have e2 : msN f r 4096 = msN f r (r + 1) := ms_skip f r (r + 1) 4096 (by omega) (fun h h1 h2 h3 => by
    have : h ≤ r := by
      rw [← h3]
      exact Nat.and_le_right
    omega)
  have hp : 0 < 2 ^ popc 12 r := Nat.pow_pos (by decide)
  rw [e2, e, a2]
  have e3 : ssN f r (2 ^ popc 12 r) = ssN f r (2 ^ popc 12 r - 1) + f (dnN r (2 ^ popc 12 r - 1)) := by
    rw [show 2 ^ popc 12 r = 2 ^ popc 12 r - 1 + 1 by omega]
    rfl
  rw [e3, a2]
  have e4 : msN f r (0 + 1) = 0 + f 0 := by
    simp only [msN]
    rw [if_pos (Nat.zero_and r)]
  rw [e4]
  omega
/-! the numbers -/
theorem w32_id {x : Int} (h : -2147483648 ≤ x ∧ x ≤ 2147483647) : w32 x = x := by
  unfold w32
  exact hy_ti (by unfold hy_R; omega)
theorem adw_id {x : Int} (h : -2147483648 ≤ x ∧ x ≤ 2147483647) : ad_w x = x := w32_id h
theorem w32_add (a b : Int) : w32 (w32 a + w32 b) = w32 (a + b) := by
  unfold w32
  rw [Int32.ofInt_add, Int32.ofInt_toInt, Int32.ofInt_toInt, ← Int32.ofInt_add]
theorem o_ord : ∀ n : Fin 6, ad_o (n.val : Int) = mw_ord (n.val : Int) := by decide +kernel
theorem o_ord' {x : Int} (h : 0 ≤ x ∧ x ≤ 5) : ad_o x = mw_ord x := by
  have := o_ord ⟨x.toNat, by omega⟩
  dsimp only at this
  rw [show ((x.toNat : Nat) : Int) = x by omega] at this
  exact this
theorem o_24 : ∀ k : Fin 5, ∀ x : Fin 5, x.val ≤ k.val → 0 ≤ ad_o (x.val : Int) * ad_o ((k.val : Int) - (x.val : Int)) ∧ ad_o (x.val : Int) * ad_o ((k.val : Int) - (x.val : Int)) ≤ 24 := by decide +kernel
theorem o_24' {k x : Int} (hk : k ≤ 4) (hx : 0 ≤ x ∧ x ≤ k) : 0 ≤ ad_o x * ad_o (k - x) ∧ ad_o x * ad_o (k - x) ≤ 24 := by
  have := o_24 ⟨k.toNat, by omega⟩ ⟨x.toNat, by omega⟩ (by dsimp only; omega)
  dsimp only at this
  rw [show ((x.toNat : Nat) : Int) = x by omega, show ((k.toNat : Nat) : Int) = k by omega] at this
  exact this
theorem od_in {o d : Int} (ho : 0 ≤ o ∧ o ≤ 24) (hd : -76800 ≤ d ∧ d ≤ 76800) : -1843200 ≤ o * d ∧ o * d ≤ 1843200 := by
  have h1 := Int.mul_le_mul_of_nonneg_left hd.2 ho.1
  have h2 := Int.mul_le_mul_of_nonneg_left hd.1 ho.1
  constructor <;> omega
theorem gcd_fin : ∀ k : Fin 6, ∀ r : Fin 120, (r.val : Int) < ad_o (k.val : Int) → mg_gcdN 63 (ad_o (k.val : Int)) (r.val : Int) = mg_gcdN (ad_o (k.val : Int)).natAbs (ad_o (k.val : Int)) (r.val : Int) ∧ 1 ≤ mg_gcdN 63 (ad_o (k.val : Int)) (r.val : Int) := by decide +kernel
theorem o_120 : ∀ k : Fin 6, 1 ≤ ad_o (k.val : Int) ∧ ad_o (k.val : Int) ≤ 120 := by decide +kernel
theorem gcd_eq {A k : Int} (hA : 0 ≤ A ∧ A ≤ 2147483647) (hk : 0 ≤ k ∧ k ≤ 5) : mg_gcdN 64 A (ad_o k) = mg_gcdN ((ad_o k).natAbs + 1) A (ad_o k) ∧ 1 ≤ mg_gcdN 64 A (ad_o k) := by
  have h0 := o_120 ⟨k.toNat, by omega⟩
  dsimp only at h0
  rw [show ((k.toNat : Nat) : Int) = k by omega] at h0
  obtain ⟨o1, o2⟩ := h0
  have hrem : hz_rem A (ad_o k) = A.tmod (ad_o k) := hz_rem_t (by unfold hy_R; omega) (by unfold hy_R; omega) (by omega)
  have h1 : 0 ≤ A.tmod (ad_o k) := Int.tmod_nonneg _ hA.1
  have h2 : A.tmod (ad_o k) < ad_o k := Int.tmod_lt_of_pos _ (by omega)
  have h3 := gcd_fin ⟨k.toNat, by omega⟩ ⟨(A.tmod (ad_o k)).toNat, by omega⟩
  dsimp only at h3
  rw [show ((k.toNat : Nat) : Int) = k by omega, show (((A.tmod (ad_o k)).toNat : Nat) : Int) = A.tmod (ad_o k) by omega] at h3
  have h3 := h3 h2
  have e1 : mg_gcdN 64 A (ad_o k) = mg_gcdN 63 (ad_o k) (A.tmod (ad_o k)) := by
    show (if ad_o k = 0 then A else mg_gcdN 63 (ad_o k) (hz_rem A (ad_o k))) = _
    rw [if_neg (by omega), hrem]
  have e2 : mg_gcdN ((ad_o k).natAbs + 1) A (ad_o k) = mg_gcdN (ad_o k).natAbs (ad_o k) (A.tmod (ad_o k)) := by
    show (if ad_o k = 0 then A else mg_gcdN (ad_o k).natAbs (ad_o k) (hz_rem A (ad_o k))) = _
    rw [if_neg (by omega), hrem]
  rw [e1, e2]
  exact ⟨h3.1, h3.2⟩
theorem bits_less (x y c : Int) : ∀ n : Nat, (∀ j : Nat, j < n → hz_b x j = (hz_b y j && !decide (c = j))) → mf_bitsN y n = mf_bitsN x n + (if (0 ≤ c ∧ c < n) ∧ hz_b y c = true then 1 else 0)
  | 0, _ => by
    rw [if_neg (fun q => by have := q.1; omega)]
    rfl
  | n + 1, h => by
    simp only [mf_bitsN]
    rw [bits_less x y c n (fun j hj => h j (by omega)), h n (Nat.lt_succ_self n)]
    by_cases hc : c = (n : Int)
    · subst hc
      rw [if_neg (fun q => by have := q.1; omega), decide_eq_true rfl]
      by_cases hb : hz_b y (n : Int) = true
      · rw [if_pos ⟨by omega, hb⟩, hb]
        rfl
      · rw [if_neg (fun q => hb q.2), show hz_b y (n : Int) = false by simpa using hb]
        rfl
    · rw [decide_eq_false hc]
      have e : hy_b (hz_b y (n : Int) && !false) = hy_b (hz_b y (n : Int)) := by rw [Bool.not_false, Bool.and_true]
      rw [e]
      by_cases hb : (0 ≤ c ∧ c < (n : Int)) ∧ hz_b y c = true
      · rw [if_pos hb, if_pos ⟨by omega, hb.2⟩]
        omega
      · rw [if_neg hb, if_neg (fun q => hb ⟨by omega, q.2⟩)]
        omega
/-! a group in place of what is had -/
theorem seen_bit (u : hy_T) (e q : Int) : ∀ n : Nat, n ≤ 12 → (0 ≤ mq_seenN u e q n ∧ mq_seenN u e q n ≤ 4095) ∧ ∀ j : Nat, j < 12 → hz_b (mq_seenN u e q n) j = (decide (j < n) && mq_isSeen u e j q (mq_seenN u e q j))
  | 0, _ => ⟨by simp [mq_seenN], fun j hj => by
    show hz_b 0 j = _
    rw [hz_b_0, decide_eq_false (by omega), Bool.false_and]⟩
  | n + 1, hn => by
    obtain ⟨a1, a2⟩ := seen_bit u e q n (by omega)
    have em : mq_seenN u e q (n + 1) = hz_ior (mq_seenN u e q n) (hz_ishl (hy_b (mq_isSeen u e n q (mq_seenN u e q n))) n) := by
      simp only [mq_seenN]
      cases hs : mq_isSeen u e n q (mq_seenN u e q n) with
      | true => rw [if_pos rfl]; rfl
      | false => rw [if_neg (by decide), show hy_b false = 0 from rfl, fz_shl0, fz_or0 (by omega)]
    obtain ⟨b1, b2⟩ := bit_may a1 (c := n) (by omega) (mq_isSeen u e n q (mq_seenN u e q n))
    rw [em]
    refine ⟨b1, fun j hj => ?_⟩
    rw [b2 j hj, a2 j hj]
    by_cases h1 : j < n
    · rw [decide_eq_true h1, decide_eq_true (show j < n + 1 by omega), decide_eq_false (show ¬ n = j by omega)]
      simp
    · by_cases h2 : n = j
      · subst h2
        rw [decide_eq_false h1, decide_eq_true (Nat.lt_succ_self n), decide_eq_true rfl]
        simp
      · rw [decide_eq_false h1, decide_eq_false (show ¬ j < n + 1 by omega), decide_eq_false h2]
        simp
theorem ch_bits : ∀ x : Fin 64, ∀ e : Fin 6, hz_b (hz_ior (x.val : Int) (hz_ishl 1 (e.val : Int))) (e.val : Int) = true ∧ hz_b (hz_iand (x.val : Int) (hz_ixor (hz_ishl 1 (e.val : Int)) (-1))) (e.val : Int) = false := by decide +kernel
theorem ch_b {x e : Int} (hx : 0 ≤ x ∧ x ≤ 63) (he : 0 ≤ e ∧ e < 6) : hz_b (hz_ior x (hz_ishl 1 e)) e = true ∧ hz_b (hz_iand x (hz_ixor (hz_ishl 1 e) (-1))) e = false := by
  have := ch_bits ⟨x.toNat, by omega⟩ ⟨e.toNat, by omega⟩
  dsimp only at this
  rw [show ((x.toNat : Nat) : Int) = x by omega, show ((e.toNat : Nat) : Int) = e by omega] at this
  exact this
theorem grp_62 (u : hy_T) (g e : Int) {q : Int} (hq : 0 ≤ q ∧ q < 4) : ∀ n : Nat, n ≤ 12 → (∀ r j, r ≠ 62 → mw_grpN u g e q n r j = u r j) ∧ ∀ x : Nat, x < 12 → mw_grpN u g e q n 62 (4 * (x : Int) + q).toNat = if x < n ∧ mf_plain u x = true then (if hz_b g x = true then hz_ior (u 62 (4 * (x : Int) + q).toNat) (hz_ishl 1 e) else hz_iand (u 62 (4 * (x : Int) + q).toNat) (hz_ixor (hz_ishl 1 e) (-1))) else u 62 (4 * (x : Int) + q).toNat
  | 0, _ => ⟨fun _ _ _ => rfl, fun x hx => by
    rw [if_neg (fun k => absurd k.1 (Nat.not_lt_zero x))]
    rfl⟩
  | n + 1, hn => by
    obtain ⟨a1, a2⟩ := grp_62 u g e hq n (by omega)
    have ep : mf_plain (mw_grpN u g e q n) n = mf_plain u n := mf_plain_F (a1 59 0 (by decide)) (fun j => a1 60 j (by decide)) _
    have c12 : 0 ≤ (n : Int) ∧ (n : Int) < 12 := by omega
    simp only [mw_grpN]
    rw [ep]
    by_cases hp : mf_plain u n = true
    · rw [if_pos hp]
      refine ⟨fun r j hr => by rw [ch_r _ _ _ _ _ 4 r j hr]; exact a1 r j hr, fun x hx => ?_⟩
      rw [ch_v _ c12 4]
      by_cases hxn : x = n
      · subst hxn
        have f1 := (fs_in_q c12 hq (4 * (x : Int) + q).toNat).mpr rfl
        have c1 : x < x + 1 ∧ mf_plain u x = true := ⟨Nat.lt_succ_self x, hp⟩
        have c2 : ¬ (x < x ∧ mf_plain u x = true) := fun k => absurd k.1 (Nat.lt_irrefl x)
        rw [if_pos f1, a2 x hx, if_neg c2, if_pos c1]
        cases hz_b g (x : Int) with
        | true => rw [if_neg (show ¬ hy_b true = 0 by decide), if_pos rfl]
        | false => rw [if_pos (show hy_b false = 0 from rfl), if_neg (by decide)]
      · have f1 : ¬ fs_in (n : Int) (hz_ishl 1 q) 4 (4 * (x : Int) + q).toNat := fun k => by
          have := (fs_in_q c12 hq _).mp k
          omega
        rw [if_neg f1, a2 x hx]
        by_cases hl : x < n ∧ mf_plain u x = true
        · have c1 : x < n + 1 ∧ mf_plain u x = true := ⟨by omega, hl.2⟩
          rw [if_pos hl, if_pos c1]
        · have c1 : ¬ (x < n + 1 ∧ mf_plain u x = true) := fun k => hl ⟨by omega, k.2⟩
          rw [if_neg hl, if_neg c1]
    · rw [if_neg hp]
      refine ⟨a1, fun x hx => ?_⟩
      rw [a2 x hx]
      by_cases hl : x < n ∧ mf_plain u x = true
      · have c1 : x < n + 1 ∧ mf_plain u x = true := ⟨by omega, hl.2⟩
        rw [if_pos hl, if_pos c1]
      · have c1 : ¬ (x < n + 1 ∧ mf_plain u x = true) := fun k => hl ⟨by
          have h1 := k.1
          have h2 : x ≠ n := fun y => hp (by rw [← y]; exact k.2)
          omega, k.2⟩
        rw [if_neg hl, if_neg c1]
theorem pw_grp {t u : hy_T} (V : fv t u) {e q g cs : Int} (he : 0 ≤ e ∧ e < 6) (hq : 0 ≤ q ∧ q < 4) (hg : 0 ≤ g ∧ g ≤ 4095) (hgc : ∀ j : Nat, j < 12 → hz_b g j = true → hz_b cs j = true) (hcp : ∀ j : Nat, j < 12 → hz_b cs j = true → mf_plain u j = true) : sp_worthN (fun x => sp_price t e q cs x) (sp_seenN t e q g 12) 12 = mw_grp u g e q := by
  obtain ⟨G, e62⟩ := grp_62 u g e hq 12 (Nat.le_refl _)
  have vx : ∀ x : Nat, x < 12 → 0 ≤ u 62 (4 * (x : Int) + q).toNat ∧ u 62 (4 * (x : Int) + q).toNat ≤ 63 := fun x hx => (V.2.2.1 _ (by omega)).1
  unfold mw_grp
  have mx : ∀ c, mf_mixed (mw_grpN u g e q 12) c = mf_mixed u c := fun c => by
    unfold mf_mixed
    rw [G 59 0 (by decide), G 60 _ (by decide)]
  refine fw_worth V G hg (fun j hj => ?_) (fun c hc hs => ?_)
  · rw [e62 j hj]
    by_cases hp : mf_plain u j = true
    · rw [if_pos ⟨hj, hp⟩, hp, Bool.true_and]
      cases hb : hz_b g (j : Int) with
      | true => rw [if_pos rfl, (ch_b (vx j hj) he).1]
      | false => rw [if_neg (by decide), (ch_b (vx j hj) he).2]
    · have hb : hz_b g (j : Int) = false := by
        cases hb : hz_b g (j : Int) with
        | true => exact absurd (hcp j hj (hgc j hj hb)) hp
        | false => rfl
      rw [hb, show mf_plain u j = false by simpa using hp, Bool.false_and]
  · have ehav : sp_hav (t 34) c q = u 62 (4 * (c : Int) + q).toNat := by
      unfold sp_hav
      rw [if_pos ⟨by omega, hq⟩]
      exact V.2.1 _ (by omega)
    rw [ehav]
    by_cases hm : mf_mixed u c = true
    · have np := mixed_not_plain hm
      have z := (V.2.2.1 (4 * (c : Int) + q).toNat (by omega)).2
      rw [show (((4 * (c : Int) + q).toNat / 4 : Nat) : Int) = c by omega] at z
      have hb : hz_b cs (c : Int) = false := by
        cases hb : hz_b cs (c : Int) with
        | true => rw [hcp c hc hb] at np; cases np
        | false => rfl
      rw [if_pos hm, z np, hb, show hy_b false = 0 from rfl, fz_shl0, fz_or0 (by decide)]
      decide
    · have sb := (seen_bit (mw_grpN u g e q 12) e q 12 (Nat.le_refl _)).2 c hc
      rw [hs, decide_eq_true hc, Bool.true_and] at sb
      unfold mq_isSeen at sb
      rw [mx, if_neg hm] at sb
      have sb2 := sb.symm
      rw [Bool.and_eq_true] at sb2
      have pl : mf_plain u c = true := by
        have : mf_plain (mw_grpN u g e q 12) c = true := sb2.1
        rw [mf_plain_F (G 59 0 (by decide)) (fun j => G 60 j (by decide))] at this
        exact this
      have eb := e62 c hc
      rw [if_pos ⟨hc, pl⟩] at eb
      rw [eb] at sb2
      by_cases hb : hz_b g (c : Int) = true
      · rw [if_pos hb] at eb
        rw [hgc c hc hb, if_neg hm, eb]
        exact bc_bits' (hv_or' (vx c hc) he)
      · rw [if_neg hb, (ch_b (vx c hc) he).2] at sb2
        cases sb2.2
/-! power on both sides -/
section PWX
variable {t u : hy_T} {cs c e q : Int}
/-- the term of a group -/
def pw_T (t : hy_T) (cs c e q : Int) (g : Nat) : Int := ad_o (sp_bc (g : Int)) * ad_o (sp_bc (ad_rest cs c) - sp_bc (g : Int)) * ad_add t (fun x => sp_price t e q cs x) e c q (g : Int)
theorem add_in (t : hy_T) (cs c e q g : Int) : -76800 ≤ ad_add t (fun x => sp_price t e q cs x) e c q g ∧ ad_add t (fun x => sp_price t e q cs x) e c q g ≤ 76800 := by
  have h1 := sp_worthN_le (f := fun x => sp_price t e q cs x) (fun x _ => sp_price_le t e q cs x) (sp_seenN t e q (hz_ior g (hz_ishl 1 c)) 12) 12 (Nat.le_refl _)
  have h2 := sp_worthN_le (f := fun x => sp_price t e q cs x) (fun x _ => sp_price_le t e q cs x) (sp_seenN t e q g 12) 12 (Nat.le_refl _)
  unfold ad_add
  omega
/-- the set's size and its parts' -/
abbrev pw_S (cs c : Int) (r : Nat) : Prop := (0 ≤ cs ∧ cs ≤ 4095) ∧ (0 ≤ c ∧ c < 12) ∧ (hz_b cs c = true) ∧ (ad_rest cs c = (r : Int)) ∧ (r < 4096) ∧ (sp_bc cs = (popc 12 r : Int) + 1) ∧ (popc 12 r ≤ 4) ∧ (∀ j : Nat, j < 12 → hz_b (r : Int) j = (hz_b cs j && !decide (c = j)))
theorem pw_S.c1 {cs c : Int} {r : Nat} (h : pw_S cs c r) : 0 ≤ cs ∧ cs ≤ 4095 := h.1
theorem pw_S.c2 {cs c : Int} {r : Nat} (h : pw_S cs c r) : 0 ≤ c ∧ c < 12 := h.2.1
theorem pw_S.c3 {cs c : Int} {r : Nat} (h : pw_S cs c r) : hz_b cs c = true := h.2.2.1
theorem pw_S.r1 {cs c : Int} {r : Nat} (h : pw_S cs c r) : ad_rest cs c = (r : Int) := h.2.2.2.1
theorem pw_S.r2 {cs c : Int} {r : Nat} (h : pw_S cs c r) : r < 4096 := h.2.2.2.2.1
theorem pw_S.r3 {cs c : Int} {r : Nat} (h : pw_S cs c r) : sp_bc cs = (popc 12 r : Int) + 1 := h.2.2.2.2.2.1
theorem pw_S.r4 {cs c : Int} {r : Nat} (h : pw_S cs c r) : popc 12 r ≤ 4 := h.2.2.2.2.2.2.1
theorem pw_S.r5 {cs c : Int} {r : Nat} (h : pw_S cs c r) : ∀ j : Nat, j < 12 → hz_b (r : Int) j = (hz_b cs j && !decide (c = j)) := h.2.2.2.2.2.2.2
theorem pw_mk (h1 : 0 ≤ cs ∧ cs ≤ 4095) (h2 : 0 ≤ c ∧ c < 12) (h3 : hz_b cs c = true) (h4 : sp_bc cs ≤ 5) : ∃ r : Nat, pw_S cs c r := by
  obtain ⟨o1, o2⟩ := one_b (c := c.toNat) (by omega)
  rw [show ((c.toNat : Nat) : Int) = c by omega] at o1 o2
  obtain ⟨a1, a2⟩ := b_sub h1 o1
  have e : ad_rest cs c = ((ad_rest cs c).toNat : Int) := by
    unfold ad_rest
    omega
  have hr : (ad_rest cs c).toNat < 4096 := by
    unfold ad_rest
    omega
  have r5 : ∀ j : Nat, j < 12 → hz_b ((ad_rest cs c).toNat : Int) j = (hz_b cs j && !decide (c = j)) := fun j hj => by
    rw [← e]
    unfold ad_rest
    rw [a2 j hj, o2 j hj]
    congr 2
    exact decide_eq_decide.mpr ⟨fun x => by omega, fun x => by omega⟩
  have hb := bits_less ((ad_rest cs c).toNat : Int) cs c 12 r5
  rw [if_pos ⟨h2, h3⟩] at hb
  have b1 := bc12 (n := cs.toNat) (by omega)
  rw [show ((cs.toNat : Nat) : Int) = cs by omega] at b1
  have b2 := bc12 hr
  have b3 := sp_bc_pop _ hr
  exact ⟨(ad_rest cs c).toNat, ⟨h1, h2, h3, e, hr, by omega, by omega, r5⟩⟩
theorem pw_T_in {r : Nat} (S : pw_S cs c r) {g : Nat} (hg : g &&& r = g) : (0 ≤ ad_o (sp_bc (g : Int)) * ad_o (sp_bc (ad_rest cs c) - sp_bc (g : Int)) ∧ ad_o (sp_bc (g : Int)) * ad_o (sp_bc (ad_rest cs c) - sp_bc (g : Int)) ≤ 24) ∧ -1843200 ≤ pw_T t cs c e q g ∧ pw_T t cs c e q g ≤ 1843200 := by
  have hr2 := S.r2
  have hr4 := S.r4
  have hl : g ≤ r := by
    rw [← hg]
    exact Nat.and_le_right
  have p1 := popc_sub 12 g r hg
  have e1 := sp_bc_pop g (by omega)
  have e2 := sp_bc_pop r hr2
  have o := o_24' (k := sp_bc (ad_rest cs c)) (x := sp_bc (g : Int)) (by rw [S.r1]; omega) (by rw [S.r1]; omega)
  exact ⟨o, od_in o (add_in t cs c e q g)⟩
theorem pw_step {r : Nat} (S : pw_S cs c r) : ∀ n : Nat, n < 2 ^ popc 12 r → (∀ i : Nat, i < n → dnN r i ≠ 0) → (ad_sumN t (fun x => sp_price t e q cs x) e c q (ad_rest cs c) n).1 = ((dnN r n : Nat) : Int) ∧ (ad_sumN t (fun x => sp_price t e q cs x) e c q (ad_rest cs c) n).2 = ssN (pw_T t cs c e q) r n ∧ -1843200 * (n : Int) ≤ ssN (pw_T t cs c e q) r n ∧ ssN (pw_T t cs c e q) r n ≤ 1843200 * (n : Int)
  | 0, _, _ => ⟨S.r1, rfl, (show (-1843200 : Int) * ((0 : Nat) : Int) ≤ 0 by decide), (show (0 : Int) ≤ 1843200 * ((0 : Nat) : Int) by decide)⟩
  | n + 1, hn, h0 => by
    have hp : 2 ^ popc 12 r ≤ 2 ^ 4 := Nat.pow_le_pow_right (by decide) S.r4
    have hr2 := S.r2
    obtain ⟨a1, a2, a3, a4⟩ := pw_step S n (by omega) (fun i hi => h0 i (by omega))
    have hne := h0 n (Nat.lt_succ_self n)
    have hle := dn_le r n
    obtain ⟨o, T⟩ := pw_T_in (t := t) (e := e) (q := q) S (dn_sub r n)
    have d := add_in t cs c e q ((dnN r n : Nat) : Int)
    simp only [ad_sumN, ssN]
    rw [a1, a2]
    refine ⟨?_, ?_, by omega, by omega⟩
    · rw [adw_id (by omega), S.r1, hz_iand_n (by omega) (by omega), Int.toNat_natCast, show (((dnN r n : Nat) : Int) - 1).toNat = dnN r n - 1 by omega]
      rfl
    · rw [adw_id (x := ad_o (sp_bc ((dnN r n : Nat) : Int)) * ad_o (sp_bc (ad_rest cs c) - sp_bc ((dnN r n : Nat) : Int))) (by omega)]
      have ex : ad_w (ad_o (sp_bc ((dnN r n : Nat) : Int)) * ad_o (sp_bc (ad_rest cs c) - sp_bc ((dnN r n : Nat) : Int)) * ad_add t (fun x => sp_price t e q cs x) e c q ((dnN r n : Nat) : Int)) = pw_T t cs c e q (dnN r n) := adw_id (by
        have T2 := T
        unfold pw_T at T2
        omega)
      rw [ex]
      exact adw_id (by omega)
theorem pw_by {r : Nat} (S : pw_S cs c r) : ad_by t cs c e q = ssN (pw_T t cs c e q) r (2 ^ popc 12 r) ∧ -29491200 ≤ ad_by t cs c e q ∧ ad_by t cs c e q ≤ 29491200 := by
  have hp : 2 ^ popc 12 r ≤ 2 ^ 4 := Nat.pow_le_pow_right (by decide) S.r4
  have hp0 : 0 < 2 ^ popc 12 r := Nat.pow_pos (by decide)
  have hr2 := S.r2
  obtain ⟨d1, d2⟩ := dn_end S.r2 S.r4
  obtain ⟨a1, a2, a3, a4⟩ := pw_step (t := t) (e := e) (q := q) S (2 ^ popc 12 r - 1) (by omega) d1
  obtain ⟨o, T⟩ := pw_T_in (t := t) (e := e) (q := q) S (dn_sub r (2 ^ popc 12 r - 1))
  have d := add_in t cs c e q ((dnN r (2 ^ popc 12 r - 1) : Nat) : Int)
  have eN : (hz_ishl 1 (sp_bc (ad_rest cs c))).toNat = 2 ^ popc 12 r - 1 + 1 := by
    rw [S.r1, sp_bc_pop r S.r2, (hz_one (k := (popc 12 r : Int)) (by have := S.r4; omega)).1, Int.toNat_natCast, Int.toNat_natCast]
    omega
  have es : ssN (pw_T t cs c e q) r (2 ^ popc 12 r) = ssN (pw_T t cs c e q) r (2 ^ popc 12 r - 1) + pw_T t cs c e q (dnN r (2 ^ popc 12 r - 1)) := by
    have : 2 ^ popc 12 r = 2 ^ popc 12 r - 1 + 1 := by omega
    rw [this]
    rfl
  have key : ad_by t cs c e q = ssN (pw_T t cs c e q) r (2 ^ popc 12 r - 1) + pw_T t cs c e q (dnN r (2 ^ popc 12 r - 1)) := by
    unfold ad_by
    rw [eN]
    simp only [ad_sumN]
    rw [a1, a2, adw_id (x := ad_o (sp_bc ((dnN r (2 ^ popc 12 r - 1) : Nat) : Int)) * ad_o (sp_bc (ad_rest cs c) - sp_bc ((dnN r (2 ^ popc 12 r - 1) : Nat) : Int))) (by omega)]
    have ex : ad_w (ad_o (sp_bc ((dnN r (2 ^ popc 12 r - 1) : Nat) : Int)) * ad_o (sp_bc (ad_rest cs c) - sp_bc ((dnN r (2 ^ popc 12 r - 1) : Nat) : Int)) * ad_add t (fun x => sp_price t e q cs x) e c q ((dnN r (2 ^ popc 12 r - 1) : Nat) : Int)) = pw_T t cs c e q (dnN r (2 ^ popc 12 r - 1)) := adw_id (by
      have T2 := T
      unfold pw_T at T2
      omega)
    rw [ex]
    exact adw_id (by omega)
  rw [es]
  exact ⟨key, by omega, by omega⟩
theorem pw_model (V : fv t u) (he : 0 ≤ e ∧ e < 6) (hq : 0 ≤ q ∧ q < 4) {r : Nat} (S : pw_S cs c r) (hcp : ∀ j : Nat, j < 12 → hz_b cs j = true → mf_plain u j = true) : ∀ n : Nat, n ≤ 4096 → mw_powN u cs c e q n = w32 (msN (pw_T t cs c e q) r n)
  | 0, _ => rfl
  | g + 1, hn => by
    have ih := pw_model V he hq S hcp g (by omega)
    have hr2 := S.r2
    have rb : 0 ≤ (r : Int) ∧ (r : Int) ≤ 4095 := by omega
    have gb : 0 ≤ (g : Int) ∧ (g : Int) ≤ 4095 := by omega
    have hc2 := S.c2
    have iff1 : (hz_iand (g : Int) (hz_ixor cs (-1)) = 0 ∧ hz_b (g : Int) c = false) ↔ g &&& r = g := by
      rw [sub0 gb S.c1]
      have e1 : hz_iand (g : Int) (r : Int) = ((g &&& r : Nat) : Int) := by
        rw [hz_iand_n (by omega) (by omega), Int.toNat_natCast, Int.toNat_natCast]
      obtain ⟨b1, b2⟩ := b_and gb rb
      constructor
      · intro ⟨h1, h2⟩
        have : hz_iand (g : Int) (r : Int) = (g : Int) := bits_ext b1 gb (fun j hj => by
          rw [b2 j hj, S.r5 j hj]
          cases hb : hz_b (g : Int) j with
          | false => rfl
          | true =>
            rw [h1 j hj hb, decide_eq_false (fun x => by
              rw [x] at h2
              rw [h2] at hb
              cases hb)]
            rfl)
        rw [e1] at this
        omega
      · intro h
        have h2 : hz_iand (g : Int) (r : Int) = (g : Int) := by rw [e1, h]
        have h3 : ∀ j : Nat, j < 12 → hz_b (g : Int) j = true → (hz_b cs j && !decide (c = j)) = true := fun j hj hb => by
          have := b2 j hj
          rw [h2, hb, S.r5 j hj, Bool.true_and] at this
          exact this.symm
        refine ⟨fun j hj hb => (Bool.and_eq_true _ _ ▸ h3 j hj hb).1, ?_⟩
        cases hb : hz_b (g : Int) c with
        | false => rfl
        | true =>
          have := h3 c.toNat (by omega) (by rw [show ((c.toNat : Nat) : Int) = c by omega]; exact hb)
          rw [decide_eq_true (show c = ((c.toNat : Nat) : Int) by omega), Bool.not_true, Bool.and_false] at this
          cases this
    simp only [mw_powN, msN]
    by_cases hs : g &&& r = g
    · rw [if_pos (iff1.mpr hs), if_pos hs, ih]
      obtain ⟨hi1, hi2⟩ := iff1.mpr hs
      have hsub := (sub0 gb S.c1).mp hi1
      obtain ⟨o, T⟩ := pw_T_in (t := t) (e := e) (q := q) S hs
      have d := add_in t cs c e q (g : Int)
      have p1 := popc_sub 12 g r hs
      have e1 := sp_bc_pop g (by omega)
      have e2 := sp_bc_pop r hr2
      have r3 := S.r3
      have r4 := S.r4
      have b1 := bc12 (n := g) (by omega)
      have b2 := bc12 (n := cs.toNat) (by have := S.c1; omega)
      rw [show ((cs.toNat : Nat) : Int) = cs by have := S.c1; omega] at b2
      have g1 := pw_grp V he hq gb hsub hcp
      obtain ⟨m1, m2⟩ := bit_may gb (c := c.toNat) (by omega) true
      rw [show ((c.toNat : Nat) : Int) = c by omega] at m1 m2
      have g2 := pw_grp V (g := hz_ior (g : Int) (hz_ishl 1 c)) (cs := cs) he hq m1 (fun j hj hb => by
        have := m2 j hj
        rw [show hz_ishl (hy_b true) c = hz_ishl 1 c from rfl, hb] at this
        rw [Bool.and_true] at this
        have h9 := this.symm
        rw [Bool.or_eq_true, decide_eq_true_eq] at h9
        rcases h9 with h9 | h9
        · exact hsub j hj h9
        · have : (j : Int) = c := by omega
          rw [this]
          exact S.c3) hcp
      have ea : ad_add t (fun x => sp_price t e q cs x) e c q (g : Int) = mw_grp u (hz_ior (g : Int) (hz_ishl 1 c)) e q - mw_grp u (g : Int) e q := by
        unfold ad_add
        rw [g1, g2]
      have eo : mw_ord (mf_bitsN (g : Int) 12) * mw_ord (mf_bitsN cs 12 - 1 - mf_bitsN (g : Int) 12) = ad_o (sp_bc (g : Int)) * ad_o (sp_bc (ad_rest cs c) - sp_bc (g : Int)) := by
        rw [← b1, ← b2, ← o_ord' (x := sp_bc (g : Int)) (by omega), ← o_ord' (x := sp_bc cs - 1 - sp_bc (g : Int)) (by omega), S.r1, show sp_bc cs - 1 = sp_bc (r : Int) by omega]
      rw [← ea, eo, w32_id (x := ad_o (sp_bc (g : Int)) * ad_o (sp_bc (ad_rest cs c) - sp_bc (g : Int))) (by omega), w32_id (x := ad_add t (fun x => sp_price t e q cs x) e c q (g : Int)) (by omega)]
      exact w32_add _ _
    · rw [if_neg (fun x => hs (iff1.mp x)), if_neg hs, ih]
end PWX
theorem plainB_iff (u : hy_T) (cs : Int) : ∀ n : Nat, mw_plainB u cs n = true ↔ ∀ k : Nat, k < n → hz_b cs k = true → mf_plain u k = true
  | 0 => ⟨fun _ k hk => absurd hk (Nat.not_lt_zero k), fun _ => rfl⟩
  | n + 1 => by
    simp only [mw_plainB]
    rw [Bool.and_eq_true, plainB_iff u cs n, all_succ]
    refine and_congr Iff.rfl ?_
    cases hz_b cs n <;> cases mf_plain u n <;> simp
/-- the plain colours as a set -/
theorem pl_set {t t1 : hy_T} (h : fr t) (P : ∀ c, wf_plain t c = mf_plain t1 c) {cs : Int} (hR : hy_R cs) : hz_iand cs (hz_ixor (hz_iand (t 5 2) (hz_ixor (t 5 3) (-1))) (-1)) = 0 ↔ (0 ≤ cs ∧ cs ≤ 4095) ∧ ∀ j : Nat, j < 12 → hz_b cs j = true → mf_plain t1 j = true := by
  have w1 := h.1.2.1.1.2.1
  have w2 := h.1.2.1.1.2.2
  obtain ⟨a1, a2⟩ := b_sub w1 w2
  have eb : ∀ j : Nat, j < 12 → hz_b (hz_iand (t 5 2) (hz_ixor (t 5 3) (-1))) j = mf_plain t1 j := fun j hj => by
    rw [a2 j hj, ← P j]
    unfold wf_plain sp_told
    rw [decide_eq_true (show 0 ≤ (j : Int) ∧ (j : Int) < 12 by omega), Bool.true_and, Bool.true_and]
  constructor
  · intro h0
    have hin := sub_in hR a1 h0
    exact ⟨hin, fun j hj hb => by rw [← eb j hj]; exact (sub0 hin a1).mp h0 j hj hb⟩
  · intro ⟨hin, h1⟩
    exact (sub0 hin a1).mpr (fun j hj hb => by rw [eb j hj]; exact h1 j hj hb)
theorem pw_S_of {t t1 : hy_T} (h : fr t) (P : ∀ c, wf_plain t c = mf_plain t1 c) {cs c e q w : Int} (hR : hy_R cs) (hq : pw_c t cs c e q w) : (∃ r : Nat, pw_S cs c r) ∧ ∀ j : Nat, j < 12 → hz_b cs j = true → mf_plain t1 j = true := by
  obtain ⟨⟨q1, q2, q3⟩, ⟨q4, q5⟩, -⟩ := hq
  obtain ⟨c1, c2⟩ := (pl_set h P hR).mp q1
  exact ⟨pw_mk c1 q4 q5 q3, c2⟩
theorem pw_bound {t : hy_T} (h : fr t) {cs c e q w : Int} (hR : hy_R cs) (hq : pw_c t cs c e q w) : -2147483648 < ad_by t cs c e q := by
  obtain ⟨⟨r, S⟩, -⟩ := pw_S_of h (t1 := t) (fun c => p3_plain h.1.2.1 c) hR hq
  have := (pw_by (t := t) (e := e) (q := q) S).2
  omega
theorem fr_power {t t1 : hy_T} {cs c e q w : Int} (hR : hy_R cs) (h : fr t) (m : mK t) (F : hy_F pX t t1) : (if mw_pwc t1 cs c e q w then mw_pow t1 cs c e q w else -1000000000) = wf_pow t cs c e q w := by
  have hX : ∀ r j, 59 ≤ r → pX r j = false := fun r j q => by simp only [pX, Bool.or_eq_true, Bool.and_eq_true, decide_eq_true_eq, decide_eq_false_iff_not, beq_iff_eq, Bool.or_eq_false_iff, Bool.and_eq_false_iff, beq_eq_false_iff_ne]; omega
  have V := fr_fv h m F hX
  have P : ∀ c, wf_plain t c = mf_plain t1 c := fun c => fr_plain h.1.2.1 (F 59 0 rfl) (fun j => F 60 j rfl) c
  unfold wf_pow
  by_cases hq : pw_c t cs c e q w
  · obtain ⟨⟨q1, q2, q3⟩, ⟨q4, q5⟩, q6, q7, q8⟩ := id hq
    obtain ⟨⟨r, S⟩, hcp⟩ := pw_S_of h P hR hq
    have c1 := S.c1
    have b2 := bc12 (n := cs.toNat) (by omega)
    rw [show ((cs.toNat : Nat) : Int) = cs by omega] at b2
    have hcs : cs ≠ 0 := fun x => by
      rw [x, hz_b_0] at q5
      cases q5
    have hq2 : mw_pwc t1 cs c e q w := ⟨⟨by omega, by omega⟩, ⟨by omega, q5⟩, q6, q7, by omega, (plainB_iff t1 cs 12).mpr hcp⟩
    rw [if_pos hq, if_pos hq2]
    obtain ⟨y1, y2⟩ := pw_by (t := t) (e := e) (q := q) S
    have ep : mw_powN t1 cs c e q 4096 = ad_by t cs c e q := by
      rw [pw_model V q6 q7 S hcp 4096 (Nat.le_refl _), ms_all _ S.r2 S.r4, ← y1]
      exact w32_id (by omega)
    have eO : mw_ord (mf_bitsN cs 12) = ad_o (sp_bc cs) := by rw [← b2, o_ord' (by omega)]
    have eA : (if ad_by t cs c e q < 0 then w32 (-(ad_by t cs c e q)) else ad_by t cs c e q) = if 0 ≤ ad_by t cs c e q then ad_by t cs c e q else -(ad_by t cs c e q) := by
      by_cases hn : ad_by t cs c e q < 0
      · rw [if_pos hn, if_neg (by omega)]
        exact w32_id (by omega)
      · rw [if_neg hn, if_pos (by omega)]
    have G := gcd_eq (A := if 0 ≤ ad_by t cs c e q then ad_by t cs c e q else -(ad_by t cs c e q)) (k := sp_bc cs) (by split <;> omega) (by omega)
    unfold mw_pow mg_gcd
    rw [ep, eO, eA, ← G.1]
    unfold pw_g
    rw [if_neg (show ¬ mg_gcdN 64 (if 0 ≤ ad_by t cs c e q then ad_by t cs c e q else -(ad_by t cs c e q)) (ad_o (sp_bc cs)) < 1 by have := G.2; omega)]
  · rw [if_neg hq]
    refine if_neg (fun g => hq ?_)
    obtain ⟨⟨g1, g2⟩, ⟨g3, g4⟩, g5, g6, g7, g8⟩ := g
    have b2 := bc12 (n := cs.toNat) (by omega)
    rw [show ((cs.toNat : Nat) : Int) = cs by omega] at b2
    refine ⟨⟨(pl_set h P hR).mpr ⟨by omega, (plainB_iff t1 cs 12).mp g8⟩, ?_, by omega⟩, ⟨by omega, g4⟩, g5, g6, by omega⟩
    have hb := bits_less 0 cs c 12
    by_cases h0 : sp_bc cs < 1
    · exfalso
      have h00 := mf_bitsN_in cs 12
      have z : ∀ n : Nat, n ≤ 12 → mf_bitsN cs n ≤ mf_bitsN cs 12 := fun n hn => by
        have : ∀ m : Nat, mf_bitsN cs n ≤ mf_bitsN cs (n + m) := fun m => by
          induction m with
          | zero => exact Int.le_refl _
          | succ m ih =>
            have := hy_b_in (hz_b cs ((n + m : Nat) : Int))
            show _ ≤ mf_bitsN cs (n + m) + hy_b (hz_b cs ((n + m : Nat) : Int))
            omega
        have := this (12 - n)
        rw [show n + (12 - n) = 12 by omega] at this
        exact this
      have z2 := z (c.toNat + 1) (by omega)
      have z3 : mf_bitsN cs (c.toNat + 1) = mf_bitsN cs c.toNat + hy_b (hz_b cs ((c.toNat : Nat) : Int)) := rfl
      rw [show ((c.toNat : Nat) : Int) = c by omega, g4, show hy_b true = 1 from rfl] at z3
      have z4 := mf_bitsN_in cs c.toNat
      omega
    · omega
/-! ways -/
def wt_1 (U : Nat → Bool) (f : Nat) : Int := if U f = true then 0 else 100
/-- a way from a with a cost -/
def wk (U : Nat → Bool) (h : Int) (a f : Nat) (c : Int) : Prop := ∀ P : Nat → Int → Prop, P a 0 → (∀ (f : Nat) (c : Int) (w : Nat), P f c → f < 64 → w < 4 → pa_beside (f : Int) (w : Int) ≠ -1 → (h = 0 ∨ U (pa_beside (f : Int) (w : Int)).toNat = true) → P (pa_beside (f : Int) (w : Int)).toNat (c + 1 + wt_1 U (pa_beside (f : Int) (w : Int)).toNat)) → P f c
theorem wk.z {U : Nat → Bool} {h : Int} {a : Nat} : wk U h a a 0 := fun _ z _ => z
theorem wk.s {U : Nat → Bool} {h : Int} {a f : Nat} {c : Int} (w : Nat) (k : wk U h a f c) (hf : f < 64) (hw : w < 4) (hb : pa_beside (f : Int) (w : Int) ≠ -1) (hu : h = 0 ∨ U (pa_beside (f : Int) (w : Int)).toNat = true) : wk U h a (pa_beside (f : Int) (w : Int)).toNat (c + 1 + wt_1 U (pa_beside (f : Int) (w : Int)).toNat) := fun P z s => s f c w (k P z s) hf hw hb hu
theorem wk.ind {U : Nat → Bool} {h : Int} {a : Nat} (Q : Nat → Int → Prop) (z : Q a 0) (s : ∀ (f : Nat) (c : Int) (w : Nat), wk U h a f c → Q f c → f < 64 → w < 4 → pa_beside (f : Int) (w : Int) ≠ -1 → (h = 0 ∨ U (pa_beside (f : Int) (w : Int)).toNat = true) → Q (pa_beside (f : Int) (w : Int)).toNat (c + 1 + wt_1 U (pa_beside (f : Int) (w : Int)).toNat)) {f : Nat} {c : Int} (k : wk U h a f c) : Q f c :=
  (k (fun f c => wk U h a f c ∧ Q f c) ⟨wk.z, z⟩ (fun f c w ih hf hw hb hu => ⟨wk.s w ih.1 hf hw hb hu, s f c w ih.1 ih.2 hf hw hb hu⟩)).2
theorem wt_in (U : Nat → Bool) (f : Nat) : 0 ≤ wt_1 U f ∧ wt_1 U f ≤ 100 := by
  unfold wt_1
  split <;> omega
theorem wk_0 {U : Nat → Bool} {h : Int} {a : Nat} {f : Nat} {c : Int} (k : wk U h a f c) : 0 ≤ c := by
  refine wk.ind (fun _ c => 0 ≤ c) (by decide) (fun f' c' w _ ih _ _ _ _ => ?_) k
  have := wt_in U (pa_beside (f' : Int) (w : Int)).toNat
  omega
theorem wk_64 {U : Nat → Bool} {h : Int} {a : Nat} (ha : a < 64) {f : Nat} {c : Int} (k : wk U h a f c) : f < 64 := by
  refine wk.ind (fun f _ => f < 64) ha (fun f' c' w _ _ hf _ _ _ => ?_) k
  have := pa_beside_in (f := (f' : Int)) (by omega) w
  omega
/-- a way over unseen fields alone is a way -/
theorem wk_any {U : Nat → Bool} {a : Nat} {f : Nat} {c : Int} {h : Int} (k : wk U h a f c) : wk U 0 a f c := by
  exact wk.ind (fun f c => wk U 0 a f c) wk.z (fun f' c' w _ ih hf hw hb _ => wk.s w ih hf hw hb (.inl rfl)) k
/-- a way that costs less than 100 goes over unseen fields alone -/
theorem wk_low {U : Nat → Bool} {a : Nat} {f : Nat} {c : Int} {h : Int} (k : wk U h a f c) : c < 100 → wk U 1 a f c := by
  refine wk.ind (fun f c => c < 100 → wk U 1 a f c) (fun _ => wk.z) (fun f' c' w k0 ih hf hw hb _ => ?_) k
  · intro hc
    have h0 := wk_0 k0
    have hu : U (pa_beside (f' : Int) (w : Int)).toNat = true := by
      cases e : U (pa_beside (f' : Int) (w : Int)).toNat with
      | true => rfl
      | false =>
        exfalso
        unfold wt_1 at hc
        rw [e, if_neg (by decide)] at hc
        omega
    have e0 : wt_1 U (pa_beside (f' : Int) (w : Int)).toNat = 0 := by
      unfold wt_1
      rw [if_pos hu]
    exact wk.s w (ih (by omega)) hf hw hb (.inr hu)
/-! the model's costs -/
def wm_I (U : Nat → Bool) (h : Int) (a : Nat) (C : Nat → Int) : Prop := C a ≤ 0 ∧ ∀ f : Nat, f < 64 → C f = 1000000000 ∨ wk U h a f (C f)
theorem wm_0 (U : Nat → Bool) (h : Int) {a : Nat} (ha : a < 64) (C : Nat → Int) (hC : ∀ f : Nat, f < 64 → C f = if (f : Int) = (a : Int) then 0 else 1000000000) : wm_I U h a C := by
  refine ⟨by rw [hC a ha, if_pos rfl]; decide, fun f hf => ?_⟩
  rw [hC f hf]
  by_cases e : (f : Int) = (a : Int)
  · rw [if_pos e, show f = a by omega]
    exact .inr wk.z
  · rw [if_neg e]
    exact .inl rfl
theorem wm_s (U : Nat → Bool) (h : Int) {a : Nat} (C : Nat → Int) (f w : Nat) (I : wm_I U h a C) (hf : f < 64) (hw : w < 4) (hb : pc_better U h C f w) : wm_I U h a (pc_step U C f w) := by
  obtain ⟨b1, b2, b3, b4⟩ := hb
  have step : wk U h a (pa_beside (f : Int) (w : Int)).toNat (C f + 1 + wt_1 U (pa_beside (f : Int) (w : Int)).toNat) := by
    rcases I.2 f hf with x | x
    · omega
    · exact wk.s w x hf hw b2 b3
  refine ⟨?_, fun g hg => ?_⟩
  · unfold pc_step
    simp only [su]
    split
    · next e =>
      have := I.1
      rw [e] at this
      omega
    · exact I.1
  · unfold pc_step
    simp only [su]
    split
    · next e =>
      rw [e]
      exact .inr step
    · exact I.2 g hg
/-- what is stable is least -/
theorem wm_le {U : Nat → Bool} {h : Int} {a : Nat} (ha : a < 64) {C : Nat → Int} (I : wm_I U h a C) (hin : pc_in C) (st : ∀ f w : Nat, f < 64 → w < 4 → ¬ pc_better U h C f w) {f : Nat} {c : Int} (k : wk U h a f c) : C f ≤ c := by
  refine wk.ind (fun f c => C f ≤ c) I.1 (fun f' c' w k0 ih hf hw hb hu => ?_) k
  · have hto := pa_beside_in (f := (f' : Int)) (by omega) w
    have hi := hin (pa_beside (f' : Int) (w : Int)).toNat (by omega)
    have ht := wt_in U (pa_beside (f' : Int) (w : Int)).toNat
    have nb := st f' w hf hw
    by_cases h9 : C f' < 1000000000
    · have : ¬ C f' + 1 + wt_1 U (pa_beside (f' : Int) (w : Int)).toNat < C (pa_beside (f' : Int) (w : Int)).toNat := fun x => nb ⟨h9, hb, hu, x⟩
      omega
    · omega
/-! the class's search -/
abbrev sr_I (U : Nat → Bool) (a : Nat) (S : hy_T) : Prop := (S 55 a ≤ 0) ∧ (∀ f : Nat, f < 64 → S 55 f = 1000000 ∨ wk U 0 a f (S 55 f)) ∧ (∀ f : Nat, f < 64 → S 54 f ≠ 0 → ∀ w : Nat, w < 4 → pa_beside (f : Int) (w : Int) ≠ -1 → S 55 (pa_beside (f : Int) (w : Int)).toNat ≤ S 55 f + 1 + wt_1 U (pa_beside (f : Int) (w : Int)).toNat) ∧ (∀ f g : Nat, f < 64 → g < 64 → S 54 f ≠ 0 → S 54 g = 0 → S 55 f ≤ S 55 g) ∧ (∀ f : Nat, f < 64 → S 53 f = hy_b (U f)) ∧ (pa_inv S) ∧ (∀ f : Nat, f < 64 → S 54 f = 0 ∨ S 54 f = 1)
theorem sr_I.i0 {U : Nat → Bool} {a : Nat} {S : hy_T} (h : sr_I U a S) : S 55 a ≤ 0 := h.1
theorem sr_I.i1 {U : Nat → Bool} {a : Nat} {S : hy_T} (h : sr_I U a S) : ∀ f : Nat, f < 64 → S 55 f = 1000000 ∨ wk U 0 a f (S 55 f) := h.2.1
theorem sr_I.i2 {U : Nat → Bool} {a : Nat} {S : hy_T} (h : sr_I U a S) : ∀ f : Nat, f < 64 → S 54 f ≠ 0 → ∀ w : Nat, w < 4 → pa_beside (f : Int) (w : Int) ≠ -1 → S 55 (pa_beside (f : Int) (w : Int)).toNat ≤ S 55 f + 1 + wt_1 U (pa_beside (f : Int) (w : Int)).toNat := h.2.2.1
theorem sr_I.i3 {U : Nat → Bool} {a : Nat} {S : hy_T} (h : sr_I U a S) : ∀ f g : Nat, f < 64 → g < 64 → S 54 f ≠ 0 → S 54 g = 0 → S 55 f ≤ S 55 g := h.2.2.2.1
theorem sr_I.i4 {U : Nat → Bool} {a : Nat} {S : hy_T} (h : sr_I U a S) : ∀ f : Nat, f < 64 → S 53 f = hy_b (U f) := h.2.2.2.2.1
theorem sr_I.i5 {U : Nat → Bool} {a : Nat} {S : hy_T} (h : sr_I U a S) : pa_inv S := h.2.2.2.2.2.1
theorem sr_I.i6 {U : Nat → Bool} {a : Nat} {S : hy_T} (h : sr_I U a S) : ∀ f : Nat, f < 64 → S 54 f = 0 ∨ S 54 f = 1 := h.2.2.2.2.2.2
theorem near_s (S : hy_T) : ∀ n : Nat, (pa_nearN S n < 0 → ∀ g : Nat, g < n → S 54 g ≠ 0) ∧ (0 ≤ pa_nearN S n → S 54 (pa_nearN S n).toNat = 0 ∧ ∀ g : Nat, g < n → S 54 g = 0 → S 55 (pa_nearN S n).toNat ≤ S 55 g)
  | 0 => ⟨fun _ g hg => absurd hg (Nat.not_lt_zero g), fun h => absurd h (show ¬ (0 : Int) ≤ -1 by decide)⟩
  | n + 1 => by
    obtain ⟨a1, a2⟩ := near_s S n
    simp only [pa_nearN]
    by_cases hc : S 54 n = 0 ∧ (pa_nearN S n < 0 ∨ S 55 n < S 55 (pa_nearN S n).toNat)
    · rw [if_pos hc]
      refine ⟨fun h => by omega, fun _ => ?_⟩
      rw [Int.toNat_natCast]
      refine ⟨hc.1, fun g hg h0 => ?_⟩
      rcases Nat.lt_succ_iff_lt_or_eq.mp hg with x | x
      · rcases hc.2 with y | y
        · exact absurd h0 (a1 y g x)
        · by_cases hn : pa_nearN S n < 0
          · exact absurd h0 (a1 hn g x)
          · have := (a2 (by omega)).2 g x h0
            omega
      · rw [x]
        exact Int.le_refl _
    · rw [if_neg hc]
      refine ⟨fun h g hg => ?_, fun h => ⟨(a2 h).1, fun g hg h0 => ?_⟩⟩
      · rcases Nat.lt_succ_iff_lt_or_eq.mp hg with x | x
        · exact a1 h g x
        · rw [x]
          exact fun y => hc ⟨y, .inl h⟩
      · rcases Nat.lt_succ_iff_lt_or_eq.mp hg with x | x
        · exact (a2 h).2 g x h0
        · rw [x] at h0 ⊢
          by_cases hl : S 55 n < S 55 (pa_nearN S n).toNat
          · exact absurd ⟨h0, .inr hl⟩ hc
          · omega
theorem leaveN_s {S : hy_T} {f : Nat} (hf : f < 64) (hi : pa_inv S) : ∀ n : Nat, n ≤ 4 → (∀ g : Nat, pa_leaveN S (f : Int) n 54 g = if g = f then 1 else S 54 g) ∧ (∀ g : Nat, pa_leaveN S (f : Int) n 53 g = S 53 g) ∧ pa_leaveN S (f : Int) n 55 f = S 55 f ∧ (∀ g : Nat, pa_leaveN S (f : Int) n 55 g = S 55 g ∨ ∃ w : Nat, w < 4 ∧ pa_beside (f : Int) (w : Int) = (g : Int) ∧ pa_leaveN S (f : Int) n 55 g = S 55 f + 1 + (if S 53 g = 0 then 100 else 0) ∧ pa_leaveN S (f : Int) n 55 g ≤ S 55 g) ∧ (∀ w : Nat, w < n → 0 ≤ pa_beside (f : Int) (w : Int) → pa_leaveN S (f : Int) n 55 (pa_beside (f : Int) (w : Int)).toNat ≤ S 55 f + 1 + (if S 53 (pa_beside (f : Int) (w : Int)).toNat = 0 then 100 else 0)) ∧ ∀ g : Nat, pa_leaveN S (f : Int) n 55 g ≤ S 55 g
  | 0, _ => by
    have e : ∀ g, pa_leaveN S (f : Int) 0 55 g = S 55 g := fun g => by
      simp only [pa_leaveN]
      exact hy_up_ne (by decide)
    refine ⟨fun g => ?_, fun g => ?_, e f, fun g => .inl (e g), fun w hw => absurd hw (Nat.not_lt_zero w), fun g => by rw [e]; exact Int.le_refl _⟩
    · simp only [pa_leaveN, hy_up, true_and, Int.toNat_natCast]
    · simp only [pa_leaveN]
      exact hy_up_ne (by decide)
  | n + 1, hn => by
    obtain ⟨a1, a2, a3, a4, a5, a6⟩ := leaveN_s hf hi n (by omega)
    have hb := pa_beside_in (f := (f : Int)) (by omega) n
    have nf : pa_beside (f : Int) (n : Int) ≠ (f : Int) := fun x => by
      unfold pa_beside at x
      split at x
      · split at x <;> omega
      · split at x
        · split at x <;> omega
        · split at x
          · split at x <;> omega
          · split at x <;> omega
    simp only [pa_leaveN]
    by_cases h0 : 0 ≤ pa_beside (f : Int) (n : Int)
    · rw [if_pos h0]
      have ec : pa_cost (pa_leaveN S (f : Int) n) (f : Int) (pa_beside (f : Int) (n : Int)) = S 55 f + 1 + (if S 53 (pa_beside (f : Int) (n : Int)).toNat = 0 then 100 else 0) := by
        unfold pa_cost
        rw [Int.toNat_natCast, a3, a2]
      rw [ec]
      have old : ∀ g : Nat, g ≠ (pa_beside (f : Int) (n : Int)).toNat → ∀ v, hy_up (pa_leaveN S (f : Int) n) 55 (pa_beside (f : Int) (n : Int)).toNat v 55 g = pa_leaveN S (f : Int) n 55 g := fun g hg v => by simp [hy_up, hg]
      have new : ∀ v, hy_up (pa_leaveN S (f : Int) n) 55 (pa_beside (f : Int) (n : Int)).toNat v 55 (pa_beside (f : Int) (n : Int)).toNat = v := fun v => by simp [hy_up]
      have le6 := a6 (pa_beside (f : Int) (n : Int)).toNat
      refine ⟨fun g => by rw [hy_up_ne (by decide)]; exact a1 g, fun g => by rw [hy_up_ne (by decide)]; exact a2 g, by rw [old f (by omega)]; exact a3, fun g => ?_, fun w hw hw0 => ?_, fun g => ?_⟩
      · by_cases hg : g = (pa_beside (f : Int) (n : Int)).toNat
        · rw [hg, new]
          by_cases hl : S 55 f + 1 + (if S 53 (pa_beside (f : Int) (n : Int)).toNat = 0 then 100 else 0) < pa_leaveN S (f : Int) n 55 (pa_beside (f : Int) (n : Int)).toNat
          · rw [if_pos hl]
            exact .inr ⟨n, by omega, by omega, rfl, by omega⟩
          · rw [if_neg hl]
            exact a4 _
        · rw [old g hg]
          exact a4 g
      · by_cases hg : (pa_beside (f : Int) (w : Int)).toNat = (pa_beside (f : Int) (n : Int)).toNat
        · rw [hg, new]
          by_cases hl : S 55 f + 1 + (if S 53 (pa_beside (f : Int) (n : Int)).toNat = 0 then 100 else 0) < pa_leaveN S (f : Int) n 55 (pa_beside (f : Int) (n : Int)).toNat
          · rw [if_pos hl]
            exact Int.le_refl _
          · rw [if_neg hl]
            omega
        · rw [old _ hg]
          rcases Nat.lt_succ_iff_lt_or_eq.mp hw with x | x
          · exact a5 w x hw0
          · rw [x] at hg
            exact absurd rfl hg
      · by_cases hg : g = (pa_beside (f : Int) (n : Int)).toNat
        · rw [hg, new]
          by_cases hl : S 55 f + 1 + (if S 53 (pa_beside (f : Int) (n : Int)).toNat = 0 then 100 else 0) < pa_leaveN S (f : Int) n 55 (pa_beside (f : Int) (n : Int)).toNat
          · rw [if_pos hl]
            omega
          · rw [if_neg hl]
            exact le6
        · rw [old g hg]
          exact a6 g
    · rw [if_neg h0]
      refine ⟨a1, a2, a3, a4, fun w hw hw0 => ?_, a6⟩
      rcases Nat.lt_succ_iff_lt_or_eq.mp hw with x | x
      · exact a5 w x hw0
      · rw [x] at hw0
        exact absurd hw0 h0
theorem b_wt {U : Nat → Bool} {S : hy_T} (h : ∀ f : Nat, f < 64 → S 53 f = hy_b (U f)) {g : Nat} (hg : g < 64) : (if S 53 g = 0 then (100 : Int) else 0) = wt_1 U g := by
  unfold wt_1
  rw [h g hg]
  cases U g <;> decide
theorem sr_leave {U : Nat → Bool} {a : Nat} {S : hy_T} (I : sr_I U a S) (ha : a < 64) : sr_I U a (pa_leave S (pa_nearN S 64)) := by
  have nr := near_s S 64
  have hn := pa_near_in S 64
  unfold pa_leave
  by_cases h0 : 0 ≤ pa_nearN S 64 ∧ pa_nearN S 64 < 64
  · rw [if_pos h0]
    obtain ⟨n1, n2⟩ := nr.2 h0.1
    generalize hf : (pa_nearN S 64).toNat = f at n1 n2
    have ef : pa_nearN S 64 = (f : Int) := by omega
    have f64 : f < 64 := by omega
    rw [ef]
    obtain ⟨l1, l2, l3, l4, l5, l6⟩ := leaveN_s (S := S) f64 I.i5 4 (Nat.le_refl _)
    have hi5 := pa_leaveN_inv I.i5 (f := (f : Int)) (by omega) 4
    have hmin : ∀ g : Nat, g < 64 → S 54 g = 0 → S 55 f ≤ S 55 g := n2
    -- what is done stays
    have dn : ∀ g : Nat, g < 64 → S 54 g ≠ 0 → pa_leaveN S (f : Int) 4 55 g = S 55 g := fun g hg hd => by
      rcases l4 g with x | ⟨w, w1, w2, w3, w4⟩
      · exact x
      · have h3 := I.i3 g f hg f64 hd n1
        have ht : (0 : Int) ≤ (if S 53 g = 0 then (100 : Int) else 0) := by split <;> decide
        omega
    -- what is not done is no less than what was left
    have ud : ∀ g : Nat, g < 64 → S 54 g = 0 → S 55 f ≤ pa_leaveN S (f : Int) 4 55 g := fun g hg hd => by
      rcases l4 g with x | ⟨w, w1, w2, w3, w4⟩
      · rw [x]
        exact hmin g hg hd
      · have ht : (0 : Int) ≤ (if S 53 g = 0 then (100 : Int) else 0) := by split <;> decide
        omega
    have d54 : ∀ g : Nat, pa_leaveN S (f : Int) 4 54 g ≠ 0 → g = f ∨ S 54 g ≠ 0 := fun g h => by
      by_cases e : g = f
      · exact .inl e
      · rw [l1, if_neg e] at h
        exact .inr h
    refine ⟨?_, fun g hg => ?_, fun g hg hd w hw hb => ?_, fun g k hg hk hd hu => ?_, fun g hg => by rw [l2]; exact I.i4 g hg, hi5, fun g hg => ?_⟩
    · have := l6 a
      have := I.i0
      omega
    · rcases l4 g with x | ⟨w, w1, w2, w3, w4⟩
      · rw [x]
        exact I.i1 g hg
      · rcases I.i1 f f64 with y | y
        · have ht : (0 : Int) ≤ (if S 53 g = 0 then (100 : Int) else 0) := by split <;> decide
          have := I.i5 g hg
          omega
        · rw [w3, b_wt I.i4 hg]
          have := wk.s (U := U) (h := 0) (a := a) w y f64 w1 (by omega) (.inl rfl)
          rw [w2, Int.toNat_natCast] at this
          exact .inr this
    · have hto := pa_beside_in (f := (g : Int)) (by omega) w
      rcases d54 g hd with x | x
      · subst x
        have := l5 w hw (by omega)
        rw [b_wt I.i4 (show (pa_beside (g : Int) (w : Int)).toNat < 64 by omega)] at this
        rw [l3]
        exact this
      · have h2 := I.i2 g hg x w hw hb
        have h6 := l6 (pa_beside (g : Int) (w : Int)).toNat
        rw [dn g hg x]
        omega
    · have ku : S 54 k = 0 := by
        rw [l1] at hu
        split at hu
        · cases hu
        · exact hu
      rcases d54 g hd with x | x
      · subst x
        rw [l3]
        exact ud k hk ku
      · rw [dn g hg x]
        have h3 := I.i3 g f hg f64 x n1
        have := ud k hk ku
        omega
    · rw [l1]
      split
      · exact .inr rfl
      · exact I.i6 g hg
  · rw [if_neg h0]
    exact I
theorem forget_v (S : hy_T) : ∀ n : Nat, (∀ f : Nat, f < n → pa_forgetN S n 54 f = 0 ∧ pa_forgetN S n 55 f = 1000000) ∧ ∀ f : Nat, pa_forgetN S n 53 f = S 53 f
  | 0 => ⟨fun f hf => absurd hf (Nat.not_lt_zero f), fun _ => rfl⟩
  | n + 1 => by
    obtain ⟨a1, a2⟩ := forget_v S n
    simp only [pa_forgetN]
    refine ⟨fun f hf => ?_, fun f => ?_⟩
    · by_cases e : f = n
      · rw [e]
        exact ⟨by rw [hy_up_ne (by decide)]; simp [hy_up], by simp [hy_up]⟩
      · have := a1 f (by omega)
        simp only [hy_up]
        rw [if_neg (fun x => absurd x.1 (by decide)), if_neg (fun x => e x.2), if_neg (fun x => e x.2), if_neg (fun x => absurd x.1 (by decide))]
        exact this
    · rw [hy_up_ne (by decide), hy_up_ne (by decide)]
      exact a2 f
theorem sr_0 {U : Nat → Bool} {a : Nat} (ha : a < 64) {S : hy_T} (h53 : ∀ f : Nat, f < 64 → S 53 f = hy_b (U f)) : sr_I U a (pa_search0 S (a : Int)) := by
  obtain ⟨v1, v2⟩ := forget_v S 64
  have e : pa_search0 S (a : Int) = hy_up (pa_forgetN S 64) 55 a 0 := by
    unfold pa_search0
    rw [if_pos (by omega), Int.toNat_natCast]
  have hi := pa_search0_inv S (a : Int)
  rw [e] at hi ⊢
  have d54 : ∀ f : Nat, f < 64 → hy_up (pa_forgetN S 64) 55 a 0 54 f = 0 := fun f hf => by
    rw [hy_up_ne (by decide)]
    exact (v1 f hf).1
  refine ⟨by simp [hy_up], fun f hf => ?_, fun f hf hd => absurd (d54 f hf) hd, fun f g hf hg hd => absurd (d54 f hf) hd, fun f hf => by rw [hy_up_ne (by decide), v2]; exact h53 f hf, hi, fun f hf => .inl (d54 f hf)⟩
  by_cases ef : f = a
  · rw [ef, show hy_up (pa_forgetN S 64) 55 a 0 55 a = 0 by simp [hy_up]]
    exact .inr wk.z
  · rw [show hy_up (pa_forgetN S 64) 55 a 0 55 f = pa_forgetN S 64 55 f by simp [hy_up, ef]]
    exact .inl (v1 f hf).2
theorem sr_N {U : Nat → Bool} {a : Nat} (ha : a < 64) {S : hy_T} (I : sr_I U a S) : ∀ n : Nat, sr_I U a (pa_searchN S n)
  | 0 => I
  | n + 1 => sr_leave (sr_N ha I n) ha
/-- one more is done each time, until all are -/
theorem sr_done {U : Nat → Bool} {a : Nat} (ha : a < 64) {S : hy_T} (I : sr_I U a S) : ∀ n : Nat, (n : Int) ≤ pc_sum (pa_searchN S n 54) 64 ∨ ∀ f : Nat, f < 64 → pa_searchN S n 54 f ≠ 0
  | 0 => by
    left
    have := (pc_sum_le (C := S 54) (lo := 0) (hi := 1) 64 (fun f hf => by
      rcases I.i6 f hf with x | x <;> omega)).1
    show (0 : Int) ≤ pc_sum (S 54) 64
    omega
  | n + 1 => by
    have ih := sr_done ha I n
    have J := sr_N ha I n
    simp only [pa_searchN]
    generalize pa_searchN S n = T at ih J ⊢
    have nr := near_s T 64
    have hn := pa_near_in T 64
    by_cases h0 : 0 ≤ pa_nearN T 64 ∧ pa_nearN T 64 < 64
    · obtain ⟨n1, -⟩ := nr.2 h0.1
      rcases ih with x | x
      · left
        unfold pa_leave
        rw [if_pos h0]
        have ef : pa_nearN T 64 = ((pa_nearN T 64).toNat : Int) := by omega
        have l1 := (leaveN_s (S := T) (f := (pa_nearN T 64).toNat) (by omega) J.i5 4 (Nat.le_refl _)).1
        rw [← ef] at l1
        have er : pa_leaveN T (pa_nearN T 64) 4 54 = su (T 54) (pa_nearN T 64).toNat 1 := funext fun g => by
          rw [l1]
          rfl
        rw [er, pc_sum_su, if_pos (by omega), n1]
        omega
      · exact absurd n1 (x _ (by omega))
    · right
      unfold pa_leave
      rw [if_neg h0]
      exact nr.1 (by omega)
theorem sr_all {U : Nat → Bool} {a : Nat} (ha : a < 64) {S : hy_T} (I : sr_I U a S) : ∀ f : Nat, f < 64 → pa_searchN S 64 54 f ≠ 0 := by
  rcases sr_done ha I 64 with x | x
  · have J := sr_N ha I 64
    intro f hf h0
    have e := pc_sum_su (pa_searchN S 64 54) f 1 64
    rw [if_pos hf, h0] at e
    have := (pc_sum_le (C := su (pa_searchN S 64 54) f 1) (lo := 0) (hi := 1) 64 (fun g hg => by
      simp only [su]
      split
      · omega
      · rcases J.i6 g hg with y | y <;> omega)).2
    omega
  · exact x
theorem sr_le {U : Nat → Bool} {a : Nat} (ha : a < 64) {S : hy_T} (I : sr_I U a S) {f : Nat} {c : Int} (k : wk U 0 a f c) : pa_searchN S 64 55 f ≤ c := by
  have J := sr_N ha I 64
  refine wk.ind (fun f c => pa_searchN S 64 55 f ≤ c) J.i0 (fun f' c' w k0 ih hf hw hb _ => ?_) k
  have := J.i2 _ hf (sr_all ha I _ hf) w hw hb
  omega
/-! every field can be come to -/
def rc_n (U : Nat → Bool) (a n f : Nat) : Prop := ∃ c : Int, wk U 0 a f c ∧ c ≤ 101 * n
theorem rc_s {U : Nat → Bool} {a n f : Nat} (h : rc_n U a n f) (hf : f < 64) (w : Nat) (hw : w < 4) {g : Nat} (hb : pa_beside (f : Int) (w : Int) = (g : Int)) : rc_n U a (n + 1) g := by
  obtain ⟨c, k, hc⟩ := h
  have := wk.s (U := U) (h := 0) (a := a) w k hf hw (by omega) (.inl rfl)
  have ht := wt_in U (pa_beside (f : Int) (w : Int)).toNat
  rw [hb, Int.toNat_natCast] at this ht
  exact ⟨_, this, by omega⟩
theorem rc_left {U : Nat → Bool} {a f : Nat} (hf : f < 64) : ∀ (k n : Nat), k ≤ f % 8 → rc_n U a n f → rc_n U a (n + k) (f - k)
  | 0, n, _, h => h
  | k + 1, n, hk, h => by
    have ih := rc_left hf k n (by omega) h
    exact rc_s ih (by omega) 1 (by decide) (g := f - (k + 1)) (by
      unfold pa_beside
      rw [if_neg (by decide), if_pos (by decide), if_pos (by omega)]
      omega)
theorem rc_up {U : Nat → Bool} {a f : Nat} (hf : f < 64) : ∀ (k n : Nat), k ≤ f / 8 → rc_n U a n f → rc_n U a (n + k) (f - 8 * k)
  | 0, n, _, h => h
  | k + 1, n, hk, h => by
    have ih := rc_up hf k n (by omega) h
    exact rc_s ih (by omega) 3 (by decide) (g := f - 8 * (k + 1)) (by
      unfold pa_beside
      rw [if_neg (by decide), if_neg (by decide), if_neg (by decide), if_pos (by omega)]
      omega)
theorem rc_right {U : Nat → Bool} {a f : Nat} (hf : f < 64) : ∀ (k n : Nat), f % 8 + k ≤ 7 → rc_n U a n f → rc_n U a (n + k) (f + k)
  | 0, n, _, h => h
  | k + 1, n, hk, h => by
    have ih := rc_right hf k n (by omega) h
    exact rc_s ih (by omega) 0 (by decide) (g := f + (k + 1)) (by
      unfold pa_beside
      rw [if_pos (by decide), if_pos (by omega)]
      omega)
theorem rc_down {U : Nat → Bool} {a f : Nat} (hf : f < 64) : ∀ (k n : Nat), f / 8 + k ≤ 7 → rc_n U a n f → rc_n U a (n + k) (f + 8 * k)
  | 0, n, _, h => h
  | k + 1, n, hk, h => by
    have ih := rc_down hf k n (by omega) h
    exact rc_s ih (by omega) 2 (by decide) (g := f + 8 * (k + 1)) (by
      unfold pa_beside
      rw [if_neg (by decide), if_neg (by decide), if_pos (by decide), if_pos (by omega)]
      omega)
theorem rc_all (U : Nat → Bool) {a b : Nat} (ha : a < 64) (hb : b < 64) : ∃ c : Int, wk U 0 a b c ∧ c ≤ 2828 := by
  have h0 : rc_n U a 0 a := ⟨0, wk.z, by decide⟩
  have h1 := rc_left ha (a % 8) 0 (Nat.le_refl _) h0
  have h2 := rc_up (f := a - a % 8) (by omega) (a / 8) _ (by omega) h1
  rw [show a - a % 8 - 8 * (a / 8) = 0 by omega] at h2
  have h3 := rc_right (f := 0) (by omega) (b % 8) _ (by omega) h2
  rw [show 0 + b % 8 = b % 8 from Nat.zero_add _] at h3
  have h4 := rc_down (f := b % 8) (by omega) (b / 8) _ (by omega) h3
  rw [show b % 8 + 8 * (b / 8) = b by omega] at h4
  obtain ⟨c, k, hc⟩ := h4
  exact ⟨c, k, by omega⟩
/-! a least way over unseen fields has fewer than 64 steps -/
def lv_c (C : Nat → Int) (d : Int) : Nat → Int := fun f => if C f ≤ d then 1 else 0
theorem lv_up {C : Nat → Int} {d e : Int} (hde : d ≤ e) {f : Nat} (hd : ¬ C f ≤ d) (he : C f ≤ e) : ∀ n : Nat, pc_sum (lv_c C d) n ≤ pc_sum (lv_c C e) n ∧ (f < n → pc_sum (lv_c C d) n + 1 ≤ pc_sum (lv_c C e) n)
  | 0 => ⟨Int.le_refl _, fun h => absurd h (Nat.not_lt_zero f)⟩
  | n + 1 => by
    obtain ⟨a1, a2⟩ := lv_up hde hd he n
    have p : lv_c C d n ≤ lv_c C e n := by
      unfold lv_c
      split
      · rw [if_pos (by omega)]
        exact Int.le_refl _
      · split <;> decide
    simp only [pc_sum]
    refine ⟨by omega, fun h => ?_⟩
    rcases Nat.lt_succ_iff_lt_or_eq.mp h with x | x
    · have := a2 x
      omega
    · have e1 : lv_c C d n = 0 := by
        unfold lv_c
        rw [← x, if_neg hd]
      have e2 : lv_c C e n = 1 := by
        unfold lv_c
        rw [← x, if_pos he]
      omega
theorem wk_last {U : Nat → Bool} {a f : Nat} {c : Int} (k : wk U 1 a f c) : c ≤ 0 ∨ ∃ (g : Nat), wk U 1 a g (c - 1) ∧ g < 64 ∧ ∃ w : Nat, w < 4 ∧ pa_beside (g : Int) (w : Int) = (f : Int) ∧ U f = true := by
  refine wk.ind (fun f c => c ≤ 0 ∨ ∃ (g : Nat), wk U 1 a g (c - 1) ∧ g < 64 ∧ ∃ w : Nat, w < 4 ∧ pa_beside (g : Int) (w : Int) = (f : Int) ∧ U f = true) (.inl (Int.le_refl _)) (fun g c' w k0 _ hf hw hb hu => ?_) k
  · have hto := pa_beside_in (f := (g : Int)) (by omega) w
    rcases hu with x | x
    · cases x
    · have e0 : wt_1 U (pa_beside (g : Int) (w : Int)).toNat = 0 := by
        unfold wt_1
        rw [if_pos x]
      refine .inr ⟨g, ?_, hf, w, hw, by omega, x⟩
      rw [e0, show c' + 1 + 0 - 1 = c' by omega]
      exact k0
theorem lv_all {U : Nat → Bool} {a : Nat} (ha : a < 64) {C : Nat → Int} (hle : ∀ {f : Nat} {c : Int}, wk U 1 a f c → C f ≤ c) (h0 : ∀ f : Nat, f < 64 → 0 ≤ C f) (hm : ∀ f : Nat, f < 64 → C f ≤ 1000000000) (hs : ∀ f : Nat, f < 64 → C f = 1000000000 ∨ wk U 1 a f (C f)) : ∀ (d : Nat) (f : Nat), f < 64 → C f = (d : Int) → wk U 1 a f (C f) → (d : Int) + 1 ≤ pc_sum (lv_c C (d : Int)) 64
  | 0, f, hf, e, k => by
    have := (lv_up (C := C) (d := -1) (e := 0) (by decide) (f := f) (by omega) (by omega) 64).2 hf
    have z := (pc_sum_le (C := lv_c C (-1)) (lo := 0) (hi := 1) 64 (fun g _ => by
      unfold lv_c
      split <;> decide)).1
    show (0 : Int) + 1 ≤ pc_sum (lv_c C 0) 64
    omega
  | d + 1, f, hf, e, k => by
    rcases wk_last k with x | ⟨g, k2, hg, w, hw, hb, hu⟩
    · omega
    · have c1 := hle k2
      have hg0 := h0 g hg
      have ge : (d : Int) ≤ C g := by
        rcases Int.lt_or_le (C g) (d : Int) with y | y
        · exfalso
          rcases hs g hg with z | z
          · have := hm f hf
            omega
          · have z2 := hle (wk.s w z hg hw (by omega) (.inr (by rw [hb, Int.toNat_natCast]; exact hu)))
            rw [hb, Int.toNat_natCast, show wt_1 U f = 0 from if_pos hu] at z2
            omega
        · exact y
      have eg : C g = (d : Int) := by omega
      have ih := lv_all ha hle h0 hm hs d g hg eg (by rw [show C g = C f - 1 by omega]; exact k2)
      have := (lv_up (C := C) (d := (d : Int)) (e := ((d + 1 : Nat) : Int)) (by omega) (f := f) (by omega) (by omega) 64).2 hf
      omega
theorem fr_hid {t t1 : hy_T} {X : Nat → Nat → Bool} (h : fr t) (m : mK t) (F : hy_F X t t1) (hX : ∀ r j, 59 ≤ r → X r j = false) {e q u : Int} (hq : 0 ≤ q ∧ q < 4) (hu : sp_told (t 5 2) u = true) {f : Nat} (hf : f < 64) : wf_hid t (wf_as t e q) f u = pc_U t1 e q u f := by
  have hc := sp_told_in hu
  have L := fr_fe h m F hX
  have hs := (fr_seen h m F hX hq (e := e)).1
  have e9 : t 9 f = t1 63 f := by
    rw [F 63 _ (hX 63 _ (by decide))]
    exact h.2.1.1.1 _ hf
  have hg := m.mg f hf
  unfold wf_hid pc_U
  rw [if_pos (by omega), Int.toNat_natCast, e9, fe_lk L hs (c := t1 63 f) (by rw [F 63 _ (hX 63 _ (by decide))]; exact hg), fe_lk L hs (c := u) (by omega)]
theorem fr_way {t t1 t2 t3 : hy_T} {a b u e q w : Int} (h : fr t) (m : mK t) (F : hy_F wyX t t1) (P : wy_c t a b u e q w → ∀ f : Nat, f < 64 → t2 53 f = hy_b (wf_hid t (wf_as t e q) f u)) (Q : pc_wc t1 a b u e q w → ((0 ≤ a ∧ a < 64) → wm_I (pc_U t1 e q u) (pc_h w) a.toNat (t3 97)) ∧ pc_in (t3 97) ∧ ∀ f w' : Nat, f < 64 → w' < 4 → ¬ pc_better (pc_U t1 e q u) (pc_h w) (t3 97) f w') : (if pc_wc t1 a b u e q w then pc_ans (t3 97 b.toNat) w else -1) = if wy_c t a b u e q w then wy_A (pa_searchN (pa_search0 t2 a) 64) b w else -1 := by
  have hX : ∀ r j, 59 ≤ r → wyX r j = false := fun r j q => by simp only [wyX, Bool.or_eq_true, Bool.and_eq_true, decide_eq_true_eq, decide_eq_false_iff_not, beq_iff_eq, Bool.or_eq_false_iff, Bool.and_eq_false_iff, beq_eq_false_iff_ne]; omega
  have e0 := fr_toldE h F hX
  by_cases hq : wy_c t a b u e q w
  · obtain ⟨⟨q1, q2, q3⟩, q4, q5, q6⟩ := id hq
    have hq2 : pc_wc t1 a b u e q w := ⟨by omega, by omega, ⟨q4, by rw [e0]; exact q3, q5⟩, by omega⟩
    rw [if_pos hq, if_pos hq2]
    obtain ⟨I, hin, st⟩ := Q hq2
    have I := I q1
    have ha : a.toNat < 64 := by omega
    have hb : b.toNat < 64 := by omega
    have h53 : ∀ f : Nat, f < 64 → t2 53 f = hy_b (pc_U t1 e q u f) := fun f hf => by rw [P hq f hf, fr_hid h m F hX q5 q3 hf]
    have J := sr_0 (U := pc_U t1 e q u) ha h53
    rw [show ((a.toNat : Nat) : Int) = a by omega] at J
    generalize pc_U t1 e q u = U at I st J
    generalize pa_search0 t2 a = S at J ⊢
    obtain ⟨c0, k0, hc0⟩ := rc_all U ha hb
    have d0 := sr_le ha J k0
    have kD : wk U 0 a.toNat b.toNat (pa_searchN S 64 55 b.toNat) := by
      rcases (sr_N ha J 64).i1 b.toNat hb with x | x
      · omega
      · exact x
    have D0 := wk_0 kD
    have le1 := fun {f : Nat} {c : Int} (k : wk U (pc_h w) a.toNat f c) => wm_le ha I hin st k
    have hbi := hin b.toNat hb
    unfold pc_ans wy_A
    by_cases w0 : w = 0
    · have eh : pc_h w = 1 := if_pos w0
      rw [eh] at I le1
      rw [if_pos w0, if_pos w0]
      by_cases hC : t3 97 b.toNat = 1000000000
      · rw [if_pos hC, if_neg]
        intro hd
        have := le1 (wk_low kD (by omega))
        omega
      · have kC : wk U 1 a.toNat b.toNat (t3 97 b.toNat) := (I.2 b.toNat hb).resolve_left hC
        have l1 := sr_le ha J (wk_any kC)
        have l2 := lv_all (C := t3 97) ha (fun k => le1 k) (fun f hf => (hin f hf).1) (fun f hf => (hin f hf).2) I.2 (t3 97 b.toNat).toNat b.toNat hb (by omega) kC
        have l3 := (pc_sum_le (C := lv_c (t3 97) ((t3 97 b.toNat).toNat : Int)) (lo := 0) (hi := 1) 64 (fun g _ => by
          unfold lv_c
          split <;> decide)).2
        have l4 := le1 (wk_low kD (by omega))
        rw [if_neg hC, if_pos (by omega)]
        omega
    · have eh : pc_h w = 0 := if_neg w0
      rw [eh] at I le1
      rw [if_neg w0, if_neg w0]
      have l0 := le1 k0
      have kC : wk U 0 a.toNat b.toNat (t3 97 b.toNat) := (I.2 b.toNat hb).resolve_left (by omega)
      have l1 := sr_le ha J kC
      have l2 := le1 kD
      rw [show t3 97 b.toNat = pa_searchN S 64 55 b.toNat by omega]
  · have hq2 : ¬ pc_wc t1 a b u e q w := fun g => hq ⟨⟨by have := g.1; omega, by have := g.2.1; omega, by rw [← e0]; exact g.2.2.1.2.1⟩, g.2.2.1.1, g.2.2.1.2.2, by have := g.2.2.2; omega⟩
    rw [if_neg hq, if_neg hq2]
/-! seas -/
/-- fields of one sea -/
def cn (M : Nat → Bool) (a f : Nat) : Prop := ∀ P : Nat → Prop, P a → (∀ f w : Nat, P f → f < 64 → w < 4 → pa_beside (f : Int) (w : Int) ≠ -1 → M (pa_beside (f : Int) (w : Int)).toNat = true → P (pa_beside (f : Int) (w : Int)).toNat) → P f
theorem cn.z {M : Nat → Bool} {a : Nat} : cn M a a := fun _ z _ => z
theorem cn.s {M : Nat → Bool} {a f : Nat} (w : Nat) (k : cn M a f) (hf : f < 64) (hw : w < 4) (hb : pa_beside (f : Int) (w : Int) ≠ -1) (hm : M (pa_beside (f : Int) (w : Int)).toNat = true) : cn M a (pa_beside (f : Int) (w : Int)).toNat := fun P z s => s f w (k P z s) hf hw hb hm
theorem cn.ind {M : Nat → Bool} {a : Nat} (Q : Nat → Prop) (z : Q a) (s : ∀ f w : Nat, cn M a f → Q f → f < 64 → w < 4 → pa_beside (f : Int) (w : Int) ≠ -1 → M (pa_beside (f : Int) (w : Int)).toNat = true → Q (pa_beside (f : Int) (w : Int)).toNat) {f : Nat} (k : cn M a f) : Q f :=
  (k (fun f => cn M a f ∧ Q f) ⟨cn.z, z⟩ (fun f w ih hf hw hb hm => ⟨cn.s w ih.1 hf hw hb hm, s f w ih.1 ih.2 hf hw hb hm⟩)).2
theorem bs_back {f : Nat} (hf : f < 64) {w : Nat} (hw : w < 4) {g : Nat} (h : pa_beside (f : Int) (w : Int) = (g : Int)) : ∃ v : Nat, v < 4 ∧ pa_beside (g : Int) (v : Int) = (f : Int) := by
  have hw4 : w = 0 ∨ w = 1 ∨ w = 2 ∨ w = 3 := by omega
  rcases hw4 with rfl | rfl | rfl | rfl
  · refine ⟨1, by decide, ?_⟩
    unfold pa_beside at h ⊢
    rw [if_pos (by decide)] at h
    rw [if_neg (by decide), if_pos (by decide)]
    split at h
    · rw [if_pos (by omega)]
      omega
    · omega
  · refine ⟨0, by decide, ?_⟩
    unfold pa_beside at h ⊢
    rw [if_neg (by decide), if_pos (by decide)] at h
    rw [if_pos (by decide)]
    split at h
    · rw [if_pos (by omega)]
      omega
    · omega
  · refine ⟨3, by decide, ?_⟩
    unfold pa_beside at h ⊢
    rw [if_neg (by decide), if_neg (by decide), if_pos (by decide)] at h
    rw [if_neg (by decide), if_neg (by decide), if_neg (by decide)]
    split at h
    · rw [if_pos (by omega)]
      omega
    · omega
  · refine ⟨2, by decide, ?_⟩
    unfold pa_beside at h ⊢
    rw [if_neg (by decide), if_neg (by decide), if_neg (by decide)] at h
    rw [if_neg (by decide), if_neg (by decide), if_pos (by decide)]
    split at h
    · rw [if_pos (by omega)]
      omega
    · omega
theorem cn_64 {M : Nat → Bool} {a f : Nat} (ha : a < 64) (k : cn M a f) : f < 64 := by
  refine cn.ind (fun f => f < 64) ha (fun g w _ _ hf _ _ _ => ?_) k
  have := pa_beside_in (f := (g : Int)) (by omega) w
  omega
theorem cn_M {M : Nat → Bool} {a f : Nat} (ha : M a = true) (k : cn M a f) : M f = true := by
  exact cn.ind (fun f => M f = true) ha (fun g w _ _ _ _ _ hm => hm) k
theorem cn_tr {M : Nat → Bool} {a b c : Nat} (h : cn M a b) (k : cn M b c) : cn M a c := by
  exact cn.ind (fun c => cn M a c) h (fun g w _ ih hf hw hb hm => cn.s w ih hf hw hb hm) k
theorem cn_1 {M : Nat → Bool} {f g : Nat} (hf : f < 64) {w : Nat} (hw : w < 4) (h : pa_beside (f : Int) (w : Int) = (g : Int)) (hm : M g = true) : cn M f g := by
  have := cn.s (M := M) (a := f) w cn.z hf hw (by omega) (by rw [h, Int.toNat_natCast]; exact hm)
  rw [h, Int.toNat_natCast] at this
  exact this
theorem cn_sym {M : Nat → Bool} {a f : Nat} (ha : M a = true) (k : cn M a f) : cn M f a := by
  refine cn.ind (fun f => cn M f a) cn.z (fun g w k0 ih hf hw hb hm => ?_) k
  · have hin := pa_beside_in (f := (g : Int)) (by omega) w
    obtain ⟨v, v1, v2⟩ := bs_back hf hw (g := (pa_beside (g : Int) (w : Int)).toNat) (by omega)
    exact cn_tr (cn_1 (by omega) v1 v2 (cn_M ha k0)) ih
/-! the model's labels -/
def sd_L (M : Nat → Bool) (L : Nat → Int) : Prop := ∀ f : Nat, f < 64 → (M f = true → (0 ≤ L f ∧ L f ≤ (f : Int)) ∧ cn M f (L f).toNat) ∧ (M f = false → L f = -1)
theorem sd_0 (t : hy_T) (M : Nat → Bool) (hM : ∀ f : Nat, f < 64 → decide (t 79 (t 63 f).toNat = 12) = M f) : sd_L M (mf_sea0N t 64 102) := by
  have h : ∀ n : Nat, n ≤ 64 → ∀ f : Nat, f < n → mf_sea0N t n 102 f = if t 79 (t 63 f).toNat = 12 then (f : Int) else -1 := fun n => by
    induction n with
    | zero => exact fun _ f hf => absurd hf (Nat.not_lt_zero f)
    | succ n ih =>
      intro hn f hf
      simp only [mf_sea0N]
      have F := mf_sea0N_F t n
      by_cases e : f = n
      · rw [e]
        simp [hy_up]
      · rw [show ∀ v, hy_up (mf_sea0N t n) 102 n v 102 f = mf_sea0N t n 102 f from fun v => by simp [hy_up, e]]
        exact ih (by omega) f (by omega)
  intro f hf
  rw [h 64 (Nat.le_refl _) f hf]
  have := hM f hf
  constructor
  · intro hm
    rw [hm, decide_eq_true_eq] at this
    rw [if_pos this, Int.toNat_natCast]
    exact ⟨by omega, cn.z⟩
  · intro hm
    rw [hm, decide_eq_false_iff_not] at this
    rw [if_neg this]
theorem sd_joins {M : Nat → Bool} {u : hy_T} (h : sd_L M (u 102)) {a : Nat} (ha : a < 64) {w : Nat} (hw : w < 4) : sd_L M ((mf_joins u a (pa_beside (a : Int) (w : Int))).2 102) := by
  unfold mf_joins
  split
  · exact h
  · next hc =>
    simp only [not_or] at hc
    obtain ⟨c1, c2, c3, c4⟩ := hc
    have hb := pa_beside_in (f := (a : Int)) (by omega) w
    rw [Int.toNat_natCast] at c2 c4 ⊢
    generalize hg : (pa_beside (a : Int) (w : Int)).toNat = g at c3 c4 ⊢
    have eb : pa_beside (a : Int) (w : Int) = (g : Int) := by omega
    have g64 : g < 64 := by omega
    have ma : M a = true := by
      cases e : M a with
      | true => rfl
      | false => exact absurd ((h a ha).2 e) c2
    have mg : M g = true := by
      cases e : M g with
      | true => rfl
      | false => exact absurd ((h g g64).2 e) c3
    obtain ⟨a1, a2⟩ := (h a ha).1 ma
    obtain ⟨g1, g2⟩ := (h g g64).1 mg
    have kab := cn_1 ha hw eb mg
    have kba := cn_sym ma kab
    have low : ∀ m : Int, m = (if u 102 a < u 102 g then u 102 a else u 102 g) → (0 ≤ m ∧ m ≤ (a : Int) ∧ m ≤ (g : Int)) ∧ cn M a m.toNat ∧ cn M g m.toNat := by
      intro m hm
      by_cases hl : u 102 a < u 102 g
      · rw [if_pos hl] at hm
        rw [hm]
        exact ⟨by omega, a2, cn_tr kba a2⟩
      · rw [if_neg hl] at hm
        rw [hm]
        exact ⟨by omega, cn_tr kab g2, g2⟩
    generalize hm : (if u 102 a < u 102 g then u 102 a else u 102 g) = m
    obtain ⟨m1, m2, m3⟩ := low m hm.symm
    intro f hf
    simp only [hy_up, true_and]
    by_cases e1 : f = g
    · rw [if_pos e1, e1]
      exact ⟨fun _ => ⟨by omega, m3⟩, fun x => by rw [mg] at x; cases x⟩
    · rw [if_neg e1]
      by_cases e2 : f = a
      · rw [if_pos e2, e2]
        exact ⟨fun _ => ⟨by omega, m2⟩, fun x => by rw [ma] at x; cases x⟩
      · rw [if_neg e2]
        exact h f hf
theorem sd_seaP {M : Nat → Bool} {u : hy_T} (h : sd_L M (u 102)) : ∀ n : Nat, n ≤ 64 → sd_L M ((mf_seaP u n).2 102)
  | 0, _ => h
  | n + 1, hn => by
    have ih := sd_seaP h n (by omega)
    simp only [mf_seaP]
    exact sd_joins (w := 2) (sd_joins (w := 0) ih (by omega) (by decide)) (by omega) (by decide)
/-- a pass that changes nothing has found nothing to join -/
theorem st_seaP {u : hy_T} (hin : se_in u) : ∀ n : Nat, n ≤ 64 → (mf_seaP u n).1 = false → ∀ f : Nat, f < n → (mf_joins u f (pa_beside (f : Int) 0)).1 = false ∧ (mf_joins u f (pa_beside (f : Int) 2)).1 = false
  | 0, _, _ => fun f hf => absurd hf (Nat.not_lt_zero f)
  | n + 1, hn, h => by
    obtain ⟨i1, i2, i3, i4, i5⟩ := mf_seaP_s hin n (by omega)
    have hb0 := pa_beside_in (f := (n : Int)) (by omega) 0
    obtain ⟨j1, j2, j3, j4, j5⟩ := mf_joins_s (a := n) (b := pa_beside n 0) (by omega) hb0 i2
    have f1 : (mf_seaP u (n + 1)).1 = ((mf_joins (mf_joins (mf_seaP u n).2 n (pa_beside n 0)).2 n (pa_beside n 2)).1 || ((mf_joins (mf_seaP u n).2 n (pa_beside n 0)).1 || (mf_seaP u n).1)) := rfl
    rw [f1, Bool.or_eq_false_iff, Bool.or_eq_false_iff] at h
    obtain ⟨h1, h2, h3⟩ := h
    rw [j3 h2, i3 h3] at h1
    rw [i3 h3] at h2
    intro f hf
    rcases Nat.lt_succ_iff_lt_or_eq.mp hf with x | x
    · exact st_seaP hin n (by omega) h3 f x
    · rw [x]
      exact ⟨h2, h1⟩
def sd_S (L : Nat → Int) : Prop := ∀ f w : Nat, f < 64 → (w = 0 ∨ w = 2) → pa_beside (f : Int) (w : Int) = -1 ∨ L f = -1 ∨ L (pa_beside (f : Int) (w : Int)).toNat = -1 ∨ L f = L (pa_beside (f : Int) (w : Int)).toNat
theorem joins_no {u : hy_T} {f : Nat} {b : Int} (h : (mf_joins u f b).1 = false) : b = -1 ∨ u 102 f = -1 ∨ u 102 b.toNat = -1 ∨ u 102 f = u 102 b.toNat := by
  unfold mf_joins at h
  split at h
  · next hc =>
    rw [Int.toNat_natCast] at hc
    exact hc
  · cases h
theorem sd_fix {M : Nat → Bool} : ∀ (N : Nat) {u : hy_T}, se_in u → sd_L M (u 102) → pc_sum (u 102) 64 + 64 < N → sd_L M (mf_fix N u 102) ∧ sd_S (mf_fix N u 102)
  | 0, u, hin, h, hs => by
    have := (pc_sum_le (C := u 102) 64 hin).1
    omega
  | N + 1, u, hin, h, hs => by
    obtain ⟨i1, i2, i3, i4, i5⟩ := mf_seaP_s hin 64 (Nat.le_refl _)
    simp only [mf_fix]
    by_cases hx : (mf_seaP u 64).1 = true
    · rw [if_pos hx]
      have := i5 hx
      exact sd_fix N i2 (sd_seaP h 64 (Nat.le_refl _)) (by omega)
    · rw [if_neg hx]
      have hx : (mf_seaP u 64).1 = false := by simpa using hx
      rw [i3 hx]
      refine ⟨h, fun f w hf hw => ?_⟩
      obtain ⟨s1, s2⟩ := st_seaP hin 64 (Nat.le_refl _) hx f hf
      rcases hw with rfl | rfl
      · exact joins_no s1
      · exact joins_no s2
/-- labels are the same in one sea -/
theorem sd_nb {M : Nat → Bool} {L : Nat → Int} (h : sd_L M L) (s : sd_S L) {f g : Nat} (hf : f < 64) (hg : g < 64) {w : Nat} (hw : w < 4) (hb : pa_beside (f : Int) (w : Int) = (g : Int)) (mf : M f = true) (mg : M g = true) : L f = L g := by
  have lf := ((h f hf).1 mf).1
  have lg := ((h g hg).1 mg).1
  have key : ∀ {x y v : Nat}, x < 64 → (v = 0 ∨ v = 2) → pa_beside (x : Int) (v : Int) = (y : Int) → 0 ≤ L x → 0 ≤ L y → L x = L y := fun {x y v} hx hv hxy h1 h2 => by
    rcases s x v hx hv with z | z | z | z
    · omega
    · omega
    · rw [hxy, Int.toNat_natCast] at z
      omega
    · rw [hxy, Int.toNat_natCast] at z
      exact z
  obtain ⟨v, v1, v2⟩ := bs_back hf hw hb
  have hw4 : w = 0 ∨ w = 1 ∨ w = 2 ∨ w = 3 := by omega
  rcases hw4 with rfl | rfl | rfl | rfl
  · exact key hf (.inl rfl) hb lf.1 lg.1
  · refine (key hg (v := 0) (.inl rfl) ?_ lg.1 lf.1).symm
    unfold pa_beside at hb ⊢
    rw [if_neg (by decide), if_pos (by decide)] at hb
    rw [if_pos (by decide)]
    split at hb
    · rw [if_pos (by omega)]
      omega
    · omega
  · exact key hf (.inr rfl) hb lf.1 lg.1
  · refine (key hg (v := 2) (.inr rfl) ?_ lg.1 lf.1).symm
    unfold pa_beside at hb ⊢
    rw [if_neg (by decide), if_neg (by decide), if_neg (by decide)] at hb
    rw [if_neg (by decide), if_neg (by decide), if_pos (by decide)]
    split at hb
    · rw [if_pos (by omega)]
      omega
    · omega
theorem sd_cn {M : Nat → Bool} {L : Nat → Int} (h : sd_L M L) (s : sd_S L) {a f : Nat} (ha : a < 64) (ma : M a = true) (k : cn M a f) : L f = L a := by
  refine cn.ind (fun f => L f = L a) rfl (fun g w k0 ih hf hw hb hm => ?_) k
  · have hin := pa_beside_in (f := (g : Int)) (by omega) w
    rw [← ih]
    exact (sd_nb h s hf (show (pa_beside (g : Int) (w : Int)).toNat < 64 by omega) hw (by omega) (cn_M ma k0) hm).symm
/-! the class's filling -/
abbrev fw_I (M : Nat → Bool) (t0 T : hy_T) (f : Nat) (w z : Int) : Prop := (∀ g : Nat, g < 64 → (T 53 g ≠ 0 ↔ M g = true)) ∧ (∀ g : Nat, g < 64 → T 54 g = 0 ∨ T 54 g = 1) ∧ (∀ g : Nat, g < 64 → t0 54 g ≠ 0 → T 54 g ≠ 0) ∧ (∀ g : Nat, g < 64 → T 54 g ≠ 0 → t0 54 g ≠ 0 ∨ cn M f g) ∧ (pc_sum (T 54) 64 = pc_sum (t0 54) 64 + z + w) ∧ (∀ i : Nat, (i : Int) < w → i < 64 → (0 ≤ T 56 i ∧ T 56 i < 64) ∧ cn M f (T 56 i).toNat) ∧ (T 54 f ≠ 0) ∧ (0 ≤ w ∧ w ≤ 64) ∧ (0 ≤ z) ∧ (0 ≤ pc_sum (t0 54) 64)
theorem fw_I.m {M : Nat → Bool} {t0 T : hy_T} {f : Nat} {w z : Int} (h : fw_I M t0 T f w z) : ∀ g : Nat, g < 64 → (T 53 g ≠ 0 ↔ M g = true) := h.1
theorem fw_I.d {M : Nat → Bool} {t0 T : hy_T} {f : Nat} {w z : Int} (h : fw_I M t0 T f w z) : ∀ g : Nat, g < 64 → T 54 g = 0 ∨ T 54 g = 1 := h.2.1
theorem fw_I.f1 {M : Nat → Bool} {t0 T : hy_T} {f : Nat} {w z : Int} (h : fw_I M t0 T f w z) : ∀ g : Nat, g < 64 → t0 54 g ≠ 0 → T 54 g ≠ 0 := h.2.2.1
theorem fw_I.f2 {M : Nat → Bool} {t0 T : hy_T} {f : Nat} {w z : Int} (h : fw_I M t0 T f w z) : ∀ g : Nat, g < 64 → T 54 g ≠ 0 → t0 54 g ≠ 0 ∨ cn M f g := h.2.2.2.1
theorem fw_I.f4 {M : Nat → Bool} {t0 T : hy_T} {f : Nat} {w z : Int} (h : fw_I M t0 T f w z) : pc_sum (T 54) 64 = pc_sum (t0 54) 64 + z + w := h.2.2.2.2.1
theorem fw_I.f5 {M : Nat → Bool} {t0 T : hy_T} {f : Nat} {w z : Int} (h : fw_I M t0 T f w z) : ∀ i : Nat, (i : Int) < w → i < 64 → (0 ≤ T 56 i ∧ T 56 i < 64) ∧ cn M f (T 56 i).toNat := h.2.2.2.2.2.1
theorem fw_I.f6 {M : Nat → Bool} {t0 T : hy_T} {f : Nat} {w z : Int} (h : fw_I M t0 T f w z) : T 54 f ≠ 0 := h.2.2.2.2.2.2.1
theorem fw_I.w0 {M : Nat → Bool} {t0 T : hy_T} {f : Nat} {w z : Int} (h : fw_I M t0 T f w z) : 0 ≤ w ∧ w ≤ 64 := h.2.2.2.2.2.2.2.1
theorem fw_I.z0 {M : Nat → Bool} {t0 T : hy_T} {f : Nat} {w z : Int} (h : fw_I M t0 T f w z) : 0 ≤ z := h.2.2.2.2.2.2.2.2.1
theorem fw_I.c0 {M : Nat → Bool} {t0 T : hy_T} {f : Nat} {w z : Int} (h : fw_I M t0 T f w z) : 0 ≤ pc_sum (t0 54) 64 := h.2.2.2.2.2.2.2.2.2
/-- what is done and waits no more has its neighbours done -/
def fw_3 (M : Nat → Bool) (t0 T : hy_T) (w : Int) (g : Nat) : Prop := T 54 g ≠ 0 → t0 54 g ≠ 0 ∨ (∃ i : Nat, (i : Int) < w ∧ i < 64 ∧ T 56 i = (g : Int)) ∨ ∀ v : Nat, v < 4 → pa_beside (g : Int) (v : Int) ≠ -1 → M (pa_beside (g : Int) (v : Int)).toNat = true → T 54 (pa_beside (g : Int) (v : Int)).toNat ≠ 0
theorem sum_01 {C : Nat → Int} (h : ∀ g : Nat, g < 64 → C g = 0 ∨ C g = 1) : 0 ≤ pc_sum C 64 ∧ pc_sum C 64 ≤ 64 := by
  have := pc_sum_le (C := C) (lo := 0) (hi := 1) 64 (fun g hg => by
    rcases h g hg with x | x <;> omega)
  omega
theorem sum_lt {C : Nat → Int} (h : ∀ g : Nat, g < 64 → C g = 0 ∨ C g = 1) {k : Nat} (hk : k < 64) (h0 : C k = 0) : pc_sum C 64 ≤ 63 := by
  have e := pc_sum_su C k 1 64
  rw [if_pos hk, h0] at e
  have := (sum_01 (C := su C k 1) (fun g hg => by
    simp only [su]
    split
    · exact .inr rfl
    · exact h g hg)).2
  omega
/-- one field is pushed -/
theorem fw_push {M : Nat → Bool} {t0 T : hy_T} {f : Nat} {w z : Int} (I : fw_I M t0 T f w z) {g : Nat} (hg : g < 64) (h0 : T 54 g = 0) (k : cn M f g) : pa_push T (g : Int) w = (hy_up (hy_up T 54 g 1) 56 w.toNat (g : Int), w + 1) ∧ fw_I M t0 (pa_push T (g : Int) w).1 f (pa_push T (g : Int) w).2 z ∧ (∀ x : Nat, (pa_push T (g : Int) w).1 54 x = if x = g then 1 else T 54 x) ∧ (∀ i : Nat, (pa_push T (g : Int) w).1 56 i = if i = w.toNat then (g : Int) else T 56 i) ∧ (pa_push T (g : Int) w).2 = w + 1 ∧ w < 64 := by
  have s := sum_lt I.d hg h0
  have f4 := I.f4
  have z0 := I.z0
  have c0 := I.c0
  have hw : w < 64 := by omega
  have w0 := I.w0
  have e : pa_push T (g : Int) w = (hy_up (hy_up T 54 g 1) 56 w.toNat (g : Int), w + 1) := by
    unfold pa_push
    rw [if_pos (by omega), Int.toNat_natCast]
  have e54 : ∀ x : Nat, (pa_push T (g : Int) w).1 54 x = if x = g then 1 else T 54 x := fun x => by
    rw [e]
    show hy_up (hy_up T 54 g 1) 56 w.toNat (g : Int) 54 x = _
    rw [hy_up_ne (by decide)]
    simp only [hy_up, true_and]
  have e56 : ∀ i : Nat, (pa_push T (g : Int) w).1 56 i = if i = w.toNat then (g : Int) else T 56 i := fun i => by
    rw [e]
    simp only [hy_up, true_and]
    rw [if_neg (show ¬ ((56 : Nat) = 54 ∧ i = g) from fun x => absurd x.1 (by decide))]
  have e53 : ∀ x : Nat, (pa_push T (g : Int) w).1 53 x = T 53 x := fun x => by
    rw [e]
    show hy_up (hy_up T 54 g 1) 56 w.toNat (g : Int) 53 x = _
    rw [hy_up_ne (by decide), hy_up_ne (by decide)]
  have ew : (pa_push T (g : Int) w).2 = w + 1 := by rw [e]
  refine ⟨e, ⟨fun x hx => by rw [e53]; exact I.m x hx, fun x hx => ?_, fun x hx hd => ?_, fun x hx hd => ?_, ?_, fun i hi h64 => ?_, ?_, by omega, z0, c0⟩, e54, e56, ew, hw⟩
  · rw [e54]
    split
    · exact .inr rfl
    · exact I.d x hx
  · rw [e54]
    split
    · decide
    · exact I.f1 x hx hd
  · rw [e54] at hd
    by_cases ex : x = g
    · rw [ex]
      exact .inr k
    · rw [if_neg ex] at hd
      exact I.f2 x hx hd
  · have er : (pa_push T (g : Int) w).1 54 = su (T 54) g 1 := funext fun x => by
      rw [e54]
      rfl
    rw [er, pc_sum_su, if_pos hg, h0, ew]
    omega
  · rw [e56]
    by_cases ei : i = w.toNat
    · rw [if_pos ei, Int.toNat_natCast]
      exact ⟨by omega, k⟩
    · rw [if_neg ei]
      rw [ew] at hi
      exact I.f5 i (by omega) h64
  · rw [e54]
    split
    · decide
    · exact I.f6
/-- the sides of a field -/
theorem fw_side {M : Nat → Bool} {t0 T : hy_T} {f : Nat} {w z : Int} (I : fw_I M t0 T f w z) {x : Nat} (hx : x < 64) (kx : cn M f x) (h3 : ∀ g : Nat, g < 64 → g ≠ x → fw_3 M t0 T w g) : ∀ n : Nat, n ≤ 4 → fw_I M t0 (pa_side T (x : Int) w n).1 f (pa_side T (x : Int) w n).2 z ∧ (∀ g : Nat, g < 64 → g ≠ x → fw_3 M t0 (pa_side T (x : Int) w n).1 (pa_side T (x : Int) w n).2 g) ∧ ∀ v : Nat, v < n → pa_beside (x : Int) (v : Int) ≠ -1 → M (pa_beside (x : Int) (v : Int)).toNat = true → (pa_side T (x : Int) w n).1 54 (pa_beside (x : Int) (v : Int)).toNat ≠ 0
  | 0, _ => ⟨I, h3, fun v hv => absurd hv (Nat.not_lt_zero v)⟩
  | n + 1, hn => by
    obtain ⟨J, j3, jv⟩ := fw_side I hx kx h3 n (by omega)
    have hb := pa_beside_in (f := (x : Int)) (by omega) n
    simp only [pa_side]
    generalize hp : pa_side T (x : Int) w n = p at J j3 jv ⊢
    by_cases hc : 0 ≤ pa_beside (x : Int) (n : Int) ∧ p.1 53 (pa_beside (x : Int) (n : Int)).toNat ≠ 0 ∧ p.1 54 (pa_beside (x : Int) (n : Int)).toNat = 0
    · rw [if_pos hc]
      obtain ⟨c1, c2, c3⟩ := hc
      generalize hg : (pa_beside (x : Int) (n : Int)).toNat = g at c2 c3
      have eb : pa_beside (x : Int) (n : Int) = (g : Int) := by omega
      have g64 : g < 64 := by omega
      have mg := (J.m g g64).mp c2
      have kg : cn M f g := cn_tr kx (cn_1 hx (by omega) eb mg)
      rw [eb]
      obtain ⟨-, K, e54, e56, ew, hw⟩ := fw_push J g64 c3 kg
      have J0 := J.w0
      refine ⟨K, fun y hy hne hd => ?_, fun v hv hb2 hm => ?_⟩
      · rw [e54] at hd
        by_cases ey : y = g
        · refine .inr (.inl ⟨p.2.toNat, by rw [ew]; omega, by omega, ?_⟩)
          rw [e56, if_pos rfl, ey]
        · rw [if_neg ey] at hd
          rcases j3 y hy hne hd with a | ⟨i, i1, i2, i3⟩ | a
          · exact .inl a
          · refine .inr (.inl ⟨i, by rw [ew]; omega, i2, ?_⟩)
            rw [e56, if_neg (by omega)]
            exact i3
          · refine .inr (.inr (fun v hv hb2 hm => ?_))
            rw [e54]
            split
            · decide
            · exact a v hv hb2 hm
      · rw [e54]
        split
        · decide
        · next hne =>
          rcases Nat.lt_succ_iff_lt_or_eq.mp hv with a | a
          · exact jv v a hb2 hm
          · rw [a, hg] at hne
            exact absurd rfl hne
    · rw [if_neg hc]
      refine ⟨J, j3, fun v hv hb2 hm => ?_⟩
      rcases Nat.lt_succ_iff_lt_or_eq.mp hv with a | a
      · exact jv v a hb2 hm
      · rw [a] at hb2 hm ⊢
        intro h0
        exact hc ⟨by omega, (J.m _ (by omega)).mpr hm, h0⟩
theorem fw_fill {M : Nat → Bool} {t0 : hy_T} {f : Nat} (hf : f < 64) : ∀ (n : Nat) {T : hy_T} {w z : Int}, fw_I M t0 T f w z → (∀ g : Nat, g < 64 → fw_3 M t0 T w g) → z + n = 64 → fw_I M t0 (pa_fillN n T w z).1 f 0 (pa_fillN n T w z).2 ∧ ∀ g : Nat, g < 64 → fw_3 M t0 (pa_fillN n T w z).1 0 g
  | 0, T, w, z, I, h3, hz => by
    have s := (sum_01 I.d).2
    have f4 := I.f4
    have c0 := I.c0
    have w0 := I.w0
    obtain rfl : w = 0 := by omega
    exact ⟨I, h3⟩
  | n + 1, T, w, z, I, h3, hz => by
    simp only [pa_fillN]
    by_cases hw : 0 < w
    · rw [if_pos hw]
      have w0 := I.w0
      have z0 := I.z0
      obtain ⟨x1, x2⟩ := I.f5 (w - 1).toNat (by omega) (by omega)
      generalize hx : (T 56 (w - 1).toNat).toNat = x at x2
      have ex : T 56 (w - 1).toNat = (x : Int) := by omega
      rw [ex]
      have I2 : fw_I M t0 T f (w - 1) (z + 1) := ⟨I.m, I.d, I.f1, I.f2, by have := I.f4; omega, fun i hi h64 => I.f5 i (by omega) h64, I.f6, by omega, by omega, I.c0⟩
      have h32 : ∀ g : Nat, g < 64 → g ≠ x → fw_3 M t0 T (w - 1) g := fun g hg hne hd => by
        rcases h3 g hg hd with a | ⟨i, i1, i2, i3⟩ | a
        · exact .inl a
        · by_cases ei : i = (w - 1).toNat
          · rw [ei, ex] at i3
            exact absurd (by omega) hne
          · exact .inr (.inl ⟨i, by omega, i2, i3⟩)
        · exact .inr (.inr a)
      obtain ⟨J, j3, jv⟩ := fw_side I2 (by omega) x2 h32 4 (Nat.le_refl _)
      refine fw_fill hf n J (fun g hg => ?_) (by omega)
      by_cases eg : g = x
      · rw [eg]
        exact fun _ => .inr (.inr (fun v hv => jv v hv))
      · exact j3 g hg eg
    · rw [if_neg hw]
      have w0 := I.w0
      obtain rfl : w = 0 := by omega
      exact ⟨I, h3⟩
theorem fw_all {M : Nat → Bool} {t0 : hy_T} {f : Nat} (hf : f < 64) (hmf : M f = true) (hm : ∀ g : Nat, g < 64 → (t0 53 g ≠ 0 ↔ M g = true)) (hd : ∀ g : Nat, g < 64 → t0 54 g = 0 ∨ t0 54 g = 1) (h0 : t0 54 f = 0) (hc : ∀ g v : Nat, g < 64 → v < 4 → t0 54 g ≠ 0 → pa_beside (g : Int) (v : Int) ≠ -1 → M (pa_beside (g : Int) (v : Int)).toNat = true → t0 54 (pa_beside (g : Int) (v : Int)).toNat ≠ 0) : (∀ g : Nat, g < 64 → ((pa_fill t0 (f : Int)).1 54 g ≠ 0 ↔ t0 54 g ≠ 0 ∨ cn M f g)) ∧ (∀ g : Nat, g < 64 → (pa_fill t0 (f : Int)).1 54 g = 0 ∨ (pa_fill t0 (f : Int)).1 54 g = 1) ∧ (pa_fill t0 (f : Int)).2 = pc_sum ((pa_fill t0 (f : Int)).1 54) 64 - pc_sum (t0 54) 64 := by
  have s := (sum_01 hd).1
  -- the first field
  have e : pa_push t0 (f : Int) 0 = (hy_up (hy_up t0 54 f 1) 56 0 (f : Int), 1) := by
    unfold pa_push
    rw [if_pos (by omega), Int.toNat_natCast]
    rfl
  have e54 : ∀ x : Nat, (pa_push t0 (f : Int) 0).1 54 x = if x = f then 1 else t0 54 x := fun x => by
    rw [e]
    show hy_up (hy_up t0 54 f 1) 56 0 (f : Int) 54 x = _
    rw [hy_up_ne (by decide)]
    simp only [hy_up, true_and]
  have e56 : (pa_push t0 (f : Int) 0).1 56 0 = (f : Int) := by
    rw [e]
    simp [hy_up]
  have e53 : ∀ x : Nat, (pa_push t0 (f : Int) 0).1 53 x = t0 53 x := fun x => by
    rw [e]
    show hy_up (hy_up t0 54 f 1) 56 0 (f : Int) 53 x = _
    rw [hy_up_ne (by decide), hy_up_ne (by decide)]
  have ew : (pa_push t0 (f : Int) 0).2 = 1 := by rw [e]
  have I : fw_I M t0 (pa_push t0 (f : Int) 0).1 f 1 0 := by
    refine ⟨fun g hg => by rw [e53]; exact hm g hg, fun g hg => ?_, fun g hg hx => ?_, fun g hg hx => ?_, ?_, fun i hi h64 => ?_, ?_, by decide, by decide, s⟩
    · rw [e54]
      split
      · exact .inr rfl
      · exact hd g hg
    · rw [e54]
      split
      · decide
      · exact hx
    · rw [e54] at hx
      by_cases eg : g = f
      · rw [eg]
        exact .inr cn.z
      · rw [if_neg eg] at hx
        exact .inl hx
    · have er : (pa_push t0 (f : Int) 0).1 54 = su (t0 54) f 1 := funext fun x => by
        rw [e54]
        rfl
      rw [er, pc_sum_su, if_pos hf, h0]
      omega
    · have ei : i = 0 := by omega
      rw [ei, e56, Int.toNat_natCast]
      exact ⟨by omega, cn.z⟩
    · rw [e54, if_pos rfl]
      decide
  have h3 : ∀ g : Nat, g < 64 → fw_3 M t0 (pa_push t0 (f : Int) 0).1 1 g := fun g hg hx => by
    rw [e54] at hx
    by_cases eg : g = f
    · exact .inr (.inl ⟨0, by decide, by decide, by rw [e56, eg]⟩)
    · rw [if_neg eg] at hx
      exact .inl hx
  unfold pa_fill
  rw [ew]
  obtain ⟨J, j3⟩ := fw_fill hf 64 I h3 (by decide)
  refine ⟨fun g hg => ⟨J.f2 g hg, fun x => ?_⟩, J.d, by have := J.f4; omega⟩
  rcases x with x | k
  · exact J.f1 g hg x
  · have step : ∀ {y : Nat}, cn M f y → y < 64 → (pa_fillN 64 (pa_push t0 (f : Int) 0).1 1 0).1 54 y ≠ 0 := fun {y} k => by
      refine cn.ind (fun y => y < 64 → (pa_fillN 64 (pa_push t0 (f : Int) 0).1 1 0).1 54 y ≠ 0) (fun _ => J.f6) (fun y' v k0 ih hy hv hb hmm => ?_) k
      intro h64
      rcases j3 y' hy (ih hy) with a | ⟨i, i1, -⟩ | a
      · exact J.f1 _ h64 (hc y' v hy hv a hb hmm)
      · omega
      · exact a v hv hb hmm
    exact step k hg
/-! both sides -/
theorem cnt_sum {A B S : Nat → Int} {f : Int} : ∀ n : Nat, (∀ g : Nat, g < n → A g - B g = if S g = f then 1 else 0) → pc_sum A n - pc_sum B n = ma_cntN S f n
  | 0, _ => rfl
  | n + 1, h => by
    have ih := cnt_sum n (fun g hg => h g (by omega))
    have h1 := h n (Nat.lt_succ_self n)
    simp only [pc_sum, ma_cntN]
    omega
abbrev se_I (M : Nat → Bool) (L : Nat → Int) (S : hy_T) (n : Nat) : Prop := (∀ g : Nat, g < 64 → (S 53 g ≠ 0 ↔ M g = true)) ∧ (∀ g : Nat, g < 64 → S 54 g = 0 ∨ S 54 g = 1) ∧ (∀ g : Nat, g < 64 → (S 54 g ≠ 0 ↔ 0 ≤ L g ∧ L g < (n : Int))) ∧ (S 52 4 = ma_seaN L n) ∧ (S 52 5 = ma_mostN L n)
theorem se_I.m {M : Nat → Bool} {L : Nat → Int} {S : hy_T} {n : Nat} (h : se_I M L S n) : ∀ g : Nat, g < 64 → (S 53 g ≠ 0 ↔ M g = true) := h.1
theorem se_I.d {M : Nat → Bool} {L : Nat → Int} {S : hy_T} {n : Nat} (h : se_I M L S n) : ∀ g : Nat, g < 64 → S 54 g = 0 ∨ S 54 g = 1 := h.2.1
theorem se_I.l {M : Nat → Bool} {L : Nat → Int} {S : hy_T} {n : Nat} (h : se_I M L S n) : ∀ g : Nat, g < 64 → (S 54 g ≠ 0 ↔ 0 ≤ L g ∧ L g < (n : Int)) := h.2.2.1
theorem se_I.c {M : Nat → Bool} {L : Nat → Int} {S : hy_T} {n : Nat} (h : se_I M L S n) : S 52 4 = ma_seaN L n := h.2.2.2.1
theorem se_I.b {M : Nat → Bool} {L : Nat → Int} {S : hy_T} {n : Nat} (h : se_I M L S n) : S 52 5 = ma_mostN L n := h.2.2.2.2
theorem se_all {M : Nat → Bool} {L : Nat → Int} (h : sd_L M L) (s : sd_S L) {S : hy_T} (hm : ∀ g : Nat, g < 64 → (S 53 g ≠ 0 ↔ M g = true)) : ∀ n : Nat, n ≤ 64 → se_I M L (pa_seaN S n) n
  | 0, _ => by
    obtain ⟨v1, v2⟩ := forget_v S 64
    have e54 : ∀ g : Nat, g < 64 → pa_seaN S 0 54 g = 0 := fun g hg => by
      simp only [pa_seaN]
      rw [hy_up_ne (by decide), hy_up_ne (by decide)]
      exact (v1 g hg).1
    have e53 : ∀ g : Nat, pa_seaN S 0 53 g = S 53 g := fun g => by
      simp only [pa_seaN]
      rw [hy_up_ne (by decide), hy_up_ne (by decide)]
      exact v2 g
    refine ⟨fun g hg => by rw [e53]; exact hm g hg, fun g hg => .inl (e54 g hg), fun g hg => ⟨fun x => absurd (e54 g hg) x, fun x => by omega⟩, ?_, ?_⟩
    · simp [pa_seaN, hy_up, ma_seaN]
    · simp [pa_seaN, hy_up, ma_mostN]
  | n + 1, hn => by
    have I := se_all h s hm n (by omega)
    have n64 : n < 64 := by omega
    simp only [pa_seaN, ma_seaN, ma_mostN]
    generalize pa_seaN S n = T at I ⊢
    have hL := h n n64
    by_cases hc : T 53 n ≠ 0 ∧ T 54 n = 0
    · rw [if_pos hc]
      have mn := (I.m n n64).mp hc.1
      obtain ⟨l1, l2⟩ := hL.1 mn
      have en : L n = (n : Int) := by
        by_cases x : L n < (n : Int)
        · exact absurd hc.2 ((I.l n n64).mpr ⟨l1.1, x⟩)
        · omega
      -- the filling begins behind one more sea
      have u53 : ∀ g : Nat, hy_up T 52 4 (T 52 4 + 1) 53 g = T 53 g := fun g => hy_up_ne (by decide)
      have u54 : ∀ g : Nat, hy_up T 52 4 (T 52 4 + 1) 54 g = T 54 g := fun g => hy_up_ne (by decide)
      have us : pc_sum (hy_up T 52 4 (T 52 4 + 1) 54) 64 = pc_sum (T 54) 64 := by
        rw [show hy_up T 52 4 (T 52 4 + 1) 54 = T 54 from funext u54]
      obtain ⟨f1, f2, f3⟩ := fw_all (M := M) (t0 := hy_up T 52 4 (T 52 4 + 1)) n64 mn (fun g hg => by rw [u53]; exact I.m g hg) (fun g hg => by rw [u54]; exact I.d g hg) (by rw [u54]; exact hc.2) (fun g v hg hv hd hb hmm => by
        have hin := pa_beside_in (f := (g : Int)) (by omega) v
        rw [u54] at hd ⊢
        have lg := (I.l g hg).mp hd
        have mg : M g = true := by
          cases e : M g with
          | true => rfl
          | false =>
            have := (h g hg).2 e
            omega
        have := sd_nb h s hg (show (pa_beside (g : Int) (v : Int)).toNat < 64 by omega) hv (by omega) mg hmm
        exact (I.l _ (by omega)).mpr (by omega))
      have F : hy_F (fun r _ => r == 54 || r == 56) (hy_up T 52 4 (T 52 4 + 1)) (pa_fill (hy_up T 52 4 (T 52 4 + 1)) (n : Int)).1 := by
        have pushF : ∀ (X : hy_T) (a b : Int), hy_F (fun r _ => r == 54 || r == 56) X (pa_push X a b).1 := fun X a b => by
          unfold pa_push
          split
          · exact (hy_F.rf.up rfl).up rfl
          · exact hy_F.rf
        have sideF : ∀ (X : hy_T) (a b : Int) (m : Nat), hy_F (fun r _ => r == 54 || r == 56) X (pa_side X a b m).1 := fun X a b m => by
          induction m with
          | zero => exact hy_F.rf
          | succ m ih =>
            simp only [pa_side]
            split
            · exact ih.tr' (pushF _ _ _)
            · exact ih
        have fillF : ∀ (m : Nat) (X : hy_T) (a b : Int), hy_F (fun r _ => r == 54 || r == 56) X (pa_fillN m X a b).1 := fun m => by
          induction m with
          | zero => exact fun X a b => hy_F.rf
          | succ m ih =>
            intro X a b
            simp only [pa_fillN]
            split
            · exact (sideF _ _ _ _).tr' (ih _ _ _)
            · exact hy_F.rf
        unfold pa_fill
        exact (pushF _ _ _).tr' (fillF _ _ _ _)
      generalize hp : pa_fill (hy_up T 52 4 (T 52 4 + 1)) (n : Int) = p at f1 f2 f3 F ⊢
      have i54 : ∀ g : Nat, g < 64 → (p.1 54 g ≠ 0 ↔ 0 ≤ L g ∧ L g < ((n + 1 : Nat) : Int)) := fun g hg => by
        rw [f1 g hg, u54, I.l g hg]
        constructor
        · intro x
          rcases x with x | x
          · omega
          · have := sd_cn h s n64 mn x
            omega
        · intro x
          by_cases y : L g < (n : Int)
          · exact .inl ⟨x.1, y⟩
          · refine .inr ?_
            have mg : M g = true := by
              cases e : M g with
              | true => rfl
              | false =>
                have := (h g hg).2 e
                omega
            have k := ((h g hg).1 mg).2
            rw [show (L g).toNat = n by omega] at k
            exact cn_sym mg k
      have cnt : p.2 = ma_cntN L (n : Int) 64 := by
        rw [f3, us]
        refine cnt_sum 64 (fun g hg => ?_)
        have a := i54 g hg
        have b := I.l g hg
        have c := f2 g hg
        have d := I.d g hg
        by_cases e : L g = (n : Int)
        · rw [if_pos e]
          have a2 := a.mpr (by omega)
          have b2 : ¬ T 54 g ≠ 0 := fun x => by have := b.mp x; omega
          omega
        · rw [if_neg e]
          by_cases y : T 54 g ≠ 0
          · have := a.mpr (by have := b.mp y; omega)
            omega
          · have : ¬ p.1 54 g ≠ 0 := fun x => y (b.mpr (by have := a.mp x; omega))
            omega
      have g1 : ma_seaN L (n + 1) = ma_seaN L n + 1 := by
        simp only [ma_seaN]
        rw [if_pos en]
      have g2 : ma_mostN L (n + 1) = if ma_cntN L (n : Int) 64 < ma_mostN L n then ma_mostN L n else ma_cntN L (n : Int) 64 := by
        simp only [ma_mostN]
        rw [if_pos en]
      refine ⟨fun g hg => ?_, fun g hg => ?_, fun g hg => ?_, ?_, ?_⟩
      · rw [hy_up_ne (by decide), F 53 g rfl, u53]
        exact I.m g hg
      · rw [hy_up_ne (by decide)]
        exact f2 g hg
      · rw [hy_up_ne (by decide)]
        exact i54 g hg
      · show hy_up p.1 52 5 _ 52 4 = _
        rw [show ∀ v, hy_up p.1 52 5 v 52 4 = p.1 52 4 from fun v => by simp [hy_up], F 52 4 rfl, g1, ← I.c]
        simp [hy_up]
      · rw [show ∀ v, hy_up p.1 52 5 v 52 5 = v from fun v => by simp [hy_up]]
        have e5 : hy_up T 52 4 (T 52 4 + 1) 52 5 = ma_mostN L n := by
          rw [← I.b]
          simp [hy_up]
        rw [e5, cnt, g2]
        by_cases x : ma_mostN L n < ma_cntN L (n : Int) 64
        · rw [if_pos x, if_neg (by omega)]
        · rw [if_neg x]
          by_cases y : ma_cntN L (n : Int) 64 < ma_mostN L n
          · rw [if_pos y]
          · rw [if_neg y]
            omega
    · rw [if_neg hc]
      have en : ¬ L n = (n : Int) := fun x => by
        have mn : M n = true := by
          cases e : M n with
          | true => rfl
          | false =>
            have := hL.2 e
            omega
        refine hc ⟨(I.m n n64).mpr mn, ?_⟩
        rcases I.d n n64 with y | y
        · exact y
        · have := (I.l n n64).mp (by omega)
          omega
      have g1 : ma_seaN L (n + 1) = ma_seaN L n := by
        simp only [ma_seaN]
        rw [if_neg en]
        omega
      have g2 : ma_mostN L (n + 1) = ma_mostN L n := by
        simp only [ma_mostN]
        rw [if_neg en]
      refine ⟨I.m, I.d, fun g hg => ?_, by rw [g1]; exact I.c, by rw [g2]; exact I.b⟩
      rw [I.l g hg]
      constructor
      · intro x
        omega
      · intro x
        refine ⟨x.1, ?_⟩
        by_cases y : L g = (n : Int)
        · exfalso
          have mg : M g = true := by
            cases e : M g with
            | true => rfl
            | false =>
              have := (h g hg).2 e
              omega
          have k := ((h g hg).1 mg).2
          rw [show (L g).toNat = n by omega] at k
          have := sd_cn h s hg mg k
          exact en (by omega)
        · omega
theorem ash_n {M : Nat → Bool} {L : Nat → Int} (h : sd_L M L) {t1 : hy_T} (hm : ∀ g : Nat, g < 64 → (lk (t1 46) (t1 9 g) = 12 ↔ M g = true)) : ∀ n : Nat, n ≤ 64 → wf_ashes t1 n = ma_allN L n
  | 0, _ => rfl
  | n + 1, hn => by
    simp only [wf_ashes, ma_allN]
    rw [ash_n h hm n (by omega)]
    have a := hm n (by omega)
    have b := h n (by omega)
    by_cases e : M n = true
    · have := (b.1 e).1
      rw [if_pos (a.mpr e), if_neg (by omega)]
    · rw [if_neg (fun x => e (a.mp x)), if_pos (b.2 (by simpa using e))]
theorem ashN_v (t1 : hy_T) : ∀ n : Nat, ∀ g : Nat, g < n → wf_ashN t1 n 53 g = if lk (t1 46) (t1 9 g) = 12 then 1 else 0
  | 0, g, hg => absurd hg (Nat.not_lt_zero g)
  | n + 1, g, hg => by
    simp only [wf_ashN]
    by_cases e : g = n
    · rw [e]
      simp [hy_up]
    · rw [show ∀ v, hy_up (wf_ashN t1 n) 53 n v 53 g = wf_ashN t1 n 53 g from fun v => by simp [hy_up, e]]
      exact ashN_v t1 n g (by omega)
theorem fr_ash {t t1 t2 : hy_T} {e q w : Int} {r1 r2 : Option Int} (h : fr t) (m : mK t) (F : hy_F asX t t1) (q1 : if ((0 ≤ e ∧ e < 6) ∧ 0 ≤ q ∧ q < 4) ∧ 0 ≤ w ∧ w < 3 then ∃ u : hy_T, hy_F lX t u ∧ u 46 = wf_as t e q ∧ t1 = pa_seaN (wf_ashN u 64) 64 ∧ r1 = some (if w = 0 then wf_ashes u 64 else if w = 1 then t1 52 5 else t1 52 4) else r1 = some (-1) ∧ t1 = t) (q2 : r2 = some (if ma_c e q w then ma_ans (t2 102) w else -1)) (q3 : ma_c e q w → ∃ v : hy_T, hy_F meX t1 v ∧ (∀ j : Nat, j ≤ 12 → v 79 j = mq_as t1 e q j) ∧ t2 = mf_fix 5000 (mf_sea0N v 64)) : r2 = r1 := by
  have hX : ∀ r j, 59 ≤ r → asX r j = false := fun r j q => by simp only [asX, Bool.or_eq_true, Bool.and_eq_true, decide_eq_true_eq, decide_eq_false_iff_not, beq_iff_eq, Bool.or_eq_false_iff, Bool.and_eq_false_iff, beq_eq_false_iff_ne]; omega
  by_cases hq : ((0 ≤ e ∧ e < 6) ∧ 0 ≤ q ∧ q < 4) ∧ 0 ≤ w ∧ w < 3
  · rw [if_pos hq] at q1
    obtain ⟨u, Fu, eu, e1, hr⟩ := q1
    have hc : ma_c e q w := ⟨hq.1.1, hq.1.2, by omega⟩
    obtain ⟨v, Fv, ev, e2⟩ := q3 hc
    rw [hr, q2, if_pos hc]
    have L := fr_fe h m F hX
    have hs := (fr_seen h m F hX hq.1.2 (e := e)).1
    -- which fields are ash
    have hM : ∀ g : Nat, g < 64 → (lk (u 46) (u 9 g) = 12 ↔ decide (v 79 (v 63 g).toNat = 12) = true) := fun g hg => by
      have mg := m.mg g hg
      have e63 : v 63 g = t 63 g := (Fv 63 g rfl).trans (F 63 g (hX 63 g (by decide)))
      have e9 : u 9 g = t 63 g := (Fu 9 g rfl).trans (h.2.1.1.1 g hg)
      rw [decide_eq_true_eq, e63, eu, e9, ev _ (by omega), fe_lk L hs (by omega)]
    generalize hMd : (fun g => decide (v 79 (v 63 g).toNat = 12)) = M at *
    have hM2 : ∀ g : Nat, g < 64 → (lk (u 46) (u 9 g) = 12 ↔ M g = true) := fun g hg => by
      rw [← hMd]
      exact hM g hg
    have s0 : sd_L M (mf_sea0N v 64 102) := sd_0 v M (fun g _ => by rw [← hMd])
    have hin : se_in (mf_sea0N v 64) := fun f hf => mf_sea0N_in v 64 (Nat.le_refl _) f hf
    have hsum := (pc_sum_le (C := mf_sea0N v 64 102) 64 hin).2
    obtain ⟨d1, d2⟩ := sd_fix 5000 hin s0 (by omega)
    rw [← e2] at d1 d2
    have I := se_all d1 d2 (S := wf_ashN u 64) (fun g hg => by
      rw [ashN_v u 64 g hg, ← hM2 g hg]
      by_cases x : lk (u 46) (u 9 g) = 12
      · rw [if_pos x]
        exact ⟨fun _ => x, fun _ => by decide⟩
      · rw [if_neg x]
        exact ⟨fun y => absurd rfl y, fun y => absurd y x⟩) 64 (Nat.le_refl _)
    rw [← e1] at I
    unfold ma_ans
    rw [I.c, I.b, ash_n d1 hM2 64 (Nat.le_refl _)]
  · rw [if_neg hq] at q1
    have hc : ¬ ma_c e q w := fun g => hq ⟨⟨g.1, g.2.1⟩, by have := g.2.2; omega⟩
    rw [q1.1, q2, if_neg hc]
/-! contracts with the answers -/
section EXT
variable {sc : List Int32} {t : hy_T}
theorem k1y {a b c : Int} (k : cK t) : hy_Ct sc hm_W_have 3 [.inr (some 2), .inl a, .inl b, .inl c] t (fun r t' => (cQ (fun r _ => r == 34) t) r t' ∧ (r = some (hy_b (wf_have t a b c)) ∧ t' = if wf_have t a b c = true then sp_setH 33 t a b c else t)) := c_W_have.mono (fun r t' q => ⟨show (cQ (fun r _ => r == 34) t) r t' from by
  obtain ⟨rfl, rfl⟩ := q
  have F : hy_F (fun r _ => r == 34) t (if wf_have t a b c = true then sp_setH 33 t a b c else t) := by
    split
    · unfold sp_setH
      split
      · exact hy_F.rf.up rfl
      · exact hy_F.rf
    · exact hy_F.rf
  exact ⟨⟨_, rfl⟩, cK_F F (fun r j q => by revert q; simp only [ckX, ckT, lawX, ckN, ckS, ckP, eX, lX, pX, fX, snX, brX, wyX, paX, trX, asX, gdX, lnX, lkX, lpX, lwcX, tyX, jyX, mkX, dzX, cpX, taX, glX, Bool.or_eq_true, Bool.and_eq_true, beq_iff_eq, Bool.or_eq_false_iff, Bool.and_eq_false_iff, beq_eq_false_iff_ne]; omega) k, F⟩, q⟩)
theorem k8y {n : Int} (k : cK t) : hy_Ct sc hm_W_days 6 [.inr (some 2), .inl n] t (fun r t' => (cQ dgX t) r t' ∧ (if 1 ≤ n ∧ n ≤ 99 then r = some (t 33 3 - sp_days 33 t n 33 3) ∧ hy_F eX (sp_days 33 t n) t' else r = some (-1) ∧ t' = t)) := (c_W_days k.s1 k.lc).mono (fun r t' q => ⟨show (cQ dgX t) r t' from by
  by_cases hq : 1 ≤ n ∧ n ≤ 99
  · rw [if_pos hq] at q
    obtain ⟨rfl, F⟩ := q
    obtain ⟨s1, F1, -⟩ := sp_days_s 33 k.s1 n
    have G : hy_F dgX t t' := (F1.w (fun r j q => (Bool.or_eq_false_iff.mp q).1)).tr' (F.w (fun r j q => (Bool.or_eq_false_iff.mp q).2))
    exact ⟨⟨_, rfl⟩, cK_st1 G (fun r j q => by revert q; simp only [dgX, ckT, lawX, ckN, ckS, ckP, eX, dzX, Bool.or_eq_true, Bool.and_eq_true, beq_iff_eq, Bool.or_eq_false_iff, Bool.and_eq_false_iff, beq_eq_false_iff_ne]; omega) (st_ok_E (by decide) F s1) k, G⟩
  · rw [if_neg hq] at q
    obtain ⟨rfl, rfl⟩ := q
    exact ⟨⟨_, rfl⟩, k, hy_F.rf⟩, q⟩)
theorem k9y {n w : Int} (k : cK t) : hy_Ct sc hm_W_tried 6 [.inr (some 2), .inl n, .inl w] t (fun r t' => (cQ trX t) r t' ∧ (r = some (wf_tried t n w))) := (c_W_tried k.s1 k.lc).mono (fun r t' q => ⟨show (cQ trX t) r t' from ⟨⟨_, q.1⟩, cK_F q.2 (fun r j q => by revert q; simp only [ckX, ckT, lawX, ckN, ckS, ckP, eX, lX, pX, fX, snX, brX, wyX, paX, trX, asX, gdX, lnX, lkX, lpX, lwcX, tyX, jyX, mkX, dzX, cpX, taX, glX, Bool.or_eq_true, Bool.and_eq_true, beq_iff_eq, Bool.or_eq_false_iff, Bool.and_eq_false_iff, beq_eq_false_iff_ne]; omega) k, q.2⟩, q.1⟩)
theorem k10y {n w : Int} (k : cK t) : hy_Ct sc hm_W_treatyIs 2 [.inr (some 2), .inl n, .inl w] t (fun r t' => (cQ (fun _ _ => false) t) r t' ∧ (r = some (if (0 ≤ n ∧ n < t 33 3) ∧ 0 ≤ w ∧ w < 6 then t 36 (6 * n + w).toNat else -1))) := (c_W_treatyIs k.s1.c).mono (fun r t' q => ⟨show (cQ (fun _ _ => false) t) r t' from by
  obtain ⟨rfl, rfl⟩ := q
  exact ⟨⟨_, rfl⟩, k, hy_F.rf⟩, q.1⟩)
theorem k11y {a b c : Int} (k : cK t) : hy_Ct sc hm_W_sees 5 [.inr (some 2), .inl a, .inl b, .inl c] t (fun r t' => (cQ eX t) r t' ∧ (r = some (wf_sees t a b c))) := (c_W_sees k.lc).mono (fun r t' q => ⟨show (cQ eX t) r t' from ⟨⟨_, q.1⟩, cK_F q.2 (fun r j q => by revert q; simp only [ckX, ckT, lawX, ckN, ckS, ckP, eX, lX, pX, fX, snX, brX, wyX, paX, trX, asX, gdX, lnX, lkX, lpX, lwcX, tyX, jyX, mkX, dzX, cpX, taX, glX, Bool.or_eq_true, Bool.and_eq_true, beq_iff_eq, Bool.or_eq_false_iff, Bool.and_eq_false_iff, beq_eq_false_iff_ne]; omega) k, q.2⟩, q.1⟩)
theorem k12y {a b c : Int} (k : cK t) : hy_Ct sc hm_W_appears 5 [.inr (some 2), .inl a, .inl b, .inl c] t (fun r t' => (cQ lX t) r t' ∧ (r = some (wf_appears t a b c))) := (c_W_appears k.lc).mono (fun r t' q => ⟨show (cQ lX t) r t' from ⟨⟨_, q.1⟩, cK_F q.2 (fun r j q => by revert q; simp only [ckX, ckT, lawX, ckN, ckS, ckP, eX, lX, pX, fX, snX, brX, wyX, paX, trX, asX, gdX, lnX, lkX, lpX, lwcX, tyX, jyX, mkX, dzX, cpX, taX, glX, Bool.or_eq_true, Bool.and_eq_true, beq_iff_eq, Bool.or_eq_false_iff, Bool.and_eq_false_iff, beq_eq_false_iff_ne]; omega) k, q.2⟩, q.1⟩)
theorem k13y {a b c d : Int} (k : cK t) : hy_Ct sc hm_W_child 6 [.inr (some 2), .inl a, .inl b, .inl c, .inl d] t (fun r t' => (cQ eX t) r t' ∧ (r = some (wf_child t a b c d))) := (c_W_child k.lc).mono (fun r t' q => ⟨show (cQ eX t) r t' from ⟨⟨_, q.1⟩, cK_F q.2 (fun r j q => by revert q; simp only [ckX, ckT, lawX, ckN, ckS, ckP, eX, lX, pX, fX, snX, brX, wyX, paX, trX, asX, gdX, lnX, lkX, lpX, lwcX, tyX, jyX, mkX, dzX, cpX, taX, glX, Bool.or_eq_true, Bool.and_eq_true, beq_iff_eq, Bool.or_eq_false_iff, Bool.and_eq_false_iff, beq_eq_false_iff_ne]; omega) k, q.2⟩, q.1⟩)
theorem k14y {a b c d e : Int} (k : cK t) : hy_Ct sc hm_W_unseen 5 [.inr (some 2), .inl a, .inl b, .inl c, .inl d, .inl e] t (fun r t' => (cQ lX t) r t' ∧ (r = some (wf_unseen t a b c d e))) := (c_W_unseen k.lc).mono (fun r t' q => ⟨show (cQ lX t) r t' from ⟨⟨_, q.1⟩, cK_F q.2 (fun r j q => by revert q; simp only [ckX, ckT, lawX, ckN, ckS, ckP, eX, lX, pX, fX, snX, brX, wyX, paX, trX, asX, gdX, lnX, lkX, lpX, lwcX, tyX, jyX, mkX, dzX, cpX, taX, glX, Bool.or_eq_true, Bool.and_eq_true, beq_iff_eq, Bool.or_eq_false_iff, Bool.and_eq_false_iff, beq_eq_false_iff_ne]; omega) k, q.2⟩, q.1⟩)
theorem k16y {a b : Int} (k : cK t) : hy_Ct sc hm_W_worth 6 [.inr (some 2), .inl a, .inl b] t (fun r t' => (cQ pX t) r t' ∧ (r = some (wf_worth t a b))) := (c_W_worth k.lc).mono (fun r t' q => ⟨show (cQ pX t) r t' from ⟨⟨_, q.1⟩, cK_F q.2 (fun r j q => by revert q; simp only [ckX, ckT, lawX, ckN, ckS, ckP, eX, lX, pX, fX, snX, brX, wyX, paX, trX, asX, gdX, lnX, lkX, lpX, lwcX, tyX, jyX, mkX, dzX, cpX, taX, glX, Bool.or_eq_true, Bool.and_eq_true, beq_iff_eq, Bool.or_eq_false_iff, Bool.and_eq_false_iff, beq_eq_false_iff_ne]; omega) k, q.2⟩, q.1⟩)
theorem k19y {a b c d e : Int} (k : cK t) : hy_Ct sc hm_W_signals 6 [.inr (some 2), .inl a, .inl b, .inl c, .inl d, .inl e] t (fun r t' => (cQ snX t) r t' ∧ (r = some (wf_signals t a b c d e))) := (c_W_signals k.lc).mono (fun r t' q => ⟨show (cQ snX t) r t' from ⟨⟨_, q.1⟩, cK_F q.2 (fun r j q => by revert q; simp only [ckX, ckT, lawX, ckN, ckS, ckP, eX, lX, pX, fX, snX, brX, wyX, paX, trX, asX, gdX, lnX, lkX, lpX, lwcX, tyX, jyX, mkX, dzX, cpX, taX, glX, Bool.or_eq_true, Bool.and_eq_true, beq_iff_eq, Bool.or_eq_false_iff, Bool.and_eq_false_iff, beq_eq_false_iff_ne]; omega) k, q.2⟩, q.1⟩)
theorem k23y {a b : Int} (k : cK t) : hy_Ct sc hm_W_painting 5 [.inr (some 2), .inl a, .inl b] t (fun r t' => (cQ eX t) r t' ∧ (r = some (wf_painting t a b))) := (c_W_painting k.lc).mono (fun r t' q => ⟨show (cQ eX t) r t' from ⟨⟨_, q.1⟩, cK_F q.2 (fun r j q => by revert q; simp only [ckX, ckT, lawX, ckN, ckS, ckP, eX, lX, pX, fX, snX, brX, wyX, paX, trX, asX, gdX, lnX, lkX, lpX, lwcX, tyX, jyX, mkX, dzX, cpX, taX, glX, t1X, spX, Bool.or_eq_true, Bool.and_eq_true, beq_iff_eq, Bool.or_eq_false_iff, Bool.and_eq_false_iff, beq_eq_false_iff_ne]; omega) k, q.2⟩, q.1⟩)
theorem k25y {a : Int} (k : cK t) : hy_Ct sc hm_W_seed 1 [.inr (some 2), .inl a] t (fun r t' => (cQ (fun r j => r == 33 && j == 5) t) r t' ∧ (r = some (hy_b (wf_seed a)) ∧ t' = if wf_seed a = true then hy_up t 33 5 a else t)) := c_W_seed.mono (fun r t' q => ⟨show (cQ (fun r j => r == 33 && j == 5) t) r t' from by
  obtain ⟨rfl, rfl⟩ := q
  have F : hy_F (fun r j => r == 33 && j == 5) t (if wf_seed a = true then hy_up t 33 5 a else t) := by
    split
    · exact hy_F.rf.up rfl
    · exact hy_F.rf
  have s1 : st_ok 33 (if wf_seed a = true then hy_up t 33 5 a else t) := by
    split
    · next h => exact ⟨k.s1.c, k.s1.d, of_decide_eq_true h, k.s1.t⟩
    · exact k.s1
  exact ⟨⟨_, rfl⟩, cK_st1 F (fun r j q => by revert q; simp only [ckX, ckT, lawX, ckN, ckS, ckP, eX, lX, pX, fX, snX, brX, wyX, paX, trX, asX, gdX, lnX, lkX, lpX, lwcX, tyX, jyX, mkX, dzX, cpX, taX, glX, t1X, spX, Bool.or_eq_true, Bool.and_eq_true, beq_iff_eq, Bool.or_eq_false_iff, Bool.and_eq_false_iff, beq_eq_false_iff_ne]; omega) s1 k, F⟩, q⟩)
theorem m1y {a b c : Int} (k : mK t) : hy_Ct sc hm_M_have 3 [.inr (some 59), .inl a, .inl b, .inl c] t (fun r t' => (mQ (fun r _ => r == 62) t) r t' ∧ (r = some (hy_b (mf_have t a b c)) ∧ t' = if mf_have t a b c = true then hy_up t 62 (4 * a + b).toNat c else t)) := c_M_have.mono (fun r t' q => ⟨show (mQ (fun r _ => r == 62) t) r t' from by
  obtain ⟨rfl, rfl⟩ := q
  have F : hy_F (fun r _ => r == 62) t (if mf_have t a b c = true then hy_up t 62 (4 * a + b).toNat c else t) := by
    split
    · exact hy_F.rf.up rfl
    · exact hy_F.rf
  exact ⟨⟨_, rfl⟩, mK_F F (fun r j q => by revert q; simp only [mkAll, mkA, mlawX, mrP, mrT, mrK, mrM, mvX, meX, mlX, mfaX, stX, hvX, pwX, btX, sgX, mlsX, jdX, tdX, dsX, enX, mftX, ldrX, wmX, maX, lwX, lrX, mrX, feX, ngX, Bool.or_eq_true, Bool.and_eq_true, decide_eq_true_eq, decide_eq_false_iff_not, beq_iff_eq, Bool.or_eq_false_iff, Bool.and_eq_false_iff, beq_eq_false_iff_ne]; omega) k, F⟩, q⟩)
theorem m4y {n : Int} (k : mK t) : hy_Ct sc hm_M_law 8 [.inr (some 59), .inl n] t (fun r t' => mQ lwX t r t' ∧ (t' 59 9 = if al_nc t n then 0 else t 59 9) ∧ (if al_nc t n then al_Q t (al_law (al_B t n) n t) r t' else r = some (-1) ∧ t' = t)) := (c_M_law k.ml).mono (fun r t' q => (fun z => ⟨z.1, z.2, q.2.2⟩) (show (fun r t' => mQ lwX t r t' ∧ t' 59 9 = if al_nc t n then 0 else t 59 9) r t' from by
  obtain ⟨F, k1, q⟩ := q
  have hr : (∃ x : Int, r = some x) ∧ t' 59 9 = (if al_nc t n then 0 else t 59 9) := by
    by_cases hn : al_nc t n
    · rw [if_pos hn] at q ⊢
      revert q
      generalize al_law (al_B t n) n t = G
      intro q
      obtain ⟨q1, q2⟩ := q
      match G, q2 with
      | .inl e, q2 => exact ⟨⟨e, q2.1⟩, q1⟩
      | .inr s, q2 => exact ⟨⟨_, q2.1⟩, q1⟩
    · rw [if_neg hn] at q ⊢
      obtain ⟨rfl, rfl⟩ := q
      exact ⟨⟨_, rfl⟩, rfl⟩
  have h9 : mt_ok t' := by
    have := k.mt
    have e := hr.2
    unfold mt_ok
    split at e <;> omega
  exact ⟨⟨hr.1, ⟨⟨k1, mk_p2 F (fun r j q => by revert q; simp only [mkAll, mkA, mlawX, mrP, mrT, mrK, mrM, mvX, meX, mlX, mfaX, stX, hvX, pwX, btX, sgX, mlsX, jdX, tdX, dsX, enX, mftX, ldrX, wmX, maX, lwX, lrX, mrX, feX, ngX, Bool.or_eq_true, Bool.and_eq_true, decide_eq_true_eq, decide_eq_false_iff_not, beq_iff_eq, Bool.or_eq_false_iff, Bool.and_eq_false_iff, beq_eq_false_iff_ne]; omega) k.p2⟩, ⟨mk_mg F (fun _ => rfl) k.mg, mk_nl F (fun _ => rfl) k.nl⟩, ⟨mk_tr F (fun r j q => by revert q; simp only [mkAll, mkA, mlawX, mrP, mrT, mrK, mrM, mvX, meX, mlX, mfaX, stX, hvX, pwX, btX, sgX, mlsX, jdX, tdX, dsX, enX, mftX, ldrX, wmX, maX, lwX, lrX, mrX, feX, ngX, Bool.or_eq_true, Bool.and_eq_true, decide_eq_true_eq, decide_eq_false_iff_not, beq_iff_eq, Bool.or_eq_false_iff, Bool.and_eq_false_iff, beq_eq_false_iff_ne]; omega) k.tr, mk_kp F (fun r j q => by revert q; simp only [mkAll, mkA, mlawX, mrP, mrT, mrK, mrM, mvX, meX, mlX, mfaX, stX, hvX, pwX, btX, sgX, mlsX, jdX, tdX, dsX, enX, mftX, ldrX, wmX, maX, lwX, lrX, mrX, feX, ngX, Bool.or_eq_true, Bool.and_eq_true, decide_eq_true_eq, decide_eq_false_iff_not, beq_iff_eq, Bool.or_eq_false_iff, Bool.and_eq_false_iff, beq_eq_false_iff_ne]; omega) k.kp⟩, h9⟩, F⟩, hr.2⟩))
theorem m6y {n : Int} (k : mK t) : hy_Ct sc hm_M_treaties 5 [.inr (some 59), .inl n] t (fun r t' => mQ trsX t r t' ∧ (t' 59 9 = if ml_ntc t n then 0 else t 59 9) ∧ (r = some (if ml_ntc t n then (if (ml_lines t n).1 = true then (mk_madeN (ml_lines t n).2 ((ml_lines t n).2 59 33).toNat).1 else (ml_lines t n).2 59 12) else -1) ∧ t' = if ml_ntc t n then (if (ml_lines t n).1 = true then (mk_madeN (ml_lines t n).2 ((ml_lines t n).2 59 33).toNat).2 else (ml_lines t n).2) else t)) := (c_M_treaties k.tr).mono (fun r t' q => (fun z => ⟨z.1, z.2, q⟩) (show (fun r t' => mQ trsX t r t' ∧ t' 59 9 = if ml_ntc t n then 0 else t 59 9) r t' from by
  obtain ⟨rfl, rfl⟩ := q
  by_cases hn : ml_ntc t n
  · simp only [if_pos hn]
    obtain ⟨a1, a2⟩ := ml_lines_s t (n := n) (by omega)
    have z : (ml_lines t n).2 59 9 = 0 := rfl
    have F1 : hy_F trsX t (ml_lines t n).2 := a2.w (fun r j q => (Bool.or_eq_false_iff.mp q).1)
    have k1 : mK (ml_lines t n).2 := mK_A a2 (fun r j q => by revert q; simp only [mkAll, mkA, mlawX, mrP, mrT, mrK, mrM, mvX, meX, mlX, mfaX, stX, hvX, pwX, btX, sgX, mlsX, jdX, tdX, dsX, enX, mftX, ldrX, wmX, maX, lwX, lrX, mrX, feX, ngX, Bool.or_eq_true, Bool.and_eq_true, decide_eq_true_eq, decide_eq_false_iff_not, beq_iff_eq, Bool.or_eq_false_iff, Bool.and_eq_false_iff, beq_eq_false_iff_ne]; omega) (mt_0 z) k
    revert a1 a2 z F1 k1
    generalize (ml_lines t n).2 = u
    intro a1 a2 z F1 k1
    refine ⟨⟨⟨_, rfl⟩, ?_⟩, ?_⟩
    · split
      · obtain ⟨F2, t2, -, -⟩ := mk_madeN_s a1 k1.tr (u 59 33).toNat (by have := a1.1; omega)
        exact ⟨⟨⟨ml_ok_F F2 (fun r j q => by revert q; simp only [mkAll, mkA, mlawX, mrP, mrT, mrK, mrM, mvX, meX, mlX, mfaX, stX, hvX, pwX, btX, sgX, mlsX, jdX, tdX, dsX, enX, mftX, ldrX, wmX, maX, lwX, lrX, mrX, feX, ngX, Bool.or_eq_true, Bool.and_eq_true, decide_eq_true_eq, decide_eq_false_iff_not, beq_iff_eq, Bool.or_eq_false_iff, Bool.and_eq_false_iff, beq_eq_false_iff_ne]; omega) k1.ml, mk_p2 F2 (fun r j q => by revert q; simp only [mkAll, mkA, mlawX, mrP, mrT, mrK, mrM, mvX, meX, mlX, mfaX, stX, hvX, pwX, btX, sgX, mlsX, jdX, tdX, dsX, enX, mftX, ldrX, wmX, maX, lwX, lrX, mrX, feX, ngX, Bool.or_eq_true, Bool.and_eq_true, decide_eq_true_eq, decide_eq_false_iff_not, beq_iff_eq, Bool.or_eq_false_iff, Bool.and_eq_false_iff, beq_eq_false_iff_ne]; omega) k1.p2⟩, ⟨mk_mg F2 (fun _ => rfl) k1.mg, mk_nl F2 (fun _ => rfl) k1.nl⟩, ⟨t2, mk_kp F2 (fun r j q => by revert q; simp only [mkAll, mkA, mlawX, mrP, mrT, mrK, mrM, mvX, meX, mlX, mfaX, stX, hvX, pwX, btX, sgX, mlsX, jdX, tdX, dsX, enX, mftX, ldrX, wmX, maX, lwX, lrX, mrX, feX, ngX, Bool.or_eq_true, Bool.and_eq_true, decide_eq_true_eq, decide_eq_false_iff_not, beq_iff_eq, Bool.or_eq_false_iff, Bool.and_eq_false_iff, beq_eq_false_iff_ne]; omega) k1.kp⟩, mk_mt F2 rfl k1.mt⟩, F1.tr' (F2.w (fun r j q => (Bool.or_eq_false_iff.mp q).2))⟩
      · exact ⟨k1, F1⟩
    · split
      · obtain ⟨F2, -, -, -⟩ := mk_madeN_s a1 k1.tr (u 59 33).toNat (by have := a1.1; omega)
        exact (F2 59 9 rfl).trans z
      · exact z
  · simp only [if_neg hn]
    exact ⟨⟨⟨_, rfl⟩, k, hy_F.rf⟩, trivial⟩))
theorem m7y {n : Int} (k : mK t) : hy_Ct sc hm_M_judged 5 [.inr (some 59), .inl n] t (fun r t' => mQ jdX t r t' ∧ (t' 59 9 = if ml_ntc t n then 0 else t 59 9) ∧ (r = some (if ml_ntc t n then (if (ml_lines t n).1 = true then ((mk_jd (ml_lines t n).2).1 : Int) else (ml_lines t n).2 59 12) else -1))) := (c_M_judged k.tr).mono (fun r t' q => (fun z => ⟨z.1, z.2, q.1⟩) (show (fun r t' => mQ jdX t r t' ∧ t' 59 9 = if ml_ntc t n then 0 else t 59 9) r t' from by
  obtain ⟨e, F, z⟩ := q
  have h9 : mt_ok t' := by
    have := k.mt
    unfold mt_ok
    split at z <;> omega
  exact ⟨⟨⟨_, e⟩, mK_A F (fun r j q => by revert q; simp only [mkAll, mkA, mlawX, mrP, mrT, mrK, mrM, mvX, meX, mlX, mfaX, stX, hvX, pwX, btX, sgX, mlsX, jdX, tdX, dsX, enX, mftX, ldrX, wmX, maX, lwX, lrX, mrX, feX, ngX, Bool.or_eq_true, Bool.and_eq_true, decide_eq_true_eq, decide_eq_false_iff_not, beq_iff_eq, Bool.or_eq_false_iff, Bool.and_eq_false_iff, beq_eq_false_iff_ne]; omega) h9 k, F⟩, z⟩))
theorem m8y {n : Int} (k : mK t) : hy_Ct sc hm_M_days 6 [.inr (some 59), .inl n] t (fun r t' => (mQ dysX t) r t' ∧ (r = some (if 1 ≤ n ∧ n ≤ 99 then md_days t n 59 58 else -1) ∧ hy_F mvX (if 1 ≤ n ∧ n ≤ 99 then md_days t n else t) t')) := (c_M_days k.ml k.tr).mono (fun r t' q => ⟨show (mQ dysX t) r t' from by
  obtain ⟨e, F⟩ := q
  have h : tr_ok (if 1 ≤ n ∧ n ≤ 99 then md_days t n else t) ∧ hy_F dysX t (if 1 ≤ n ∧ n ≤ 99 then md_days t n else t) := by
    split
    · obtain ⟨d1, d2⟩ := md_days_s k.tr n
      exact ⟨d1.1, d2.w (fun r j q => (Bool.or_eq_false_iff.mp q).1)⟩
    · exact ⟨k.tr, hy_F.rf⟩
  have G := h.2.tr' (F.w (fun r j q => (Bool.or_eq_false_iff.mp q).2))
  exact ⟨⟨_, e⟩, ⟨⟨ml_ok_F G (fun r j q => by revert q; simp only [dysX, mlawX, mvX, dsX, enX, hvX, mftX, Bool.or_eq_true, Bool.and_eq_true, decide_eq_true_eq, decide_eq_false_iff_not, beq_iff_eq, Bool.or_eq_false_iff, Bool.and_eq_false_iff, beq_eq_false_iff_ne]; omega) k.ml, mk_p2 G (fun r j q => by revert q; simp only [dysX, mrP, mvX, dsX, enX, hvX, mftX, Bool.or_eq_true, Bool.and_eq_true, decide_eq_true_eq, decide_eq_false_iff_not, beq_iff_eq, Bool.or_eq_false_iff, Bool.and_eq_false_iff, beq_eq_false_iff_ne]; omega) k.p2⟩, ⟨mk_mg G (fun _ => rfl) k.mg, mk_nl G (fun _ => rfl) k.nl⟩, ⟨mk_tr F (fun r j q => by revert q; simp only [mkAll, mkA, mlawX, mrP, mrT, mrK, mrM, mvX, meX, mlX, mfaX, stX, hvX, pwX, btX, sgX, mlsX, jdX, tdX, dsX, enX, mftX, ldrX, wmX, maX, lwX, lrX, mrX, feX, ngX, Bool.or_eq_true, Bool.and_eq_true, decide_eq_true_eq, decide_eq_false_iff_not, beq_iff_eq, Bool.or_eq_false_iff, Bool.and_eq_false_iff, beq_eq_false_iff_ne]; omega) h.1, mk_kp G (fun r j q => by revert q; simp only [dysX, mrK, mvX, dsX, enX, hvX, mftX, Bool.or_eq_true, Bool.and_eq_true, decide_eq_true_eq, decide_eq_false_iff_not, beq_iff_eq, Bool.or_eq_false_iff, Bool.and_eq_false_iff, beq_eq_false_iff_ne]; omega) k.kp⟩, mk_mt G rfl k.mt⟩, G⟩, q⟩)
theorem m9y {n w : Int} (k : mK t) : hy_Ct sc hm_M_tried 6 [.inr (some 59), .inl n, .inl w] t (fun r t' => (mQ tdX t) r t' ∧ (r = some (if md_trc t n w then md_tried (md_days (mf_begins t) n) w else -1))) := (c_M_tried k.ml k.tr).mono (fun r t' q => ⟨show (mQ tdX t) r t' from ⟨⟨_, q.1⟩, mK_F q.2 (fun r j q => by revert q; simp only [mkAll, mkA, mlawX, mrP, mrT, mrK, mrM, mvX, meX, mlX, mfaX, stX, hvX, pwX, btX, sgX, mlsX, jdX, tdX, dsX, enX, mftX, ldrX, wmX, maX, lwX, lrX, mrX, feX, ngX, Bool.or_eq_true, Bool.and_eq_true, decide_eq_true_eq, decide_eq_false_iff_not, beq_iff_eq, Bool.or_eq_false_iff, Bool.and_eq_false_iff, beq_eq_false_iff_ne]; omega) k, q.2⟩, q.1⟩)
theorem m10y {n w : Int} (k : mK t) : hy_Ct sc hm_M_treatyIs 1 [.inr (some 59), .inl n, .inl w] t (fun r t' => (mQ (fun _ _ => false) t) r t' ∧ (r = some (if (0 ≤ n ∧ n < t 59 34) ∧ 0 ≤ w ∧ w < 6 then t (85 + w.toNat) n.toNat else -1))) := (c_M_treatyIs k.tr.1).mono (fun r t' q => ⟨show (mQ (fun _ _ => false) t) r t' from by
  obtain ⟨rfl, rfl⟩ := q
  exact ⟨⟨_, rfl⟩, k, hy_F.rf⟩, q.1⟩)
theorem m11y {a b c : Int} (k : mK t) : hy_Ct sc hm_M_sees 6 [.inr (some 59), .inl a, .inl b, .inl c] t (fun r t' => (mQ mvX t) r t' ∧ (r = some (if mq_ecq t a b c then hy_b (hz_b (mq_seenN t a c 12) b) else -1))) := (c_M_sees k.ml).mono (fun r t' q => ⟨show (mQ mvX t) r t' from ⟨⟨_, q.1⟩, mK_F q.2 (fun r j q => by revert q; simp only [mkAll, mkA, mlawX, mrP, mrT, mrK, mrM, mvX, meX, mlX, mfaX, stX, hvX, pwX, btX, sgX, mlsX, jdX, tdX, dsX, enX, mftX, ldrX, wmX, maX, lwX, lrX, mrX, feX, ngX, Bool.or_eq_true, Bool.and_eq_true, decide_eq_true_eq, decide_eq_false_iff_not, beq_iff_eq, Bool.or_eq_false_iff, Bool.and_eq_false_iff, beq_eq_false_iff_ne]; omega) k, q.2⟩, q.1⟩)
theorem m12y {a b c : Int} (k : mK t) : hy_Ct sc hm_M_appears 7 [.inr (some 59), .inl a, .inl b, .inl c] t (fun r t' => (mQ meX t) r t' ∧ (r = some (if (0 ≤ a ∧ a < 6) ∧ (b = 12 ∨ sp_told (t 59 0) b = true) ∧ 0 ≤ c ∧ c < 4 then mq_as t a c b.toNat else -1))) := (c_M_appears k.ml k.pal).mono (fun r t' q => ⟨show (mQ meX t) r t' from ⟨⟨_, q.1⟩, mK_F q.2 (fun r j q => by revert q; simp only [mkAll, mkA, mlawX, mrP, mrT, mrK, mrM, mvX, meX, mlX, mfaX, stX, hvX, pwX, btX, sgX, mlsX, jdX, tdX, dsX, enX, mftX, ldrX, wmX, maX, lwX, lrX, mrX, feX, ngX, Bool.or_eq_true, Bool.and_eq_true, decide_eq_true_eq, decide_eq_false_iff_not, beq_iff_eq, Bool.or_eq_false_iff, Bool.and_eq_false_iff, beq_eq_false_iff_ne]; omega) k, q.2⟩, q.1⟩)
theorem m13y {a b c d : Int} (k : mK t) : hy_Ct sc hm_M_child 6 [.inr (some 59), .inl a, .inl b, .inl c, .inl d] t (fun r t' => (mQ mvX t) r t' ∧ (r = some (if (0 ≤ a ∧ a < 6) ∧ mq_ecq t b c d then hy_b (mq_child t a b c d) else -1))) := (c_M_child k.ml).mono (fun r t' q => ⟨show (mQ mvX t) r t' from ⟨⟨_, q.1⟩, mK_F q.2 (fun r j q => by revert q; simp only [mkAll, mkA, mlawX, mrP, mrT, mrK, mrM, mvX, meX, mlX, mfaX, stX, hvX, pwX, btX, sgX, mlsX, jdX, tdX, dsX, enX, mftX, ldrX, wmX, maX, lwX, lrX, mrX, feX, ngX, Bool.or_eq_true, Bool.and_eq_true, decide_eq_true_eq, decide_eq_false_iff_not, beq_iff_eq, Bool.or_eq_false_iff, Bool.and_eq_false_iff, beq_eq_false_iff_ne]; omega) k, q.2⟩, q.1⟩)
theorem m14y {a b c d e : Int} (k : mK t) : hy_Ct sc hm_M_unseen 7 [.inr (some 59), .inl a, .inl b, .inl c, .inl d, .inl e] t (fun r t' => (mQ meX t) r t' ∧ (r = some (if ((0 ≤ a ∧ a < 8) ∧ 0 ≤ b ∧ b < 8) ∧ mq_ecq t d c e then hy_b (decide (mq_as t d e (t 63 (8 * b + a).toNat).toNat = mq_as t d e c.toNat)) else -1))) := (c_M_unseen k.ml k.pal k.mg).mono (fun r t' q => ⟨show (mQ meX t) r t' from ⟨⟨_, q.1⟩, mK_F q.2 (fun r j q => by revert q; simp only [mkAll, mkA, mlawX, mrP, mrT, mrK, mrM, mvX, meX, mlX, mfaX, stX, hvX, pwX, btX, sgX, mlsX, jdX, tdX, dsX, enX, mftX, ldrX, wmX, maX, lwX, lrX, mrX, feX, ngX, Bool.or_eq_true, Bool.and_eq_true, decide_eq_true_eq, decide_eq_false_iff_not, beq_iff_eq, Bool.or_eq_false_iff, Bool.and_eq_false_iff, beq_eq_false_iff_ne]; omega) k, q.2⟩, q.1⟩)
theorem m16y {a b : Int} (k : mK t) : hy_Ct sc hm_M_worth 7 [.inr (some 59), .inl a, .inl b] t (fun r t' => (mQ mvX t) r t' ∧ (r = some (if (0 ≤ a ∧ a < 6) ∧ 0 ≤ b ∧ b < 4 then mw_worth t a b else -1))) := (c_M_worth k.ml).mono (fun r t' q => ⟨show (mQ mvX t) r t' from ⟨⟨_, q.1⟩, mK_F q.2 (fun r j q => by revert q; simp only [mkAll, mkA, mlawX, mrP, mrT, mrK, mrM, mvX, meX, mlX, mfaX, stX, hvX, pwX, btX, sgX, mlsX, jdX, tdX, dsX, enX, mftX, ldrX, wmX, maX, lwX, lrX, mrX, feX, ngX, Bool.or_eq_true, Bool.and_eq_true, decide_eq_true_eq, decide_eq_false_iff_not, beq_iff_eq, Bool.or_eq_false_iff, Bool.and_eq_false_iff, beq_eq_false_iff_ne]; omega) k, q.2⟩, q.1⟩)
theorem m17y {a b c : Int} (k : mK t) : hy_Ct sc hm_M_gain 7 [.inr (some 59), .inl a, .inl b, .inl c] t (fun r t' => (mQ gnX t) r t' ∧ (r = some (if ((0 ≤ a ∧ a < 6) ∧ mf_plain t b = true ∧ 0 ≤ c ∧ c < 4) ∧ hz_b (t 62 (4 * b + c).toNat) a = false then mw_worth (mf_chN t b (hz_ishl 1 c) a 1 4) a c - mw_worth t a c else -1000000000) ∧ hy_F mvX (if ((0 ≤ a ∧ a < 6) ∧ mf_plain t b = true ∧ 0 ≤ c ∧ c < 4) ∧ hz_b (t 62 (4 * b + c).toNat) a = false then mf_chN (mf_chN t b (hz_ishl 1 c) a 1 4) b (hz_ishl 1 c) a 0 4 else t) t')) := (c_M_gain k.ml).mono (fun r t' q => ⟨show (mQ gnX t) r t' from by
  obtain ⟨e, F⟩ := q
  have F0 : hy_F gnX t (if ((0 ≤ a ∧ a < 6) ∧ mf_plain t b = true ∧ 0 ≤ c ∧ c < 4) ∧ hz_b (t 62 (4 * b + c).toNat) a = false then mf_chN (mf_chN t b (hz_ishl 1 c) a 1 4) b (hz_ishl 1 c) a 0 4 else t) := by
    split
    · next h =>
      have hp := h.1.2.1
      simp only [mf_plain, Bool.and_eq_true] at hp
      have hb := sp_told_in hp.1
      exact ((mf_chN_F hb t 4 (by decide)).tr' (mf_chN_F hb _ 4 (by decide))).w (fun r j q => (Bool.or_eq_false_iff.mp q).1)
    · exact hy_F.rf
  have G := F0.tr' (F.w (fun r j q => (Bool.or_eq_false_iff.mp q).2))
  exact ⟨⟨_, e⟩, mK_F G (fun r j q => by revert q; simp only [gnX, hvX, mvX, mkAll, mkA, mlawX, mrP, mrT, mrK, mrM, Bool.or_eq_true, Bool.and_eq_true, decide_eq_true_eq, decide_eq_false_iff_not, beq_iff_eq, Bool.or_eq_false_iff, Bool.and_eq_false_iff, beq_eq_false_iff_ne]; omega) k, G⟩, q⟩)
theorem k15y {a b c d e f : Int} (k : cK t) : hy_Ct sc hm_W_way 5 [.inr (some 2), .inl a, .inl b, .inl c, .inl d, .inl e, .inl f] t (fun r t' => (cQ wyX t) r t' ∧ (∃ t2 : hy_T, (wy_c t a b c d e f → ∀ g : Nat, g < 64 → t2 53 g = hy_b (wf_hid t (wf_as t d e) g c)) ∧ r = some (if wy_c t a b c d e f then wy_A (pa_searchN (pa_search0 t2 a) 64) b f else -1))) := (c_W_way_x k.lc).mono (fun r t' q => ⟨show (cQ wyX t) r t' from ⟨(q.1.elim fun _ z => ⟨_, z.2⟩), cK_F q.2 (fun r j q => by revert q; simp only [ckX, ckT, lawX, ckN, ckS, ckP, eX, lX, pX, fX, snX, brX, wyX, paX, trX, asX, gdX, lnX, lkX, lpX, lwcX, tyX, jyX, mkX, dzX, cpX, taX, glX, Bool.or_eq_true, Bool.and_eq_true, beq_iff_eq, Bool.or_eq_false_iff, Bool.and_eq_false_iff, beq_eq_false_iff_ne]; omega) k, q.2⟩, q.1⟩)
theorem m15y {a b c d e f : Int} (k : mK t) : hy_Ct sc hm_M_way 7 [.inr (some 59), .inl a, .inl b, .inl c, .inl d, .inl e, .inl f] t (fun r t' => (mQ wmX t) r t' ∧ (r = some (if pc_wc t a b c d e f then pc_ans (t' 97 b.toNat) f else -1) ∧ (pc_wc t a b c d e f → ((0 ≤ a ∧ a < 64) → wm_I (pc_U t d e c) (pc_h f) a.toNat (t' 97)) ∧ pc_in (t' 97) ∧ ∀ g w : Nat, g < 64 → w < 4 → ¬ pc_better (pc_U t d e c) (pc_h f) (t' 97) g w))) := (c_M_way (I := fun C => (0 ≤ a ∧ a < 64) → wm_I (pc_U t d e c) (pc_h f) a.toNat C) k.ml k.pal k.mg (fun C hC ha => wm_0 _ _ (by omega) C (fun g hg => by rw [hC g hg, show ((a.toNat : Nat) : Int) = a by omega])) (fun C g w I hg hw hb ha => wm_s _ _ C g w (I ha) hg hw hb)).mono (fun r t' q => ⟨show (mQ wmX t) r t' from ⟨⟨_, q.1⟩, mK_F q.2.1 (fun r j q => by revert q; simp only [mkAll, mkA, mlawX, mrP, mrT, mrK, mrM, mvX, meX, mlX, mfaX, stX, hvX, pwX, btX, sgX, mlsX, jdX, tdX, dsX, enX, mftX, ldrX, wmX, maX, lwX, lrX, mrX, feX, ngX, Bool.or_eq_true, Bool.and_eq_true, decide_eq_true_eq, decide_eq_false_iff_not, beq_iff_eq, Bool.or_eq_false_iff, Bool.and_eq_false_iff, beq_eq_false_iff_ne]; omega) k, q.2.1⟩, ⟨q.1, q.2.2⟩⟩)
theorem k18y {a b c d e : Int} (k : cK t) (hB : pw_c t a b c d e → -2147483648 < ad_by t a b c d) : hy_Ct sc hm_W_power 6 [.inr (some 2), .inl a, .inl b, .inl c, .inl d, .inl e] t (fun r t' => (cQ pX t) r t' ∧ (r = some (wf_pow t a b c d e))) := (c_W_power_x k.lc hB).mono (fun r t' q => ⟨show (cQ pX t) r t' from ⟨⟨_, q.1⟩, cK_F q.2 (fun r j q => by revert q; simp only [ckX, ckT, lawX, ckN, ckS, ckP, eX, lX, pX, fX, snX, brX, wyX, paX, trX, asX, gdX, lnX, lkX, lpX, lwcX, tyX, jyX, mkX, dzX, cpX, taX, glX, Bool.or_eq_true, Bool.and_eq_true, beq_iff_eq, Bool.or_eq_false_iff, Bool.and_eq_false_iff, beq_eq_false_iff_ne]; omega) k, q.2⟩, q.1⟩)
theorem m18y {a b c d e : Int} (k : mK t) : hy_Ct sc hm_M_power 8 [.inr (some 59), .inl a, .inl b, .inl c, .inl d, .inl e] t (fun r t' => (mQ pwX t) r t' ∧ (r = some (if mw_pwc t a b c d e then mw_pow t a b c d e else -1000000000))) := (c_M_power k.ml).mono (fun r t' q => ⟨show (mQ pwX t) r t' from ⟨⟨_, q.1⟩, mK_F q.2 (fun r j q => by revert q; simp only [mkAll, mkA, mlawX, mrP, mrT, mrK, mrM, mvX, meX, mlX, mfaX, stX, hvX, pwX, btX, sgX, mlsX, jdX, tdX, dsX, enX, mftX, ldrX, wmX, maX, lwX, lrX, mrX, feX, ngX, Bool.or_eq_true, Bool.and_eq_true, decide_eq_true_eq, decide_eq_false_iff_not, beq_iff_eq, Bool.or_eq_false_iff, Bool.and_eq_false_iff, beq_eq_false_iff_ne]; omega) k, q.2⟩, q.1⟩)
theorem k21y {a b c d : Int} (k : cK t) : hy_Ct sc hm_W_battle 6 [.inr (some 2), .inl a, .inl b, .inl c, .inl d] t (fun r t' => (cQ fX t) r t' ∧ (∃ t2 : hy_T, (ft_c a b c d → ft_P t a b c t2) ∧ r = some (if ft_c a b c d then ft_A t2 d else -1))) := (c_W_battle_x k.lc).mono (fun r t' q => ⟨show (cQ fX t) r t' from ⟨(q.1.elim fun _ z => ⟨_, z.2⟩), cK_F q.2 (fun r j q => by revert q; simp only [ckX, ckT, lawX, ckN, ckS, ckP, eX, lX, pX, fX, snX, brX, wyX, paX, trX, asX, gdX, lnX, lkX, lpX, lwcX, tyX, jyX, mkX, dzX, cpX, taX, glX, t1X, Bool.or_eq_true, Bool.and_eq_true, beq_iff_eq, Bool.or_eq_false_iff, Bool.and_eq_false_iff, beq_eq_false_iff_ne]; omega) k, q.2⟩, q.1⟩)
theorem m21y {a b c d : Int} (k : mK t) : hy_Ct sc hm_M_battle 8 [.inr (some 59), .inl a, .inl b, .inl c, .inl d] t (fun r t' => (mQ btX t) r t' ∧ (r = some (if mt_btc a b c d then mt_btA (mt_btN (t' 101) (t' 99) (t' 100) 144) d else -1) ∧ (mt_btc a b c d → mt_laid t a b c 144 t'))) := (c_M_battle k.ml).mono (fun r t' q => ⟨show (mQ btX t) r t' from ⟨⟨_, q.1⟩, mK_F q.2.1 (fun r j q => by revert q; simp only [mkAll, mkA, mlawX, mrP, mrT, mrK, mrM, mvX, meX, mlX, mfaX, stX, hvX, pwX, btX, sgX, mlsX, jdX, tdX, dsX, enX, mftX, ldrX, wmX, maX, lwX, lrX, mrX, feX, ngX, Bool.or_eq_true, Bool.and_eq_true, decide_eq_true_eq, decide_eq_false_iff_not, beq_iff_eq, Bool.or_eq_false_iff, Bool.and_eq_false_iff, beq_eq_false_iff_ne]; omega) k, q.2.1⟩, ⟨q.1, q.2.2⟩⟩)
theorem k24y {a b c : Int} (k : cK t) : hy_Ct sc hm_W_ash 5 [.inr (some 2), .inl a, .inl b, .inl c] t (fun r t' => (cQ asX t) r t' ∧ (if ((0 ≤ a ∧ a < 6) ∧ 0 ≤ b ∧ b < 4) ∧ 0 ≤ c ∧ c < 3 then ∃ u : hy_T, hy_F lX t u ∧ u 46 = wf_as t a b ∧ t' = pa_seaN (wf_ashN u 64) 64 ∧ r = some (if c = 0 then wf_ashes u 64 else if c = 1 then t' 52 5 else t' 52 4) else r = some (-1) ∧ t' = t)) := (c_W_ash k.lc k.sk).mono (fun r t' q => ⟨show (cQ asX t) r t' from by
  by_cases hq : ((0 ≤ a ∧ a < 6) ∧ 0 ≤ b ∧ b < 4) ∧ 0 ≤ c ∧ c < 3
  · rw [if_pos hq] at q
    obtain ⟨t1, F1, -, e, hr⟩ := q
    have main : ∀ u : hy_T, u = pa_seaN (wf_ashN t1 64) 64 → pa_stk u ∧ hy_F asX t u := fun u hu => by
      have F2 := wf_ashN_F t1 64
      have s2 : pa_stk (wf_ashN t1 64) := pa_stk_F F2 (fun _ => rfl) (pa_stk_F F1 (fun _ => rfl) k.sk)
      obtain ⟨s3, -, F3⟩ := pa_sea_s s2 64
      rw [← hu] at s3 F3
      exact ⟨s3, ((F1.w (fun r j q => by revert q; simp only [lX, asX, Bool.or_eq_false_iff, beq_eq_false_iff_ne]; omega)).tr' (F2.w (fun r j q => by revert q; simp only [asX, Bool.or_eq_false_iff, beq_eq_false_iff_ne]; omega))).tr' (F3.w (fun r j q => by revert q; simp only [paX, asX, Bool.or_eq_false_iff, Bool.and_eq_false_iff, beq_eq_false_iff_ne]; omega))⟩
    obtain ⟨s3, G⟩ := main t' e
    exact ⟨⟨_, hr⟩, ⟨⟨⟨ck_tp G (fun r j q => by revert q; simp only [ckX, ckT, lawX, ckN, ckS, ckP, eX, lX, pX, fX, snX, brX, wyX, paX, trX, asX, gdX, lnX, lkX, lpX, lwcX, tyX, jyX, mkX, dzX, cpX, taX, glX, t1X, spX, Bool.or_eq_true, Bool.and_eq_true, beq_iff_eq, Bool.or_eq_false_iff, Bool.and_eq_false_iff, beq_eq_false_iff_ne]; omega) k.tp, ck_lc G (fun r j q => by revert q; simp only [ckX, ckT, lawX, ckN, ckS, ckP, eX, lX, pX, fX, snX, brX, wyX, paX, trX, asX, gdX, lnX, lkX, lpX, lwcX, tyX, jyX, mkX, dzX, cpX, taX, glX, t1X, spX, Bool.or_eq_true, Bool.and_eq_true, beq_iff_eq, Bool.or_eq_false_iff, Bool.and_eq_false_iff, beq_eq_false_iff_ne]; omega) k.lc⟩, da_F G (fun _ => rfl) k.da, ck_ln G (fun r j q => by revert q; simp only [ckX, ckT, lawX, ckN, ckS, ckP, eX, lX, pX, fX, snX, brX, wyX, paX, trX, asX, gdX, lnX, lkX, lpX, lwcX, tyX, jyX, mkX, dzX, cpX, taX, glX, t1X, spX, Bool.or_eq_true, Bool.and_eq_true, beq_iff_eq, Bool.or_eq_false_iff, Bool.and_eq_false_iff, beq_eq_false_iff_ne]; omega) k.ln⟩, ⟨ck_st G (fun r j q => by revert q; simp only [ckX, ckT, lawX, ckN, ckS, ckP, eX, lX, pX, fX, snX, brX, wyX, paX, trX, asX, gdX, lnX, lkX, lpX, lwcX, tyX, jyX, mkX, dzX, cpX, taX, glX, t1X, spX, Bool.or_eq_true, Bool.and_eq_true, beq_iff_eq, Bool.or_eq_false_iff, Bool.and_eq_false_iff, beq_eq_false_iff_ne]; omega) k.s1, ck_st G (fun r j q => by revert q; simp only [ckX, ckT, lawX, ckN, ckS, ckP, eX, lX, pX, fX, snX, brX, wyX, paX, trX, asX, gdX, lnX, lkX, lpX, lwcX, tyX, jyX, mkX, dzX, cpX, taX, glX, t1X, spX, Bool.or_eq_true, Bool.and_eq_true, beq_iff_eq, Bool.or_eq_false_iff, Bool.and_eq_false_iff, beq_eq_false_iff_ne]; omega) k.s2⟩, s3, ck_pr G (fun r j q => by revert q; simp only [ckX, ckT, lawX, ckN, ckS, ckP, eX, lX, pX, fX, snX, brX, wyX, paX, trX, asX, gdX, lnX, lkX, lpX, lwcX, tyX, jyX, mkX, dzX, cpX, taX, glX, t1X, spX, Bool.or_eq_true, Bool.and_eq_true, beq_iff_eq, Bool.or_eq_false_iff, Bool.and_eq_false_iff, beq_eq_false_iff_ne]; omega) k.pr⟩, G⟩
  · rw [if_neg hq] at q
    obtain ⟨rfl, rfl⟩ := q
    exact ⟨⟨_, rfl⟩, k, hy_F.rf⟩, q⟩)
theorem m24y {a b c : Int} (k : mK t) : hy_Ct sc hm_M_ash 7 [.inr (some 59), .inl a, .inl b, .inl c] t (fun r t' => (mQ maX t) r t' ∧ (r = some (if ma_c a b c then ma_ans (t' 102) c else -1) ∧ (ma_c a b c → ∃ v : hy_T, hy_F meX t v ∧ (∀ j : Nat, j ≤ 12 → v 79 j = mq_as t a b j) ∧ t' = mf_fix 5000 (mf_sea0N v 64)))) := (c_M_ash k.ml k.pal k.mg).mono (fun r t' q => ⟨show (mQ maX t) r t' from ⟨⟨_, q.1⟩, mK_F q.2.1 (fun r j q => by revert q; simp only [mkAll, mkA, mlawX, mrP, mrT, mrK, mrM, mvX, meX, mlX, mfaX, stX, hvX, pwX, btX, sgX, mlsX, jdX, tdX, dsX, enX, mftX, ldrX, wmX, maX, lwX, lrX, mrX, feX, ngX, Bool.or_eq_true, Bool.and_eq_true, decide_eq_true_eq, decide_eq_false_iff_not, beq_iff_eq, Bool.or_eq_false_iff, Bool.and_eq_false_iff, beq_eq_false_iff_ne]; omega) k, q.2.1⟩, ⟨q.1, q.2.2⟩⟩)
theorem m19y {a b c d e : Int} (k : mK t) : hy_Ct sc hm_M_signals 8 [.inr (some 59), .inl a, .inl b, .inl c, .inl d, .inl e] t (fun r t' => (mQ sgX t) r t' ∧ (r = some (if ms_sgc a b c d e then (if e = 0 then (ms_acc (t' 98) (t 59 0) a b c 4096).1 else if e = 1 then (ms_acc (t' 98) (t 59 0) a b c 4096).2.1 else (ms_acc (t' 98) (t 59 0) a b c 4096).2.2) else -1) ∧ (ms_sgc a b c d e → ms_by t d t'))) := (c_M_signals k.ml k.pal).mono (fun r t' q => ⟨show (mQ sgX t) r t' from ⟨⟨_, q.1⟩, mK_F q.2.1 (fun r j q => by revert q; simp only [mkAll, mkA, mlawX, mrP, mrT, mrK, mrM, mvX, meX, mlX, mfaX, stX, hvX, pwX, btX, sgX, mlsX, jdX, tdX, dsX, enX, mftX, ldrX, wmX, maX, lwX, lrX, mrX, feX, ngX, Bool.or_eq_true, Bool.and_eq_true, decide_eq_true_eq, decide_eq_false_iff_not, beq_iff_eq, Bool.or_eq_false_iff, Bool.and_eq_false_iff, beq_eq_false_iff_ne]; omega) k, q.2.1⟩, ⟨q.1, q.2.2⟩⟩)
theorem k22y {n w : Int} (k : cK t) : hy_Ct sc hm_W_spies 6 [.inr (some 2), .inl n, .inl w] t (fun r t' => cQ spX t r t' ∧ (t' 3 1 = if wf_spyok t n w then 0 else t 3 1) ∧ (∃ u : hy_T, hy_F brX t u ∧ (wf_spyok t n w → wf_shN t n.toNat = true → ∀ j : Nat, j < 24 → br_P t j (u 57 j)) ∧ r = some (wf_spyA t u n w))) := (c_W_spies_x k.tp k.lc).mono (fun r t' q => (fun z => ⟨z.1, z.2, q.1⟩) (show (fun r t' => cQ spX t r t' ∧ t' 3 1 = if wf_spyok t n w then 0 else t 3 1) r t' from by
  obtain ⟨⟨u0, -, -, x0⟩, F⟩ := q
  have x : ∃ x : Int, r = some x := ⟨_, x0⟩
  have F0 : hy_F t1X t (if wf_spyok t n w then hy_up t 3 1 0 else t) := by
    split
    · exact hy_F.rf.up rfl
    · exact hy_F.rf
  have h1 : tp_ok (if wf_spyok t n w then hy_up t 3 1 0 else t) := by
    split
    · exact tp_ok_0 k.tp
    · exact k.tp
  have z : (if wf_spyok t n w then hy_up t 3 1 0 else t) 3 1 = if wf_spyok t n w then 0 else t 3 1 := by
    split
    · rfl
    · rfl
  have G : hy_F spX t t' := (F0.w (fun r j q => (Bool.or_eq_false_iff.mp q).1)).tr' (F.w (fun r j q => (Bool.or_eq_false_iff.mp q).2))
  exact ⟨⟨x, cK_tape G (fun r j q => by revert q; simp only [ckX, ckT, lawX, ckN, ckS, ckP, eX, lX, pX, fX, snX, brX, wyX, paX, trX, asX, gdX, lnX, lkX, lpX, lwcX, tyX, jyX, mkX, dzX, cpX, taX, glX, t1X, spX, Bool.or_eq_true, Bool.and_eq_true, beq_iff_eq, Bool.or_eq_false_iff, Bool.and_eq_false_iff, beq_eq_false_iff_ne]; omega) (tp_ok_F F (fun _ => rfl) (fun _ => rfl) h1) k, G⟩, (F 3 1 rfl).trans z⟩))
theorem m22y {n w : Int} (k : mK t) : hy_Ct sc hm_M_spies 9 [.inr (some 59), .inl n, .inl w] t (fun r t' => mQ spmX t r t' ∧ (t' 59 9 = if ms_spc t n w then 0 else t 59 9) ∧ (r = some (if ms_spc t n w then ms_spy (hy_up t 59 9 0) n.toNat w else -1))) := (c_M_spies k.ml k.pal k.mt).mono (fun r t' q => (fun z => ⟨z.1, z.2, q.1⟩) (show (fun r t' => mQ spmX t r t' ∧ t' 59 9 = if ms_spc t n w then 0 else t 59 9) r t' from by
  obtain ⟨e, F⟩ := q
  have h : hy_F t9X t (if ms_spc t n w then hy_up t 59 9 0 else t) ∧ (if ms_spc t n w then hy_up t 59 9 0 else t) 59 9 = if ms_spc t n w then 0 else t 59 9 := by
    split
    · exact ⟨hy_F.rf.up rfl, rfl⟩
    · exact ⟨hy_F.rf, rfl⟩
  have G : hy_F spmX t t' := (h.1.w (fun r j q => (Bool.or_eq_false_iff.mp q).1)).tr' (F.w (fun r j q => (Bool.or_eq_false_iff.mp q).2))
  have z := (F 59 9 rfl).trans h.2
  have h9 : mt_ok t' := by
    have := k.mt
    unfold mt_ok
    split at z <;> omega
  exact ⟨⟨⟨_, e⟩, mK_A G (fun r j q => by revert q; simp only [spmX, t9X, meX, mkA, mlawX, mrP, mrT, mrK, Bool.or_eq_true, Bool.and_eq_true, decide_eq_true_eq, beq_iff_eq, Bool.or_eq_false_iff, Bool.and_eq_false_iff, beq_eq_false_iff_ne]; omega) h9 k, G⟩, z⟩))
theorem m23y {a b : Int} (k : mK t) : hy_Ct sc hm_M_painting 6 [.inr (some 59), .inl a, .inl b] t (fun r t' => (mQ mvX t) r t' ∧ (r = some (if (0 ≤ a ∧ a ≤ 4095) ∧ hz_iand a (hz_ixor (t 59 0) (-1)) = 0 ∧ 0 ≤ b ∧ b ≤ 2 then mq_ptA (mq_ptN t a 24) b else -1))) := (c_M_painting k.ml).mono (fun r t' q => ⟨show (mQ mvX t) r t' from ⟨⟨_, q.1⟩, mK_F q.2 (fun r j q => by revert q; simp only [mkAll, mkA, mlawX, mrP, mrT, mrK, mrM, mvX, meX, mlX, mfaX, stX, hvX, pwX, btX, sgX, mlsX, jdX, tdX, dsX, enX, mftX, ldrX, wmX, maX, lwX, lrX, mrX, feX, ngX, Bool.or_eq_true, Bool.and_eq_true, decide_eq_true_eq, decide_eq_false_iff_not, beq_iff_eq, Bool.or_eq_false_iff, Bool.and_eq_false_iff, beq_eq_false_iff_ne]; omega) k, q.2⟩, q.1⟩)
theorem m25y {a : Int} (k : mK t) : hy_Ct sc hm_M_seed 1 [.inr (some 59), .inl a] t (fun r t' => (mQ (fun r j => r == 59 && j == 1) t) r t' ∧ (r = some (hy_b (wf_seed a)) ∧ t' = if wf_seed a = true then hy_up t 59 1 a else t)) := c_M_seed.mono (fun r t' q => ⟨show (mQ (fun r j => r == 59 && j == 1) t) r t' from by
  obtain ⟨rfl, rfl⟩ := q
  refine ⟨⟨_, rfl⟩, ?_⟩
  have F : hy_F (fun r j => r == 59 && j == 1) t (hy_up t 59 1 a) := hy_F.rf.up rfl
  split
  · next h =>
    have tr : tr_ok (hy_up t 59 1 a) := ⟨k.tr.1, k.tr.2.1, of_decide_eq_true h, fun i hi => k.tr.2.2.2 i hi⟩
    exact ⟨⟨⟨ml_ok_F F (fun r j q => by revert q; simp only [mkAll, mkA, mlawX, mrP, mrT, mrK, mrM, mvX, meX, mlX, mfaX, stX, hvX, pwX, btX, sgX, mlsX, jdX, tdX, dsX, enX, mftX, ldrX, wmX, maX, lwX, lrX, mrX, feX, ngX, Bool.or_eq_true, Bool.and_eq_true, decide_eq_true_eq, decide_eq_false_iff_not, beq_iff_eq, Bool.or_eq_false_iff, Bool.and_eq_false_iff, beq_eq_false_iff_ne]; omega) k.ml, mk_p2 F (fun r j q => by revert q; simp only [mkAll, mkA, mlawX, mrP, mrT, mrK, mrM, mvX, meX, mlX, mfaX, stX, hvX, pwX, btX, sgX, mlsX, jdX, tdX, dsX, enX, mftX, ldrX, wmX, maX, lwX, lrX, mrX, feX, ngX, Bool.or_eq_true, Bool.and_eq_true, decide_eq_true_eq, decide_eq_false_iff_not, beq_iff_eq, Bool.or_eq_false_iff, Bool.and_eq_false_iff, beq_eq_false_iff_ne]; omega) k.p2⟩, ⟨mk_mg F (fun _ => rfl) k.mg, mk_nl F (fun _ => rfl) k.nl⟩, ⟨tr, mk_kp F (fun r j q => by revert q; simp only [mkAll, mkA, mlawX, mrP, mrT, mrK, mrM, mvX, meX, mlX, mfaX, stX, hvX, pwX, btX, sgX, mlsX, jdX, tdX, dsX, enX, mftX, ldrX, wmX, maX, lwX, lrX, mrX, feX, ngX, Bool.or_eq_true, Bool.and_eq_true, decide_eq_true_eq, decide_eq_false_iff_not, beq_iff_eq, Bool.or_eq_false_iff, Bool.and_eq_false_iff, beq_eq_false_iff_ne]; omega) k.kp⟩, k.mt⟩, F⟩
  · exact ⟨k, hy_F.rf⟩, q⟩)
theorem k6y {n : Int} (k : cK t) : hy_Ct sc hm_W_treaties 5 [.inr (some 2), .inl n] t (fun r t' => cQ (tyX 33) t r t' ∧ (t' 3 1 = if 1 ≤ n ∧ n ≤ 120 ∧ n ≤ t 3 1 then 0 else t 3 1) ∧ (r = some (wf_tr t n).1 ∧ t' = (wf_tr t n).2)) := (c_W_treaties_x k.tp k.ln k.s1).mono (fun r t' q => (fun z => ⟨z.1, z.2, q.1⟩) (show (fun r t' => cQ (tyX 33) t r t' ∧ t' 3 1 = if 1 ≤ n ∧ n ≤ 120 ∧ n ≤ t 3 1 then 0 else t 3 1) r t' from by
  obtain ⟨⟨x0, -⟩, F, s1, ln, tp, z⟩ := q
  have x : ∃ x : Int, r = some x := ⟨_, x0⟩
  exact ⟨⟨x, ⟨⟨⟨tp, ck_lc F (fun r j q => by revert q; simp only [ckX, ckT, lawX, ckN, ckS, ckP, eX, lX, pX, fX, snX, brX, wyX, paX, trX, asX, gdX, lnX, lkX, lpX, lwcX, tyX, jyX, mkX, dzX, cpX, taX, glX, Bool.or_eq_true, Bool.and_eq_true, beq_iff_eq, Bool.or_eq_false_iff, Bool.and_eq_false_iff, beq_eq_false_iff_ne]; omega) k.lc⟩, da_F F (fun _ => rfl) k.da, ln⟩, ⟨s1, ck_st F (fun r j q => by revert q; simp only [ckX, ckT, lawX, ckN, ckS, ckP, eX, lX, pX, fX, snX, brX, wyX, paX, trX, asX, gdX, lnX, lkX, lpX, lwcX, tyX, jyX, mkX, dzX, cpX, taX, glX, Bool.or_eq_true, Bool.and_eq_true, beq_iff_eq, Bool.or_eq_false_iff, Bool.and_eq_false_iff, beq_eq_false_iff_ne]; omega) k.s2⟩, pa_stk_F F (fun _ => rfl) k.sk, ck_pr F (fun r j q => by revert q; simp only [ckX, ckT, lawX, ckN, ckS, ckP, eX, lX, pX, fX, snX, brX, wyX, paX, trX, asX, gdX, lnX, lkX, lpX, lwcX, tyX, jyX, mkX, dzX, cpX, taX, glX, Bool.or_eq_true, Bool.and_eq_true, beq_iff_eq, Bool.or_eq_false_iff, Bool.and_eq_false_iff, beq_eq_false_iff_ne]; omega) k.pr⟩, F⟩, z⟩))
theorem k7y {n : Int} (k : cK t) : hy_Ct sc hm_W_judged 5 [.inr (some 2), .inl n] t (fun r t' => cQ jyX t r t' ∧ (t' 3 1 = if 1 ≤ n ∧ n ≤ 120 ∧ n ≤ t 3 1 then 0 else t 3 1) ∧ (r = some (wf_jd t n))) := (c_W_judged_x k.tp k.ln k.s1).mono (fun r t' q => (fun z => ⟨z.1, z.2, q.1⟩) (show (fun r t' => cQ jyX t r t' ∧ t' 3 1 = if 1 ≤ n ∧ n ≤ 120 ∧ n ≤ t 3 1 then 0 else t 3 1) r t' from by
  obtain ⟨x0, F, ln, tp, z⟩ := q
  have x : ∃ x : Int, r = some x := ⟨_, x0⟩
  exact ⟨⟨x, ⟨⟨⟨tp, ck_lc F (fun r j q => by revert q; simp only [ckX, ckT, lawX, ckN, ckS, ckP, eX, lX, pX, fX, snX, brX, wyX, paX, trX, asX, gdX, lnX, lkX, lpX, lwcX, tyX, jyX, mkX, dzX, cpX, taX, glX, Bool.or_eq_true, Bool.and_eq_true, beq_iff_eq, Bool.or_eq_false_iff, Bool.and_eq_false_iff, beq_eq_false_iff_ne]; omega) k.lc⟩, da_F F (fun _ => rfl) k.da, ln⟩, ⟨ck_st F (fun r j q => by revert q; simp only [ckX, ckT, lawX, ckN, ckS, ckP, eX, lX, pX, fX, snX, brX, wyX, paX, trX, asX, gdX, lnX, lkX, lpX, lwcX, tyX, jyX, mkX, dzX, cpX, taX, glX, Bool.or_eq_true, Bool.and_eq_true, beq_iff_eq, Bool.or_eq_false_iff, Bool.and_eq_false_iff, beq_eq_false_iff_ne]; omega) k.s1, ck_st F (fun r j q => by revert q; simp only [ckX, ckT, lawX, ckN, ckS, ckP, eX, lX, pX, fX, snX, brX, wyX, paX, trX, asX, gdX, lnX, lkX, lpX, lwcX, tyX, jyX, mkX, dzX, cpX, taX, glX, Bool.or_eq_true, Bool.and_eq_true, beq_iff_eq, Bool.or_eq_false_iff, Bool.and_eq_false_iff, beq_eq_false_iff_ne]; omega) k.s2⟩, pa_stk_F F (fun _ => rfl) k.sk, ck_pr F (fun r j q => by revert q; simp only [ckX, ckT, lawX, ckN, ckS, ckP, eX, lX, pX, fX, snX, brX, wyX, paX, trX, asX, gdX, lnX, lkX, lpX, lwcX, tyX, jyX, mkX, dzX, cpX, taX, glX, Bool.or_eq_true, Bool.and_eq_true, beq_iff_eq, Bool.or_eq_false_iff, Bool.and_eq_false_iff, beq_eq_false_iff_ne]; omega) k.pr⟩, F⟩, z⟩))
end EXT
/-! the full relation at first, and a colour that is told -/
section FX
variable {sc : List Int32} {t : hy_T}
theorem fr_0 : fr t0 := ⟨⟨⟨rfl, fun j hj => (show (0 : Int) = hz_iand 0 255 by decide)⟩, p3_rel0, fun c hc hm => by
    have e : hz_b (t0 5 3) c = false := hz_b_0 c
    rw [e] at hm
    cases hm⟩, ⟨⟨fun j hj => (show (12 : Int) = 12 from rfl), fun j hj => (show (0 : Int) = 0 from rfl)⟩, ⟨rfl, (show (0 : Int) ≤ 0 by decide), (show (0 : Int) ≤ 16 by decide)⟩, fun i hi => absurd hi (show ¬ (i : Int) < 0 by omega)⟩,
  ⟨⟨⟨⟨rfl, (show (0 : Int) ≤ 0 by decide), (show (0 : Int) ≤ 16 by decide)⟩, rfl, rfl⟩, fun j hj => (show (0 : Int) = 0 from rfl), fun i w hi hw => absurd hi (show ¬ (i : Int) < 0 by omega)⟩, ⟨fun j hj => ⟨(show (0 : Int) ≤ 0 ∧ (0 : Int) ≤ 63 by decide), fun _ => (show (0 : Int) = 0 from rfl)⟩, fun i hi => absurd hi (show ¬ (i : Int) < 0 by omega)⟩, fun j hj => (show (6 : Int) = 6 from rfl)⟩, rfl, fun q => absurd (show t0 2 9 = 0 from rfl) q⟩
theorem fr_col {a b c : Int} (h : ci_I fr t) : (hy_Ct sc hm_W_colour 3 [.inr (some 2), .inl a, .inl b, .inl c] t (fun r t1 => ∃ v : Int, r = some v ∧ (t1 = if sp_tellable (t 5 2) a b c = true then sp_tellC t a b c else t))) ∧ ∀ (v : Int) (t1 : hy_T), (t1 = if sp_tellable (t 5 2) a b c = true then sp_tellC t a b c else t) → hy_Ct sc hm_M_colour 2 [.inr (some 59), .inl a, .inl b, .inl c] t1 (fun r t2 => ∃ v2 : Int, r = some v2 ∧ ci_I fr t2) := by
  obtain ⟨k, m, hr⟩ := h
  have e : t 5 2 = t 59 0 := hr.1.2.1.1.1
  refine ⟨c_W_colour.mono (fun r t' q => ⟨_, q.1, q.2⟩), fun v t1 e1 => c_M_colour.mono (fun r t2 q => ?_)⟩
  obtain ⟨rfl, e2⟩ := q
  refine ⟨_, rfl, ?_⟩
  by_cases hq : sp_tellable (t 5 2) a b c = true
  · rw [if_pos hq] at e1
    obtain ⟨k1, F⟩ := cK_tell k hq
    rw [← e1] at k1 F
    have e0 : t1 59 0 = t 5 2 := (F 59 0 rfl).trans e.symm
    have m1 := mK_W F sw0 m
    rw [e0, if_pos hq] at e2
    obtain ⟨m2, F2⟩ := mK_tell m1 (c := a) (f := b) (s := c) (by rw [e0]; exact hq)
    rw [← e2] at m2 F2
    exact ⟨cK_M F2 sm0 k1, m2, fr_tell hr hq F F2 e1 e2⟩
  · rw [if_neg hq] at e1
    subst e1
    rw [← e, if_neg hq] at e2
    subst e2
    exact ⟨k, m, hr⟩
end FX
/-! the full relation with the model's bytes: at first, and a colour that is told -/
section FX8
variable {sc : List Int32} {t : hy_T}
theorem fr8_0 : fr8 t0 := ⟨fr_0, fun j hj => (show (-128 : Int) ≤ 0 ∧ (0 : Int) ≤ 127 by decide)⟩
theorem fr8_col {a b c : Int} (h : ci_I fr8 t) : (hy_Ct sc hm_W_colour 3 [.inr (some 2), .inl a, .inl b, .inl c] t (fun r t1 => ∃ v : Int, r = some v ∧ (t1 = if sp_tellable (t 5 2) a b c = true then sp_tellC t a b c else t))) ∧ ∀ (v : Int) (t1 : hy_T), (t1 = if sp_tellable (t 5 2) a b c = true then sp_tellC t a b c else t) → hy_Ct sc hm_M_colour 2 [.inr (some 59), .inl a, .inl b, .inl c] t1 (fun r t2 => ∃ v2 : Int, r = some v2 ∧ ci_I fr8 t2) := by
  obtain ⟨k, m, hr, h8⟩ := h
  have e : t 5 2 = t 59 0 := hr.1.2.1.1.1
  refine ⟨c_W_colour.mono (fun r t' q => ⟨_, q.1, q.2⟩), fun v t1 e1 => c_M_colour.mono (fun r t2 q => ?_)⟩
  obtain ⟨rfl, e2⟩ := q
  refine ⟨_, rfl, ?_⟩
  by_cases hq : sp_tellable (t 5 2) a b c = true
  · rw [if_pos hq] at e1
    obtain ⟨k1, F⟩ := cK_tell k hq
    rw [← e1] at k1 F
    have e0 : t1 59 0 = t 5 2 := (F 59 0 rfl).trans e.symm
    have m1 := mK_W F sw0 m
    rw [e0, if_pos hq] at e2
    obtain ⟨m2, F2⟩ := mK_tell m1 (c := a) (f := b) (s := c) (by rw [e0]; exact hq)
    rw [← e2] at m2 F2
    exact ⟨cK_M F2 sm0 k1, m2, fr_tell hr hq F F2 e1 e2, b8_F h8 F F2 (fun _ => rfl) (fun _ => rfl)⟩
  · rw [if_neg hq] at e1
    subst e1
    rw [← e, if_neg hq] at e2
    subst e2
    exact ⟨k, m, hr, h8⟩
end FX8
/-! the class's gain, exactly -/
theorem sp_worth_G {X : Nat → Nat → Bool} {t t1 : hy_T} (h : hy_F X t t1) (hx : frees X (fun r j => lawX r j || r == 9 || r == 35 || r == 34 || r == 6 || r == 7 || (r == 5 && j == 3) || (r == 33 && j == 4))) (e q : Int) : sp_worth t1 e q = sp_worth t e q := by
  have hl : lc_same t t1 := lc_same_of h (fun r j k => hx r j (by simp only [k]; simp))
  have es : sp_seen t1 e q = sp_seen t e q := by
    unfold sp_seen
    rw [show t1 34 = t 34 from funext fun j => h 34 j (hx 34 j (by simp)), sp_seenN_G h hl (hx 33 4 (by simp)) (hx 5 3 (by simp)) (fun j => hx 6 j (by simp)) (fun j => hx 7 j (by simp))]
  unfold sp_worth
  rw [es]
  exact sp_worthN_eq (fun c _ => sp_price_G h hl (fun j => hx 9 j (by simp)) (fun j => hx 35 j (by simp)) (fun j => hx 34 j (by simp)) (hx 5 3 (by simp)) (hx 33 4 (by simp)) e q 0 c) _ 12 (Nat.le_refl _)
theorem sp_worth_in (t : hy_T) (e q : Int) : 0 ≤ sp_worth t e q ∧ sp_worth t e q ≤ 76800 := by
  have := sp_worthN_le (f := fun c => sp_price t e q 0 c) (fun c _ => sp_price_le t e q 0 c) (sp_seen t e q) 12 (Nat.le_refl _)
  unfold sp_worth
  omega
theorem setH_E {X : Nat → Nat → Bool} {t t1 : hy_T} (h : hy_F X t t1) (c q v : Int) : hy_F X (sp_setH 33 t c q v) (sp_setH 33 t1 c q v) := by
  unfold sp_setH
  split
  · exact hE_up h _ _ _
  · exact h
section GX
variable {sc : List Int32} {t : hy_T}
theorem c_W_gain_x {e c q : Int} (hk : lc_ok t) : hy_Ct sc hm_W_gain 6 [.inr (some 2), .inl e, .inl c, .inl q] t (fun r t' => r = some (wf_gain t e c q) ∧ hy_F pX t t') := by
  refine hy_mk_ct ok_W_gain ck_W_gain (Nat.le_of_ble_eq_true rfl) ?_
  by_cases hq : ((0 ≤ e ∧ e < 6) ∧ wf_plain t c = true ∧ 0 ≤ q ∧ q < 4) ∧ hz_b (sp_hav (t 34) c q) e = false
  · have ew : wf_gain t e c q = sp_worth (sp_setH 33 t c q (hz_ior (sp_hav (t 34) c q) (hz_ishl 1 e))) e q - sp_worth t e q := if_pos hq
    rw [ew]
    refine hy_iload (i := 0) rfl rfl ?_
    refine hy_cS1e (i := 1) rfl (by decide) mj_W_isEmpire (by decide) rfl (Nat.le_of_ble_eq_true rfl) (c_W_isEmpire) ?_
    refine hy_ib_eq (i := 2) (tt := 11) rfl (fun zc1 => ?_) (fun zc1 => ?_)
    · simp at zc1; omega
    · refine hy_aload (i := 3) rfl rfl ?_
      refine hy_getr (i := 4) rfl rfl ?_
      refine hy_iload (i := 5) rfl rfl ?_
      refine hy_cV1e (i := 6) rfl mj_P_isPlain (by decide) rfl (Nat.le_of_ble_eq_true rfl) rfl rfl rfl (c_P_isPlain) ?_
      refine hy_ib_eq (i := 7) (tt := 11) rfl (fun zc2 => ?_) (fun zc2 => ?_)
      · exact absurd (hq.1.2.1.symm.trans zc2) (by decide)
      · refine hy_iload (i := 8) rfl rfl ?_
        refine hy_cS1e (i := 9) rfl (by decide) mj_W_isQuarter (by decide) rfl (Nat.le_of_ble_eq_true rfl) (c_W_isQuarter) ?_
        refine hy_ib_ne (i := 10) (tt := 13) rfl (fun zc3 => ?_) (fun zc3 => ?_)
        · refine hy_aload (i := 13) rfl rfl ?_
          refine hy_getr (i := 14) rfl rfl ?_
          refine hy_iload (i := 15) rfl rfl ?_
          refine hy_iload (i := 16) rfl rfl ?_
          refine hy_cV2e (i := 17) rfl mj_S_havers (by decide) rfl (Nat.le_of_ble_eq_true rfl) rfl rfl rfl (c_S_havers_33) ?_
          refine hy_istore (i := 18) rfl ?_
          refine hy_iload (i := 19) rfl rfl ?_
          refine hy_iload (i := 20) rfl rfl ?_
          refine hy_cS2e (i := 21) rfl (by decide) mj_W_bit (by decide) rfl (Nat.le_of_ble_eq_true rfl) (c_W_bit) ?_
          refine hy_const (i := 22) rfl (by decide) ?_
          refine hy_icb_ne (i := 23) (tt := 26) rfl (fun zc4 => ?_) (fun zc4 => ?_)
          · refine hy_aload (i := 26) rfl rfl ?_
            refine hy_getr (i := 27) rfl rfl ?_
            refine hy_iload (i := 28) rfl rfl ?_
            refine hy_iload (i := 29) rfl rfl ?_
            refine hy_cV2 (i := 30) rfl mj_U_worthTo (by decide) rfl (Nat.le_of_ble_eq_true rfl) rfl rfl rfl (c_U_worthTo hk) (fun r6_ t6_ h6 => ?_)
            obtain ⟨rfl, hF6⟩ := h6
            dsimp only [hy_st, List.cons_append, List.nil_append]
            refine hy_istore (i := 31) rfl ?_
            refine hy_aload (i := 32) rfl rfl ?_
            refine hy_getr (i := 33) rfl rfl ?_
            refine hy_iload (i := 34) rfl rfl ?_
            refine hy_iload (i := 35) rfl rfl ?_
            refine hy_iload (i := 36) rfl rfl ?_
            refine hy_const (i := 37) rfl (by decide) ?_
            refine hy_iload (i := 38) rfl rfl ?_
            refine hy_ishl (i := 39) rfl ?_
            refine hy_ior (i := 40) rfl ?_
            refine hy_cV3v (i := 41) rfl mj_S_setHavers (by decide) rfl (Nat.le_of_ble_eq_true rfl) rfl rfl rfl (c_S_setHavers_33) ?_
            refine hy_aload (i := 42) rfl rfl ?_
            refine hy_getr (i := 43) rfl rfl ?_
            refine hy_iload (i := 44) rfl rfl ?_
            refine hy_iload (i := 45) rfl rfl ?_
            have hk2 : lc_ok (sp_setH 33 t6_ c q (hz_ior (sp_hav (t 34) c q) (hz_ishl 1 e))) := lc_ok_same (lc_same_of (X := fun r _ => r == 34) (by unfold sp_setH; split; exact hy_F.rf.up rfl; exact hy_F.rf) (fun r j h => by revert h; simp [lawX]; omega)) (lc_ok_same (pX_law hF6) hk)
            refine hy_cV2 (i := 46) rfl mj_U_worthTo (by decide) rfl (Nat.le_of_ble_eq_true rfl) rfl rfl rfl (c_U_worthTo hk2) (fun r8_ t8_ h8 => ?_)
            obtain ⟨rfl, hF8⟩ := h8
            dsimp only [hy_st, List.cons_append, List.nil_append]
            refine hy_istore (i := 47) rfl ?_
            refine hy_aload (i := 48) rfl rfl ?_
            refine hy_getr (i := 49) rfl rfl ?_
            refine hy_iload (i := 50) rfl rfl ?_
            refine hy_iload (i := 51) rfl rfl ?_
            refine hy_iload (i := 52) rfl rfl ?_
            refine hy_cV3v (i := 53) rfl mj_S_setHavers (by decide) rfl (Nat.le_of_ble_eq_true rfl) rfl rfl rfl (c_S_setHavers_33) ?_
            refine hy_iload (i := 54) rfl rfl ?_
            refine hy_iload (i := 55) rfl rfl ?_
            refine hy_isub (i := 56) rfl (by have q1 := sp_worth_in (sp_setH 33 t6_ c q (hz_ior (sp_hav (t 34) c q) (hz_ishl 1 e))) e q; have q2 := sp_worth_in t e q; unfold hy_R; omega) ?_
            refine hy_ireturn (i := 57) rfl rfl ?_
            refine ⟨congrArg some (by rw [sp_worth_G (setH_E hF6 c q _) (fun r j k => by revert k; simp only [lawX, pX, Bool.or_eq_true, Bool.and_eq_true, beq_iff_eq, Bool.or_eq_false_iff, Bool.and_eq_false_iff, beq_eq_false_iff_ne]; omega)]), ?_⟩; have hG := gain_F hF6 (by assumption); rw [show t6_ 34 = t 34 from funext fun j => hF6 34 j rfl] at hG; exact hG
          · exfalso; simp_all [hy_b]
        · simp at zc3; omega
  · have ew : wf_gain t e c q = -1000000000 := if_neg hq
    rw [ew]
    refine hy_iload (i := 0) rfl rfl ?_
    refine hy_cS1e (i := 1) rfl (by decide) mj_W_isEmpire (by decide) rfl (Nat.le_of_ble_eq_true rfl) (c_W_isEmpire) ?_
    refine hy_ib_eq (i := 2) (tt := 11) rfl (fun zc1 => ?_) (fun zc1 => ?_)
    · refine hy_const (i := 11) rfl (by decide) ?_
      refine hy_ireturn (i := 12) rfl rfl ?_
      exact ⟨rfl, hy_F.rf⟩
    · refine hy_aload (i := 3) rfl rfl ?_
      refine hy_getr (i := 4) rfl rfl ?_
      refine hy_iload (i := 5) rfl rfl ?_
      refine hy_cV1e (i := 6) rfl mj_P_isPlain (by decide) rfl (Nat.le_of_ble_eq_true rfl) rfl rfl rfl (c_P_isPlain) ?_
      refine hy_ib_eq (i := 7) (tt := 11) rfl (fun zc2 => ?_) (fun zc2 => ?_)
      · refine hy_const (i := 11) rfl (by decide) ?_
        refine hy_ireturn (i := 12) rfl rfl ?_
        exact ⟨rfl, hy_F.rf⟩
      · refine hy_iload (i := 8) rfl rfl ?_
        refine hy_cS1e (i := 9) rfl (by decide) mj_W_isQuarter (by decide) rfl (Nat.le_of_ble_eq_true rfl) (c_W_isQuarter) ?_
        refine hy_ib_ne (i := 10) (tt := 13) rfl (fun zc3 => ?_) (fun zc3 => ?_)
        · refine hy_aload (i := 13) rfl rfl ?_
          refine hy_getr (i := 14) rfl rfl ?_
          refine hy_iload (i := 15) rfl rfl ?_
          refine hy_iload (i := 16) rfl rfl ?_
          refine hy_cV2e (i := 17) rfl mj_S_havers (by decide) rfl (Nat.le_of_ble_eq_true rfl) rfl rfl rfl (c_S_havers_33) ?_
          refine hy_istore (i := 18) rfl ?_
          refine hy_iload (i := 19) rfl rfl ?_
          refine hy_iload (i := 20) rfl rfl ?_
          refine hy_cS2e (i := 21) rfl (by decide) mj_W_bit (by decide) rfl (Nat.le_of_ble_eq_true rfl) (c_W_bit) ?_
          refine hy_const (i := 22) rfl (by decide) ?_
          refine hy_icb_ne (i := 23) (tt := 26) rfl (fun zc4 => ?_) (fun zc4 => ?_)
          · exfalso; apply hq; refine ⟨⟨?_, ?_, ?_⟩, ?_⟩ <;> simp_all [hy_b]
          · refine hy_const (i := 24) rfl (by decide) ?_
            refine hy_ireturn (i := 25) rfl rfl ?_
            exact ⟨rfl, hy_F.rf⟩
        · refine hy_const (i := 11) rfl (by decide) ?_
          refine hy_ireturn (i := 12) rfl rfl ?_
          exact ⟨rfl, hy_F.rf⟩
theorem k17y {a b c : Int} (k : cK t) : hy_Ct sc hm_W_gain 6 [.inr (some 2), .inl a, .inl b, .inl c] t (fun r t' => cQ pX t r t' ∧ r = some (wf_gain t a b c)) := (c_W_gain_x k.lc).mono (fun r t' q => ⟨⟨⟨_, q.1⟩, cK_F q.2 (fun r j q => by revert q; simp only [ckX, ckT, lawX, ckN, ckS, ckP, pX, Bool.or_eq_true, Bool.and_eq_true, beq_iff_eq, Bool.or_eq_false_iff, Bool.and_eq_false_iff, beq_eq_false_iff_ne]; omega) k, q.2⟩, q.1⟩)
end GX
