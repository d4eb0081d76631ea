/-! the model: spies -/
def ms_shownN (t : hy_T) : Nat → Bool
  | 0 => true
  | k + 1 => ms_shownN t k && ((sp_told (t 59 0) (mby t (3 * k)) && decide (mby t (3 * k + 1) ≤ 3)) && decide (mby t (3 * k + 2) ≤ 1))
theorem ms_shownN_le (t : hy_T) : ∀ (n m : Nat), m ≤ n → ms_shownN t n = true → ms_shownN t m = true
  | 0, m, h, hf => by obtain rfl : m = 0 := (by omega); exact hf
  | n + 1, m, h, hf => by
    by_cases hm : m = n + 1
    · rw [hm]; exact hf
    · simp only [ms_shownN, Bool.and_eq_true] at hf
      exact ms_shownN_le t n m (by omega) hf.1
theorem ms_shown_at {t : hy_T} {n k : Nat} (h : ms_shownN t n = true) (hk : k < n) : sp_told (t 59 0) (mby t (3 * k)) = true ∧ mby t (3 * k + 1) ≤ 3 ∧ mby t (3 * k + 2) ≤ 1 := by
  have h1 := ms_shownN_le t n (k + 1) (by omega) h
  simp only [ms_shownN, Bool.and_eq_true, decide_eq_true_eq] at h1
  exact ⟨h1.2.1.1, h1.2.1.2, h1.2.2⟩
theorem ms_shown_no {t : hy_T} {n k : Nat} (hk : k ≤ n) (h : ms_shownN t k = false) : ms_shownN t n = false := by
  cases h1 : ms_shownN t n
  · rfl
  · exact bb_abs (ms_shownN_le t n k hk h1) h
def ms_stop (t : hy_T) (e c q : Int) : Bool := decide (mq_as t e q c.toNat ≠ 12)
def ms_fitN (t : hy_T) (e : Int) : Nat → Bool
  | 0 => true
  | k + 1 => ms_fitN t e k && (ms_stop t e (mby t (3 * k)) (mby t (3 * k + 1)) == decide (t 65 (3 * k + 2) = 1))
theorem ms_fit_no {t : hy_T} {e : Int} : ∀ (n k : Nat), k ≤ n → ms_fitN t e k = false → ms_fitN t e n = false
  | 0, k, h, hf => by obtain rfl : k = 0 := (by omega); exact hf
  | n + 1, k, h, hf => by
    by_cases hk : k = n + 1
    · rw [← hk]; exact hf
    · simp only [ms_fitN, ms_fit_no n k (by omega) hf, Bool.false_and]
def ms_setN (t : hy_T) (n : Nat) : Nat → Int
  | 0 => 0
  | e + 1 => if ms_fitN t e n = true then hz_ior (ms_setN t n e) (hz_ishl 1 e) else ms_setN t n e
def ms_cntN (t : hy_T) (s c q : Int) : Nat → Int
  | 0 => 0
  | e + 1 => ms_cntN t s c q e + (if hz_b s e = true ∧ ms_stop t e c q = true then 1 else 0)
theorem ms_cntN_in (t : hy_T) (s c q : Int) : ∀ n : Nat, 0 ≤ ms_cntN t s c q n ∧ ms_cntN t s c q n ≤ n
  | 0 => by simp [ms_cntN]
  | n + 1 => by
    have h := ms_cntN_in t s c q n
    simp only [ms_cntN]
    split <;> omega
def ms_great (t : hy_T) (s c q : Int) : Int := if mf_bitsN s 12 - ms_cntN t s c q 6 < ms_cntN t s c q 6 then ms_cntN t s c q 6 else mf_bitsN s 12 - ms_cntN t s c q 6
def ms_bestN (t : hy_T) (s : Int) : Nat → Int × Int
  | 0 => (-1, 1000000000)
  | k + 1 => if sp_told (t 59 0) ((k : Int) / 4) = true ∧ ms_great t s ((k : Int) / 4) ((k : Int) % 4) < (ms_bestN t s k).2 then ((k : Int), ms_great t s ((k : Int) / 4) ((k : Int) % 4)) else ms_bestN t s k
def ms_spy (t : hy_T) (n : Nat) (w : Int) : Int := if ms_shownN t n = true then (if w = 0 then ms_setN t n 6 else if w = 1 then hz_div (ms_bestN t (ms_setN t n 6) 48).1 4 else hz_rem (ms_bestN t (ms_setN t n 6) 48).1 4) else -2
abbrev ms_spc (t : hy_T) (n w : Int) : Prop := (1 ≤ n ∧ n ≤ 10) ∧ (0 ≤ w ∧ w ≤ 2) ∧ 3 * n ≤ t 59 9
theorem ms_stop_F {X : Nat → Nat → Bool} {t t1 : hy_T} (h : hy_F X t t1) (hX : ∀ r j, meqX r j = true → X r j = false) (e c q : Int) : ms_stop t1 e c q = ms_stop t e c q := by
  unfold ms_stop
  rw [mq_as_F h hX]
theorem ms_eqb {S : Bool} {v : Int} : (S == decide (v = 1)) = decide (hy_b S = (if v = 1 then 1 else 0)) := by
  by_cases h : v = 1
  · rw [if_pos h, decide_eq_true h]; cases S <;> rfl
  · rw [if_neg h, decide_eq_false h]; cases S <;> rfl
section MY
variable {sc : List Int32} {t : hy_T}
theorem c_M_stops {e c q : Int} (hk : ml_ok t) (hp : me_pal t) (hc : 0 ≤ c ∧ c < 13) (hq : 0 ≤ q ∧ q < 4) : hy_Ct sc hm_M_stops 7 [.inr (some 59), .inl e, .inl c, .inl q] t (fun r t' => r = some (hy_b (ms_stop t e c q)) ∧ hy_F meX t t') := by
  refine hy_mk_ct ok_M_stops ck_M_stops (Nat.le_of_ble_eq_true rfl) ?_
  refine hy_aload (i := 0) rfl rfl ?_
  refine hy_iload (i := 1) rfl rfl ?_
  refine hy_iload (i := 2) rfl rfl ?_
  refine hy_cV2 (i := 3) rfl mj_M_laysAs (by decide) rfl (Nat.le_of_ble_eq_true rfl) rfl rfl rfl (c_M_laysAs (by assumption) (by assumption) (by omega)) (fun r1_ t1_ h1 => ?_)
  obtain ⟨rfl, hF1, hA1⟩ := h1
  dsimp only [hy_st, List.nil_append]
  refine hy_aload (i := 4) rfl rfl ?_
  refine hy_getr (i := 5) rfl rfl ?_
  refine hy_iload (i := 6) rfl rfl ?_
  refine hy_iald (i := 7) rfl rfl (by omega) rfl ?_
  rw [hA1 _ (by omega)]
  refine hy_const (i := 8) rfl (by decide) ?_
  refine hy_ic_eq (i := 9) (tt := 12) rfl (fun zc1 => ?_) (fun zc1 => ?_)
  · refine hy_const (i := 12) rfl (by decide) ?_
    refine hy_zreturn (i := 13) rfl rfl (by first | decide | exact hy_b01 _) ?_
    refine ⟨congrArg some ?_, hF1⟩
    unfold ms_stop
    first | (rw [decide_eq_true (by assumption)]; rfl) | (rw [decide_eq_false (fun h => h (by assumption))]; rfl)
  · refine hy_const (i := 10) rfl (by decide) ?_
    refine hy_goto (i := 11) (tt := 13) rfl ?_
    refine hy_zreturn (i := 13) rfl rfl (by first | decide | exact hy_b01 _) ?_
    refine ⟨congrArg some ?_, hF1⟩
    unfold ms_stop
    first | (rw [decide_eq_true (by assumption)]; rfl) | (rw [decide_eq_false (fun h => h (by assumption))]; rfl)
theorem c_M_areShown {n : Int} (hn : n ≤ 10) : hy_Ct sc hm_M_areShown 2 [.inr (some 59), .inl n] t (hy_e (some (hy_b (ms_shownN t n.toNat))) t) := by
  refine hy_mk_ct ok_M_areShown ck_M_areShown (Nat.le_of_ble_eq_true rfl) ?_
  have loop : ∀ (m : Nat), ∀ (k : Nat), m + k = n.toNat → ms_shownN t k = true → hy_W sc hm_M_areShown 2 2 [.inr (some 59), .inl n, .inl (k : Int)] [] t (hy_e (some (hy_b (ms_shownN t n.toNat))) t) := by
    intro m
    induction m with
    | zero =>
      intro k hm hv
      obtain rfl : k = n.toNat := by omega
      refine hy_iload (i := 2) rfl rfl ?_
      refine hy_iload (i := 3) rfl rfl ?_
      refine hy_ic_ge (i := 4) (tt := 44) rfl (fun zc1 => ?_) (fun zc1 => ?_)
      · refine hy_const (i := 44) rfl (by decide) ?_
        refine hy_zreturn (i := 45) rfl rfl (by first | decide | exact hy_b01 _) ?_
        exact ⟨congrArg some (by rw [hv]; rfl), rfl⟩
      · omega
    | succ m ih =>
      intro k hm hv
      have e1 : ms_shownN t (k + 1) = ((sp_told (t 59 0) (mby t (3 * k)) && decide (mby t (3 * k + 1) ≤ 3)) && decide (mby t (3 * k + 2) ≤ 1)) := by simp only [ms_shownN]; rw [hv, Bool.true_and]
      refine hy_iload (i := 2) rfl rfl ?_
      refine hy_iload (i := 3) rfl rfl ?_
      refine hy_ic_ge (i := 4) (tt := 44) rfl (fun zc1 => ?_) (fun zc1 => ?_)
      · omega
      · refine hy_aload (i := 5) rfl rfl ?_
        refine hy_aload (i := 6) rfl rfl ?_
        refine hy_getr (i := 7) rfl rfl ?_
        refine hy_const (i := 8) rfl (by decide) ?_
        refine hy_iload (i := 9) rfl rfl ?_
        refine hy_imul (i := 10) rfl (by omega) ?_
        refine hy_bald (i := 11) rfl rfl (by decide) (by omega) (k := 3 * k) (by omega) ?_
        refine hy_const (i := 12) rfl (by decide) ?_
        refine hy_iand (i := 13) rfl ?_
        refine hy_cV1e (i := 14) rfl mj_M_isColour (by decide) rfl (Nat.le_of_ble_eq_true rfl) rfl rfl rfl (c_M_isColour) ?_
        refine hy_ib_eq (i := 15) (tt := 40) rfl (fun zc2 => ?_) (fun zc2 => ?_)
        · refine hy_const (i := 40) rfl (by decide) ?_
          refine hy_zreturn (i := 41) rfl rfl (by first | decide | exact hy_b01 _) ?_
          exact ⟨congrArg some (by rw [ms_shown_no (n := n.toNat) (k := k + 1) (by omega) (by rw [e1]; first | (rw [show sp_told (t 59 0) (mby t (3 * k)) = false by assumption]; rfl) | (rw [decide_eq_false (show ¬ mby t (3 * k + 1) ≤ 3 from (by omega : ¬ hz_iand (t 65 (3 * k + 1)) 255 ≤ 3)), Bool.and_false]; rfl) | (rw [decide_eq_false (show ¬ mby t (3 * k + 2) ≤ 1 from (by omega : ¬ hz_iand (t 65 (3 * k + 2)) 255 ≤ 1)), Bool.and_false]))]; rfl), rfl⟩
        · refine hy_aload (i := 16) rfl rfl ?_
          refine hy_getr (i := 17) rfl rfl ?_
          refine hy_const (i := 18) rfl (by decide) ?_
          refine hy_iload (i := 19) rfl rfl ?_
          refine hy_imul (i := 20) rfl (by omega) ?_
          refine hy_const (i := 21) rfl (by decide) ?_
          refine hy_iadd (i := 22) rfl (by omega) ?_
          refine hy_bald (i := 23) rfl rfl (by decide) (by omega) (k := 3 * k + 1) (by omega) ?_
          refine hy_const (i := 24) rfl (by decide) ?_
          refine hy_iand (i := 25) rfl ?_
          refine hy_const (i := 26) rfl (by decide) ?_
          refine hy_ic_gt (i := 27) (tt := 40) rfl (fun zc3 => ?_) (fun zc3 => ?_)
          · refine hy_const (i := 40) rfl (by decide) ?_
            refine hy_zreturn (i := 41) rfl rfl (by first | decide | exact hy_b01 _) ?_
            exact ⟨congrArg some (by rw [ms_shown_no (n := n.toNat) (k := k + 1) (by omega) (by rw [e1]; first | (rw [show sp_told (t 59 0) (mby t (3 * k)) = false by assumption]; rfl) | (rw [decide_eq_false (show ¬ mby t (3 * k + 1) ≤ 3 from (by omega : ¬ hz_iand (t 65 (3 * k + 1)) 255 ≤ 3)), Bool.and_false]; rfl) | (rw [decide_eq_false (show ¬ mby t (3 * k + 2) ≤ 1 from (by omega : ¬ hz_iand (t 65 (3 * k + 2)) 255 ≤ 1)), Bool.and_false]))]; rfl), rfl⟩
          · refine hy_aload (i := 28) rfl rfl ?_
            refine hy_getr (i := 29) rfl rfl ?_
            refine hy_const (i := 30) rfl (by decide) ?_
            refine hy_iload (i := 31) rfl rfl ?_
            refine hy_imul (i := 32) rfl (by omega) ?_
            refine hy_const (i := 33) rfl (by decide) ?_
            refine hy_iadd (i := 34) rfl (by omega) ?_
            refine hy_bald (i := 35) rfl rfl (by decide) (by omega) (k := 3 * k + 2) (by omega) ?_
            refine hy_const (i := 36) rfl (by decide) ?_
            refine hy_iand (i := 37) rfl ?_
            refine hy_const (i := 38) rfl (by decide) ?_
            refine hy_ic_le (i := 39) (tt := 42) rfl (fun zc4 => ?_) (fun zc4 => ?_)
            · refine hy_iinc (i := 42) rfl rfl (by omega) ?_
              refine hy_goto (i := 43) (tt := 2) rfl ?_
              exact ih (k + 1) (by omega) (by rw [e1, show sp_told (t 59 0) (mby t (3 * k)) = true by assumption, decide_eq_true (show mby t (3 * k + 1) ≤ 3 from (by omega : hz_iand (t 65 (3 * k + 1)) 255 ≤ 3)), decide_eq_true (show mby t (3 * k + 2) ≤ 1 from (by omega : hz_iand (t 65 (3 * k + 2)) 255 ≤ 1))]; rfl)
            · refine hy_const (i := 40) rfl (by decide) ?_
              refine hy_zreturn (i := 41) rfl rfl (by first | decide | exact hy_b01 _) ?_
              exact ⟨congrArg some (by rw [ms_shown_no (n := n.toNat) (k := k + 1) (by omega) (by rw [e1]; first | (rw [show sp_told (t 59 0) (mby t (3 * k)) = false by assumption]; rfl) | (rw [decide_eq_false (show ¬ mby t (3 * k + 1) ≤ 3 from (by omega : ¬ hz_iand (t 65 (3 * k + 1)) 255 ≤ 3)), Bool.and_false]; rfl) | (rw [decide_eq_false (show ¬ mby t (3 * k + 2) ≤ 1 from (by omega : ¬ hz_iand (t 65 (3 * k + 2)) 255 ≤ 1)), Bool.and_false]))]; rfl), rfl⟩
  refine hy_const (i := 0) rfl (by decide) ?_
  refine hy_istore (i := 1) rfl ?_
  exact loop n.toNat 0 rfl rfl
theorem c_M_fitting {n : Int} (hk : ml_ok t) (hp : me_pal t) (hn : 0 ≤ n ∧ n ≤ 10) (hs : ms_shownN t n.toNat = true) : hy_Ct sc hm_M_fitting 8 [.inr (some 59), .inl n] t (fun r t' => r = some (ms_setN t n.toNat 6) ∧ hy_F meX t t') := by
  refine hy_mk_ct ok_M_fitting ck_M_fitting (Nat.le_of_ble_eq_true rfl) ?_
  have loop : ∀ (m : Nat), ∀ (e : Nat) (t1 : hy_T) (v4 v5 : hy_V), m + e = 6 → hy_F meX t t1 → hy_W sc hm_M_fitting 8 4 [.inr (some 59), .inl n, .inl (ms_setN t n.toNat e), .inl (e : Int), v4, v5] [] t1 (fun r t' => r = some (ms_setN t n.toNat 6) ∧ hy_F meX t t') := by
    intro m
    induction m with
    | zero =>
      intro e t1 v4 v5 hm hF
      obtain rfl : e = 6 := by omega
      refine hy_iload (i := 4) rfl rfl ?_
      refine hy_const (i := 5) rfl (by decide) ?_
      refine hy_ic_ge (i := 6) (tt := 69) rfl (fun zc1 => ?_) (fun zc1 => ?_)
      · refine hy_iload (i := 69) rfl rfl ?_
        refine hy_ireturn (i := 70) rfl rfl ?_
        exact ⟨rfl, hF⟩
      · omega
    | succ m ih =>
      intro e t1 v4 v5 hm hF
      have e1 : ms_setN t n.toNat (e + 1) = if ms_fitN t e n.toNat = true then hz_ior (ms_setN t n.toNat e) (hz_ishl 1 e) else ms_setN t n.toNat e := rfl
      have ih' := ih (e + 1)
      rw [e1] at ih'
      have out : ∀ (t2 : hy_T) (x : Bool) (v5 : hy_V), hy_F meX t t2 → x = ms_fitN t e n.toNat → hy_W sc hm_M_fitting 8 57 [.inr (some 59), .inl n, .inl (ms_setN t n.toNat e), .inl (e : Int), .inl (hy_b x), v5] [] t2 (fun r t' => r = some (ms_setN t n.toNat 6) ∧ hy_F meX t t') := by
        intro t2 x v5 hF2 hx
        rw [← hx] at ih'
        refine hy_iload (i := 57) rfl rfl ?_
        refine hy_ib_eq (i := 58) (tt := 65) rfl (fun zc1 => ?_) (fun zc1 => ?_)
        · refine hy_iload (i := 65) rfl rfl ?_
          refine hy_istore (i := 66) rfl ?_
          refine hy_iinc (i := 67) rfl rfl (by omega) ?_
          refine hy_goto (i := 68) (tt := 4) rfl ?_
          first | (rw [if_pos (by assumption)] at ih'; exact ih' _ _ _ (by omega) hF2) | (rw [if_neg (fun h => bb_abs h (by assumption))] at ih'; exact ih' _ _ _ (by omega) hF2)
        · refine hy_iload (i := 59) rfl rfl ?_
          refine hy_const (i := 60) rfl (by decide) ?_
          refine hy_iload (i := 61) rfl rfl ?_
          refine hy_ishl (i := 62) rfl ?_
          refine hy_ior (i := 63) rfl ?_
          refine hy_goto (i := 64) (tt := 66) rfl ?_
          refine hy_istore (i := 66) rfl ?_
          refine hy_iinc (i := 67) rfl rfl (by omega) ?_
          refine hy_goto (i := 68) (tt := 4) rfl ?_
          first | (rw [if_pos (by assumption)] at ih'; exact ih' _ _ _ (by omega) hF2) | (rw [if_neg (fun h => bb_abs h (by assumption))] at ih'; exact ih' _ _ _ (by omega) hF2)
      have inner : ∀ (m2 : Nat), ∀ (k : Nat) (t2 : hy_T) (x : Bool), m2 + k = n.toNat → hy_F meX t t2 → x = ms_fitN t e k → hy_W sc hm_M_fitting 8 11 [.inr (some 59), .inl n, .inl (ms_setN t n.toNat e), .inl (e : Int), .inl (hy_b x), .inl (k : Int)] [] t2 (fun r t' => r = some (ms_setN t n.toNat 6) ∧ hy_F meX t t') := by
        intro m2
        induction m2 with
        | zero =>
          intro k t2 x hm2 hF2 hx
          obtain rfl : k = n.toNat := by omega
          refine hy_iload (i := 11) rfl rfl ?_
          refine hy_iload (i := 12) rfl rfl ?_
          refine hy_ic_ge (i := 13) (tt := 57) rfl (fun zc1 => ?_) (fun zc1 => ?_)
          · exact out t2 x _ hF2 hx
          · omega
        | succ m2 ih2 =>
          intro k t2 x hm2 hF2 hx
          have hb := ms_shown_at hs (k := k) (by omega)
          have hc := sp_told_in hb.1
          have hb2 := mby_in t (3 * k + 1)
          have hcA : 0 ≤ hz_iand (t 65 (3 * k)) 255 ∧ hz_iand (t 65 (3 * k)) 255 < 12 := hc
          have hbA : 0 ≤ hz_iand (t 65 (3 * k + 1)) 255 ∧ hz_iand (t 65 (3 * k + 1)) 255 ≤ 3 := ⟨hb2.1, hb.2.1⟩
          have hk2 := ml_ok_F hF2 (meq_law meX_meq) hk
          have hp2 := me_pal_F hF2 rfl (fun _ => rfl) (fun _ => rfl) hp
          have g : ∀ j, t2 65 j = t 65 j := fun j => hF2 65 j rfl
          have e2 : ms_fitN t e (k + 1) = (ms_fitN t e k && (ms_stop t e (mby t (3 * k)) (mby t (3 * k + 1)) == decide (t 65 (3 * k + 2) = 1))) := rfl
          refine hy_iload (i := 11) rfl rfl ?_
          refine hy_iload (i := 12) rfl rfl ?_
          refine hy_ic_ge (i := 13) (tt := 57) rfl (fun zc1 => ?_) (fun zc1 => ?_)
          · omega
          · refine hy_iload (i := 14) rfl rfl ?_
            refine hy_ib_eq (i := 15) (tt := 57) rfl (fun zc2 => ?_) (fun zc2 => ?_)
            · exact out t2 x _ hF2 (by rw [show x = false by assumption]; exact (ms_fit_no n.toNat k (by omega) (hx.symm.trans (by assumption))).symm)
            · refine hy_aload (i := 16) rfl rfl ?_
              refine hy_iload (i := 17) rfl rfl ?_
              refine hy_aload (i := 18) rfl rfl ?_
              refine hy_getr (i := 19) rfl rfl ?_
              refine hy_const (i := 20) rfl (by decide) ?_
              refine hy_iload (i := 21) rfl rfl ?_
              refine hy_imul (i := 22) rfl (by omega) ?_
              refine hy_bald (i := 23) rfl rfl (by decide) (by omega) (k := 3 * k) (by omega) ?_
              rw [g]
              refine hy_const (i := 24) rfl (by decide) ?_
              refine hy_iand (i := 25) rfl ?_
              refine hy_aload (i := 26) rfl rfl ?_
              refine hy_getr (i := 27) rfl rfl ?_
              refine hy_const (i := 28) rfl (by decide) ?_
              refine hy_iload (i := 29) rfl rfl ?_
              refine hy_imul (i := 30) rfl (by omega) ?_
              refine hy_const (i := 31) rfl (by decide) ?_
              refine hy_iadd (i := 32) rfl (by omega) ?_
              refine hy_bald (i := 33) rfl rfl (by decide) (by omega) (k := 3 * k + 1) (by omega) ?_
              rw [g]
              refine hy_const (i := 34) rfl (by decide) ?_
              refine hy_iand (i := 35) rfl ?_
              refine hy_cV3 (i := 36) rfl mj_M_stops (by decide) rfl (Nat.le_of_ble_eq_true rfl) rfl rfl rfl (c_M_stops hk2 hp2 (by omega) (by omega)) (fun r1_ t1_ h1 => ?_)
              obtain ⟨rfl, hF1⟩ := h1
              dsimp only [hy_st, List.cons_append, List.nil_append]
              rw [ms_stop_F hF2 meX_meq]
              refine hy_aload (i := 37) rfl rfl ?_
              refine hy_getr (i := 38) rfl rfl ?_
              refine hy_const (i := 39) rfl (by decide) ?_
              refine hy_iload (i := 40) rfl rfl ?_
              refine hy_imul (i := 41) rfl (by omega) ?_
              refine hy_const (i := 42) rfl (by decide) ?_
              refine hy_iadd (i := 43) rfl (by omega) ?_
              refine hy_bald (i := 44) rfl rfl (by decide) (by omega) (k := 3 * k + 2) (by omega) ?_
              rw [show t1_ 65 (3 * k + 2) = t 65 (3 * k + 2) from (hF1 65 _ rfl).trans (g _)]
              refine hy_const (i := 45) rfl (by decide) ?_
              refine hy_ic_ne (i := 46) (tt := 49) rfl (fun zc3 => ?_) (fun zc3 => ?_)
              · refine hy_const (i := 49) rfl (by decide) ?_
                refine hy_ic_ne (i := 50) (tt := 53) rfl (fun zc4 => ?_) (fun zc4 => ?_)
                · refine hy_const (i := 53) rfl (by decide) ?_
                  refine hy_istore (i := 54) rfl ?_
                  refine hy_iinc (i := 55) rfl rfl (by omega) ?_
                  refine hy_goto (i := 56) (tt := 11) rfl ?_
                  first | exact ih2 (k + 1) _ true (by omega) (hF2.tr' hF1) (by rw [e2, ← hx, show x = true by assumption, Bool.true_and, ms_eqb, if_pos (by assumption), decide_eq_true (by assumption)]) | exact ih2 (k + 1) _ true (by omega) (hF2.tr' hF1) (by rw [e2, ← hx, show x = true by assumption, Bool.true_and, ms_eqb, if_neg (by assumption), decide_eq_true (by assumption)]) | exact ih2 (k + 1) _ false (by omega) (hF2.tr' hF1) (by rw [e2, ← hx, show x = true by assumption, Bool.true_and, ms_eqb, if_pos (by assumption), decide_eq_false (by assumption)]) | exact ih2 (k + 1) _ false (by omega) (hF2.tr' hF1) (by rw [e2, ← hx, show x = true by assumption, Bool.true_and, ms_eqb, if_neg (by assumption), decide_eq_false (by assumption)])
                · refine hy_const (i := 51) rfl (by decide) ?_
                  refine hy_goto (i := 52) (tt := 54) rfl ?_
                  refine hy_istore (i := 54) rfl ?_
                  refine hy_iinc (i := 55) rfl rfl (by omega) ?_
                  refine hy_goto (i := 56) (tt := 11) rfl ?_
                  first | exact ih2 (k + 1) _ true (by omega) (hF2.tr' hF1) (by rw [e2, ← hx, show x = true by assumption, Bool.true_and, ms_eqb, if_pos (by assumption), decide_eq_true (by assumption)]) | exact ih2 (k + 1) _ true (by omega) (hF2.tr' hF1) (by rw [e2, ← hx, show x = true by assumption, Bool.true_and, ms_eqb, if_neg (by assumption), decide_eq_true (by assumption)]) | exact ih2 (k + 1) _ false (by omega) (hF2.tr' hF1) (by rw [e2, ← hx, show x = true by assumption, Bool.true_and, ms_eqb, if_pos (by assumption), decide_eq_false (by assumption)]) | exact ih2 (k + 1) _ false (by omega) (hF2.tr' hF1) (by rw [e2, ← hx, show x = true by assumption, Bool.true_and, ms_eqb, if_neg (by assumption), decide_eq_false (by assumption)])
              · refine hy_const (i := 47) rfl (by decide) ?_
                refine hy_goto (i := 48) (tt := 50) rfl ?_
                refine hy_ic_ne (i := 50) (tt := 53) rfl (fun zc4 => ?_) (fun zc4 => ?_)
                · refine hy_const (i := 53) rfl (by decide) ?_
                  refine hy_istore (i := 54) rfl ?_
                  refine hy_iinc (i := 55) rfl rfl (by omega) ?_
                  refine hy_goto (i := 56) (tt := 11) rfl ?_
                  first | exact ih2 (k + 1) _ true (by omega) (hF2.tr' hF1) (by rw [e2, ← hx, show x = true by assumption, Bool.true_and, ms_eqb, if_pos (by assumption), decide_eq_true (by assumption)]) | exact ih2 (k + 1) _ true (by omega) (hF2.tr' hF1) (by rw [e2, ← hx, show x = true by assumption, Bool.true_and, ms_eqb, if_neg (by assumption), decide_eq_true (by assumption)]) | exact ih2 (k + 1) _ false (by omega) (hF2.tr' hF1) (by rw [e2, ← hx, show x = true by assumption, Bool.true_and, ms_eqb, if_pos (by assumption), decide_eq_false (by assumption)]) | exact ih2 (k + 1) _ false (by omega) (hF2.tr' hF1) (by rw [e2, ← hx, show x = true by assumption, Bool.true_and, ms_eqb, if_neg (by assumption), decide_eq_false (by assumption)])
                · refine hy_const (i := 51) rfl (by decide) ?_
                  refine hy_goto (i := 52) (tt := 54) rfl ?_
                  refine hy_istore (i := 54) rfl ?_
                  refine hy_iinc (i := 55) rfl rfl (by omega) ?_
                  refine hy_goto (i := 56) (tt := 11) rfl ?_
                  first | exact ih2 (k + 1) _ true (by omega) (hF2.tr' hF1) (by rw [e2, ← hx, show x = true by assumption, Bool.true_and, ms_eqb, if_pos (by assumption), decide_eq_true (by assumption)]) | exact ih2 (k + 1) _ true (by omega) (hF2.tr' hF1) (by rw [e2, ← hx, show x = true by assumption, Bool.true_and, ms_eqb, if_neg (by assumption), decide_eq_true (by assumption)]) | exact ih2 (k + 1) _ false (by omega) (hF2.tr' hF1) (by rw [e2, ← hx, show x = true by assumption, Bool.true_and, ms_eqb, if_pos (by assumption), decide_eq_false (by assumption)]) | exact ih2 (k + 1) _ false (by omega) (hF2.tr' hF1) (by rw [e2, ← hx, show x = true by assumption, Bool.true_and, ms_eqb, if_neg (by assumption), decide_eq_false (by assumption)])
      refine hy_iload (i := 4) rfl rfl ?_
      refine hy_const (i := 5) rfl (by decide) ?_
      refine hy_ic_ge (i := 6) (tt := 69) rfl (fun zc1 => ?_) (fun zc1 => ?_)
      · omega
      · refine hy_const (i := 7) rfl (by decide) ?_
        refine hy_istore (i := 8) rfl ?_
        refine hy_const (i := 9) rfl (by decide) ?_
        refine hy_istore (i := 10) rfl ?_
        exact inner n.toNat 0 t1 true (by omega) hF rfl
  refine hy_const (i := 0) rfl (by decide) ?_
  refine hy_istore (i := 1) rfl ?_
  refine hy_const (i := 2) rfl (by decide) ?_
  refine hy_istore (i := 3) rfl ?_
  exact loop 6 0 t _ _ rfl hy_F.rf
theorem c_M_greaterBy {s c q : Int} (hk : ml_ok t) (hp : me_pal t) (hc : 0 ≤ c ∧ c < 13) (hq : 0 ≤ q ∧ q < 4) : hy_Ct sc hm_M_greaterBy 8 [.inr (some 59), .inl s, .inl c, .inl q] t (fun r t' => r = some (ms_great t s c q) ∧ hy_F meX t t') := by
  refine hy_mk_ct ok_M_greaterBy ck_M_greaterBy (Nat.le_of_ble_eq_true rfl) ?_
  have hb := mf_bitsN_in s 12
  have loop : ∀ (m : Nat), ∀ (e : Nat) (t1 : hy_T), m + e = 6 → hy_F meX t t1 → hy_W sc hm_M_greaterBy 8 4 [.inr (some 59), .inl s, .inl c, .inl q, .inl (ms_cntN t s c q e), .inl (e : Int)] [] t1 (fun r t' => r = some (ms_great t s c q) ∧ hy_F meX t t') := by
    intro m
    induction m with
    | zero =>
      intro e t1 hm hF
      obtain rfl : e = 6 := by omega
      have hin := ms_cntN_in t s c q 6
      refine hy_iload (i := 4) rfl rfl ?_
      refine hy_const (i := 5) rfl (by decide) ?_
      refine hy_ic_ge (i := 6) (tt := 25) rfl (fun zc1 => ?_) (fun zc1 => ?_)
      · refine hy_iload (i := 25) rfl rfl ?_
        refine hy_iload (i := 26) rfl rfl ?_
        refine hy_cS1e (i := 27) rfl (by decide) mj_M_bits (by decide) rfl (Nat.le_of_ble_eq_true rfl) (c_M_bits) ?_
        refine hy_iload (i := 28) rfl rfl ?_
        refine hy_isub (i := 29) rfl (by omega) ?_
        refine hy_cS2e (i := 30) rfl (by decide) mj_M_max (by decide) rfl (Nat.le_of_ble_eq_true rfl) (c_M_max) ?_
        refine hy_ireturn (i := 31) rfl rfl ?_
        exact ⟨rfl, hF⟩
      · omega
    | succ m ih =>
      intro e t1 hm hF
      have hin := ms_cntN_in t s c q e
      have hk1 := ml_ok_F hF (meq_law meX_meq) hk
      have hp1 := me_pal_F hF rfl (fun _ => rfl) (fun _ => rfl) hp
      have e1 : ms_cntN t s c q (e + 1) = ms_cntN t s c q e + (if hz_b s e = true ∧ ms_stop t e c q = true then 1 else 0) := rfl
      have ih' := ih (e + 1)
      rw [e1] at ih'
      refine hy_iload (i := 4) rfl rfl ?_
      refine hy_const (i := 5) rfl (by decide) ?_
      refine hy_ic_ge (i := 6) (tt := 25) rfl (fun zc1 => ?_) (fun zc1 => ?_)
      · omega
      · refine hy_iload (i := 7) rfl rfl ?_
        refine hy_iload (i := 8) rfl rfl ?_
        refine hy_iload (i := 9) rfl rfl ?_
        refine hy_cS2e (i := 10) rfl (by decide) mj_M_has (by decide) rfl (Nat.le_of_ble_eq_true rfl) (c_M_has) ?_
        refine hy_ib_eq (i := 11) (tt := 20) rfl (fun zc2 => ?_) (fun zc2 => ?_)
        · refine hy_const (i := 20) rfl (by decide) ?_
          refine hy_iadd (i := 21) rfl (by omega) ?_
          refine hy_istore (i := 22) rfl ?_
          refine hy_iinc (i := 23) rfl rfl (by omega) ?_
          refine hy_goto (i := 24) (tt := 4) rfl ?_
          first | (rw [if_pos ⟨by assumption, by assumption⟩] at ih'; exact ih' _ (by omega) (hF.tr' (by assumption))) | (rw [if_neg (fun h => bb_abs h.2 (by assumption))] at ih'; exact ih' _ (by omega) (hF.tr' (by assumption))) | (rw [if_neg (fun h => bb_abs h.1 (by assumption))] at ih'; exact ih' _ (by omega) hF)
        · refine hy_aload (i := 12) rfl rfl ?_
          refine hy_iload (i := 13) rfl rfl ?_
          refine hy_iload (i := 14) rfl rfl ?_
          refine hy_iload (i := 15) rfl rfl ?_
          refine hy_cV3 (i := 16) rfl mj_M_stops (by decide) rfl (Nat.le_of_ble_eq_true rfl) rfl rfl rfl (c_M_stops hk1 hp1 hc hq) (fun r2_ t2_ h2 => ?_)
          obtain ⟨rfl, hF2⟩ := h2
          dsimp only [hy_st, List.cons_append, List.nil_append]
          rw [ms_stop_F hF meX_meq]
          refine hy_ib_eq (i := 17) (tt := 20) rfl (fun zc3 => ?_) (fun zc3 => ?_)
          · refine hy_const (i := 20) rfl (by decide) ?_
            refine hy_iadd (i := 21) rfl (by omega) ?_
            refine hy_istore (i := 22) rfl ?_
            refine hy_iinc (i := 23) rfl rfl (by omega) ?_
            refine hy_goto (i := 24) (tt := 4) rfl ?_
            first | (rw [if_pos ⟨by assumption, by assumption⟩] at ih'; exact ih' _ (by omega) (hF.tr' (by assumption))) | (rw [if_neg (fun h => bb_abs h.2 (by assumption))] at ih'; exact ih' _ (by omega) (hF.tr' (by assumption))) | (rw [if_neg (fun h => bb_abs h.1 (by assumption))] at ih'; exact ih' _ (by omega) hF)
          · refine hy_const (i := 18) rfl (by decide) ?_
            refine hy_goto (i := 19) (tt := 21) rfl ?_
            refine hy_iadd (i := 21) rfl (by omega) ?_
            refine hy_istore (i := 22) rfl ?_
            refine hy_iinc (i := 23) rfl rfl (by omega) ?_
            refine hy_goto (i := 24) (tt := 4) rfl ?_
            first | (rw [if_pos ⟨by assumption, by assumption⟩] at ih'; exact ih' _ (by omega) (hF.tr' (by assumption))) | (rw [if_neg (fun h => bb_abs h.2 (by assumption))] at ih'; exact ih' _ (by omega) (hF.tr' (by assumption))) | (rw [if_neg (fun h => bb_abs h.1 (by assumption))] at ih'; exact ih' _ (by omega) hF)
  refine hy_const (i := 0) rfl (by decide) ?_
  refine hy_istore (i := 1) rfl ?_
  refine hy_const (i := 2) rfl (by decide) ?_
  refine hy_istore (i := 3) rfl ?_
  exact loop 6 0 t rfl hy_F.rf
theorem ms_great_F {X : Nat → Nat → Bool} {t t1 : hy_T} (h : hy_F X t t1) (hX : ∀ r j, meqX r j = true → X r j = false) (s c q : Int) : ms_great t1 s c q = ms_great t s c q := by
  have h1 : ∀ n, ms_cntN t1 s c q n = ms_cntN t s c q n := by
    intro n
    induction n with
    | zero => rfl
    | succ n ih => simp only [ms_cntN, ih, ms_stop_F h hX]
  unfold ms_great
  rw [h1]
theorem ms_great_R (t : hy_T) (s c q : Int) : 0 ≤ ms_great t s c q + 12 ∧ ms_great t s c q ≤ 12 := by
  have h1 := mf_bitsN_in s 12
  have h2 := ms_cntN_in t s c q 6
  unfold ms_great
  split <;> omega
theorem ms_bestN_in (t : hy_T) (s : Int) : ∀ n : Nat, -1 ≤ (ms_bestN t s n).1 ∧ (ms_bestN t s n).1 ≤ n
  | 0 => by simp [ms_bestN]
  | n + 1 => by
    have h := ms_bestN_in t s n
    simp only [ms_bestN]
    split
    · dsimp only; omega
    · omega
theorem c_M_spies {n w : Int} (hk : ml_ok t) (hp : me_pal t) (hl : 0 ≤ t 59 9 ∧ t 59 9 ≤ 260) : hy_Ct sc hm_M_spies 9 [.inr (some 59), .inl n, .inl w] t (fun r t' => r = some (if ms_spc t n w then ms_spy (hy_up t 59 9 0) n.toNat w else -1) ∧ hy_F meX (if ms_spc t n w then hy_up t 59 9 0 else t) t') := by
  refine hy_mk_ct ok_M_spies ck_M_spies (Nat.le_of_ble_eq_true rfl) ?_
  by_cases hq : ms_spc t n w
  · rw [if_pos hq]
    simp only [if_pos hq]
    have hku := ml_ok_F (hy_F.rf.up (X := fun r j => r == 59 && j == 9) (t := t) (r := 59) (j := 9) (v := 0) rfl) (fun r j h => by revert h; simp [mlawX]; omega) hk
    have hpu := me_pal_F (hy_F.rf.up (X := fun r j => r == 59 && j == 9) (t := t) (r := 59) (j := 9) (v := 0) rfl) rfl (fun _ => rfl) (fun _ => rfl) hp
    generalize hu : hy_up t 59 9 0 = u at hku hpu ⊢
    have best : ms_shownN u n.toNat = true → w ≠ 0 → ∀ (m : Nat), ∀ (k : Nat) (t1 : hy_T) (v7 : hy_V), m + k = 48 → hy_F meX u t1 → hy_W sc hm_M_spies 9 41 [.inr (some 59), .inl n, .inl w, .inl (ms_setN u n.toNat 6), .inl (ms_bestN u (ms_setN u n.toNat 6) k).1, .inl (ms_bestN u (ms_setN u n.toNat 6) k).2, .inl (k : Int), v7] [] t1 (fun r t' => r = some (ms_spy u n.toNat w) ∧ hy_F meX u t') := by
      intro hs hw m
      induction m with
      | zero =>
        intro k t1 v7 hm hF
        obtain rfl : k = 48 := by omega
        refine hy_iload (i := 41) rfl rfl ?_
        refine hy_const (i := 42) rfl (by decide) ?_
        refine hy_ic_ge (i := 43) (tt := 71) rfl (fun zc1 => ?_) (fun zc1 => ?_)
        · refine hy_iload (i := 71) rfl rfl ?_
          refine hy_const (i := 72) rfl (by decide) ?_
          refine hy_ic_ne (i := 73) (tt := 78) rfl (fun zc2 => ?_) (fun zc2 => ?_)
          · refine hy_iload (i := 78) rfl rfl ?_
            refine hy_const (i := 79) rfl (by decide) ?_
            refine hy_iremw (i := 80) rfl (by decide) ?_
            refine hy_ireturn (i := 81) rfl rfl ?_
            refine ⟨congrArg some ?_, hF⟩
            unfold ms_spy
            rw [if_pos hs, if_neg hw]
            first | (rw [if_pos (by assumption)]; done) | (rw [if_neg (by assumption)]; done)
          · refine hy_iload (i := 74) rfl rfl ?_
            refine hy_const (i := 75) rfl (by decide) ?_
            refine hy_idivw (i := 76) rfl (by decide) ?_
            refine hy_goto (i := 77) (tt := 81) rfl ?_
            refine hy_ireturn (i := 81) rfl rfl ?_
            refine ⟨congrArg some ?_, hF⟩
            unfold ms_spy
            rw [if_pos hs, if_neg hw]
            first | (rw [if_pos (by assumption)]; done) | (rw [if_neg (by assumption)]; done)
        · omega
      | succ m ih =>
        intro k t1 v7 hm hF
        have hk1 := ml_ok_F hF (meq_law meX_meq) hku
        have hp1 := me_pal_F hF rfl (fun _ => rfl) (fun _ => rfl) hpu
        have e0 : t1 59 0 = u 59 0 := hF 59 0 rfl
        have e1 : ms_bestN u (ms_setN u n.toNat 6) (k + 1) = if sp_told (u 59 0) ((k : Int) / 4) = true ∧ ms_great u (ms_setN u n.toNat 6) ((k : Int) / 4) ((k : Int) % 4) < (ms_bestN u (ms_setN u n.toNat 6) k).2 then ((k : Int), ms_great u (ms_setN u n.toNat 6) ((k : Int) / 4) ((k : Int) % 4)) else ms_bestN u (ms_setN u n.toNat 6) k := rfl
        have ih' := ih (k + 1)
        rw [e1] at ih'
        refine hy_iload (i := 41) rfl rfl ?_
        refine hy_const (i := 42) rfl (by decide) ?_
        refine hy_ic_ge (i := 43) (tt := 71) rfl (fun zc1 => ?_) (fun zc1 => ?_)
        · omega
        · refine hy_aload (i := 44) rfl rfl ?_
          refine hy_iload (i := 45) rfl rfl ?_
          refine hy_const (i := 46) rfl (by decide) ?_
          refine hy_idiv (i := 47) rfl (by omega) (by omega) ?_
          refine hy_cV1e (i := 48) rfl mj_M_isColour (by decide) rfl (Nat.le_of_ble_eq_true rfl) rfl rfl rfl (c_M_isColour) ?_
          rw [e0]
          refine hy_ib_ne (i := 49) (tt := 51) rfl (fun zc2 => ?_) (fun zc2 => ?_)
          · refine hy_aload (i := 51) rfl rfl ?_
            refine hy_iload (i := 52) rfl rfl ?_
            refine hy_iload (i := 53) rfl rfl ?_
            refine hy_const (i := 54) rfl (by decide) ?_
            refine hy_idiv (i := 55) rfl (by omega) (by omega) ?_
            refine hy_iload (i := 56) rfl rfl ?_
            refine hy_const (i := 57) rfl (by decide) ?_
            refine hy_irem (i := 58) rfl (by omega) (by omega) ?_
            refine hy_cV3 (i := 59) rfl mj_M_greaterBy (by decide) rfl (Nat.le_of_ble_eq_true rfl) rfl rfl rfl (c_M_greaterBy hk1 hp1 (by omega) (by omega)) (fun r2_ t2_ h2 => ?_)
            obtain ⟨rfl, hF2⟩ := h2
            dsimp only [hy_st, List.cons_append, List.nil_append]
            rw [ms_great_F hF meX_meq]
            refine hy_istore (i := 60) rfl ?_
            refine hy_iload (i := 61) rfl rfl ?_
            refine hy_iload (i := 62) rfl rfl ?_
            refine hy_ic_lt (i := 63) (tt := 65) rfl (fun zc3 => ?_) (fun zc3 => ?_)
            · refine hy_iload (i := 65) rfl rfl ?_
              refine hy_istore (i := 66) rfl ?_
              refine hy_iload (i := 67) rfl rfl ?_
              refine hy_istore (i := 68) rfl ?_
              refine hy_iinc (i := 69) rfl rfl (by omega) ?_
              refine hy_goto (i := 70) (tt := 41) rfl ?_
              first | (rw [if_pos ⟨by assumption, by assumption⟩] at ih'; exact ih' _ _ (by omega) (hF.tr' (by assumption))) | (rw [if_neg (fun h => absurd h.2 (by assumption))] at ih'; exact ih' _ _ (by omega) (hF.tr' (by assumption))) | (rw [if_neg (fun h => bb_abs h.1 (by assumption))] at ih'; exact ih' _ _ (by omega) hF)
            · refine hy_goto (i := 64) (tt := 69) rfl ?_
              refine hy_iinc (i := 69) rfl rfl (by omega) ?_
              refine hy_goto (i := 70) (tt := 41) rfl ?_
              first | (rw [if_pos ⟨by assumption, by assumption⟩] at ih'; exact ih' _ _ (by omega) (hF.tr' (by assumption))) | (rw [if_neg (fun h => absurd h.2 (by assumption))] at ih'; exact ih' _ _ (by omega) (hF.tr' (by assumption))) | (rw [if_neg (fun h => bb_abs h.1 (by assumption))] at ih'; exact ih' _ _ (by omega) hF)
          · refine hy_goto (i := 50) (tt := 69) rfl ?_
            refine hy_iinc (i := 69) rfl rfl (by omega) ?_
            refine hy_goto (i := 70) (tt := 41) rfl ?_
            first | (rw [if_pos ⟨by assumption, by assumption⟩] at ih'; exact ih' _ _ (by omega) (hF.tr' (by assumption))) | (rw [if_neg (fun h => absurd h.2 (by assumption))] at ih'; exact ih' _ _ (by omega) (hF.tr' (by assumption))) | (rw [if_neg (fun h => bb_abs h.1 (by assumption))] at ih'; exact ih' _ _ (by omega) hF)
    refine hy_iload (i := 0) rfl rfl ?_
    refine hy_const (i := 1) rfl (by decide) ?_
    refine hy_const (i := 2) rfl (by decide) ?_
    refine hy_cS3e (i := 3) rfl (by decide) mj_M_in (by decide) rfl (Nat.le_of_ble_eq_true rfl) (c_M_in) ?_
    refine hy_ib_eq (i := 4) (tt := 16) rfl (fun zc1 => ?_) (fun zc1 => ?_)
    · simp only [decide_eq_false_iff_not] at zc1; omega
    · refine hy_iload (i := 5) rfl rfl ?_
      refine hy_const (i := 6) rfl (by decide) ?_
      refine hy_const (i := 7) rfl (by decide) ?_
      refine hy_cS3e (i := 8) rfl (by decide) mj_M_in (by decide) rfl (Nat.le_of_ble_eq_true rfl) (c_M_in) ?_
      refine hy_ib_eq (i := 9) (tt := 16) rfl (fun zc2 => ?_) (fun zc2 => ?_)
      · simp only [decide_eq_false_iff_not] at zc2; omega
      · refine hy_const (i := 10) rfl (by decide) ?_
        refine hy_iload (i := 11) rfl rfl ?_
        refine hy_imul (i := 12) rfl (by omega) ?_
        refine hy_aload (i := 13) rfl rfl ?_
        refine hy_get (i := 14) (fk := 9) rfl rfl rfl ?_
        refine hy_ic_le (i := 15) (tt := 18) rfl (fun zc3 => ?_) (fun zc3 => ?_)
        · refine hy_aload (i := 18) rfl rfl ?_
          refine hy_const (i := 19) rfl (by decide) ?_
          refine hy_put (i := 20) (fk := 9) rfl rfl rfl rfl ?_
          rw [hu]
          refine hy_aload (i := 21) rfl rfl ?_
          refine hy_iload (i := 22) rfl rfl ?_
          refine hy_cV1e (i := 23) rfl mj_M_areShown (by decide) rfl (Nat.le_of_ble_eq_true rfl) rfl rfl rfl (c_M_areShown (by omega)) ?_
          refine hy_ib_ne (i := 24) (tt := 27) rfl (fun zc4 => ?_) (fun zc4 => ?_)
          · refine hy_aload (i := 27) rfl rfl ?_
            refine hy_iload (i := 28) rfl rfl ?_
            refine hy_cV1 (i := 29) rfl mj_M_fitting (by decide) rfl (Nat.le_of_ble_eq_true rfl) rfl rfl rfl (c_M_fitting (by assumption) (by assumption) (by omega) (by assumption)) (fun r4_ t4_ h4 => ?_)
            obtain ⟨rfl, hF4⟩ := h4
            dsimp only [hy_st, List.cons_append, List.nil_append]
            refine hy_istore (i := 30) rfl ?_
            refine hy_iload (i := 31) rfl rfl ?_
            refine hy_if_ne (i := 32) (tt := 35) rfl (fun zc5 => ?_) (fun zc5 => ?_)
            · refine hy_const (i := 35) rfl (by decide) ?_
              refine hy_istore (i := 36) rfl ?_
              refine hy_const (i := 37) rfl (by decide) ?_
              refine hy_istore (i := 38) rfl ?_
              refine hy_const (i := 39) rfl (by decide) ?_
              refine hy_istore (i := 40) rfl ?_
              exact best (by assumption) (by assumption) 48 0 _ _ rfl (by assumption)
            · refine hy_iload (i := 33) rfl rfl ?_
              refine hy_ireturn (i := 34) rfl rfl ?_
              first | exact ⟨congrArg some (by unfold ms_spy; rw [if_neg (fun h => bb_abs h (by assumption))]), hy_F.rf⟩ | exact ⟨congrArg some (by unfold ms_spy; rw [if_pos (by assumption), if_pos (by assumption)]), by assumption⟩
          · refine hy_const (i := 25) rfl (by decide) ?_
            refine hy_ireturn (i := 26) rfl rfl ?_
            first | exact ⟨congrArg some (by unfold ms_spy; rw [if_neg (fun h => bb_abs h (by assumption))]), hy_F.rf⟩ | exact ⟨congrArg some (by unfold ms_spy; rw [if_pos (by assumption), if_pos (by assumption)]), by assumption⟩
        · omega
  · rw [if_neg hq]
    simp only [if_neg hq]
    refine hy_iload (i := 0) rfl rfl ?_
    refine hy_const (i := 1) rfl (by decide) ?_
    refine hy_const (i := 2) rfl (by decide) ?_
    refine hy_cS3e (i := 3) rfl (by decide) mj_M_in (by decide) rfl (Nat.le_of_ble_eq_true rfl) (c_M_in) ?_
    refine hy_ib_eq (i := 4) (tt := 16) rfl (fun zc1 => ?_) (fun zc1 => ?_)
    · refine hy_const (i := 16) rfl (by decide) ?_
      refine hy_ireturn (i := 17) rfl rfl ?_
      exact ⟨rfl, hy_F.rf⟩
    · refine hy_iload (i := 5) rfl rfl ?_
      refine hy_const (i := 6) rfl (by decide) ?_
      refine hy_const (i := 7) rfl (by decide) ?_
      refine hy_cS3e (i := 8) rfl (by decide) mj_M_in (by decide) rfl (Nat.le_of_ble_eq_true rfl) (c_M_in) ?_
      refine hy_ib_eq (i := 9) (tt := 16) rfl (fun zc2 => ?_) (fun zc2 => ?_)
      · refine hy_const (i := 16) rfl (by decide) ?_
        refine hy_ireturn (i := 17) rfl rfl ?_
        exact ⟨rfl, hy_F.rf⟩
      · refine hy_const (i := 10) rfl (by decide) ?_
        refine hy_iload (i := 11) rfl rfl ?_
        refine hy_imul (i := 12) rfl (by simp only [decide_eq_true_eq] at *; omega) ?_
        refine hy_aload (i := 13) rfl rfl ?_
        refine hy_get (i := 14) (fk := 9) rfl rfl rfl ?_
        refine hy_ic_le (i := 15) (tt := 18) rfl (fun zc3 => ?_) (fun zc3 => ?_)
        · exfalso; simp only [decide_eq_true_eq] at *; exact hq ⟨by assumption, by assumption, by omega⟩
        · refine hy_const (i := 16) rfl (by decide) ?_
          refine hy_ireturn (i := 17) rfl rfl ?_
          exact ⟨rfl, hy_F.rf⟩
end MY
