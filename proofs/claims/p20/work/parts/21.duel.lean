/-! the class's duel -/
def dl_chosen (A B two : Int) : Bool := decide (hz_iand A (hz_ishl 1 (two / 12)) ≠ 0 ∧ hz_iand B (hz_ishl 1 (two % 12)) ≠ 0)
def dl_bestA (t : hy_T) (two : Int) : Bool := decide (∀ c : Nat, c < 12 → ¬ (dl_chosen (t 49 4) (t 49 5) (12 * c + two % 12) = true ∧ t 50 two.toNat < t 50 (12 * c + two % 12).toNat))
def dl_bestB (t : hy_T) (two : Int) : Bool := decide (∀ c : Nat, c < 12 → ¬ (dl_chosen (t 49 4) (t 49 5) (two - two % 12 + c) = true ∧ t 51 two.toNat < t 51 (two - two % 12 + c).toNat))
def dl_good (t : hy_T) (two : Int) : Bool := dl_chosen (t 49 4) (t 49 5) two && dl_bestA t two && dl_bestB t two
/-- how many of the first n twos rest -/
def dl_twos (t : hy_T) : Nat → Int
  | 0 => 0
  | n + 1 => if dl_good t n = true then dl_twos t n + 1 else dl_twos t n
theorem dl_twos_le (t : hy_T) : ∀ n : Nat, 0 ≤ dl_twos t n ∧ dl_twos t n ≤ n
  | 0 => by simp [dl_twos]
  | n + 1 => by
    have h := dl_twos_le t n
    simp only [dl_twos]
    split <;> omega
/-- the first of them -/
def dl_first (t : hy_T) : Nat → Option Nat
  | 0 => none
  | n + 1 => match dl_first t n with
    | some k => some k
    | none => if dl_good t n = true then some n else none
theorem dl_first_none (t : hy_T) : ∀ n : Nat, dl_first t n = none ↔ dl_twos t n = 0
  | 0 => by simp [dl_first, dl_twos]
  | n + 1 => by
    have h := dl_first_none t n
    have h2 := dl_twos_le t n
    simp only [dl_first, dl_twos]
    cases hf : dl_first t n with
    | some k =>
      rw [hf] at h
      have h3 : dl_twos t n ≠ 0 := fun q => by have := h.mpr q; cases this
      simp
      split <;> omega
    | none =>
      rw [hf] at h
      have h3 := h.mp rfl
      show (if dl_good t n = true then some n else none) = none ↔ _
      by_cases hg : dl_good t n = true
      · rw [if_pos hg, if_pos hg]; simp; omega
      · rw [if_neg hg, if_neg hg]; simp [h3]
def dl_a (o : Option Nat) : Int := match o with
  | some k => ((k / 12 : Nat) : Int)
  | none => -2
def dl_b (o : Option Nat) : Int := match o with
  | some k => ((k % 12 : Nat) : Int)
  | none => -2
section DU
variable {sc : List Int32} {t : hy_T}
theorem c_D_taken {w : Int} (hw : 0 ≤ w) : hy_Ct sc hm_D_taken 0 [.inl w] t (hy_e (some (hz_ishl 1 (w / 12))) t) := by
  refine hy_mk_ct ok_D_taken ck_D_taken (Nat.le_of_ble_eq_true rfl) ?_
  refine hy_const (i := 0) rfl (by decide) ?_
  refine hy_iload (i := 1) rfl rfl ?_
  refine hy_const (i := 2) rfl (by decide) ?_
  refine hy_idiv (i := 3) rfl (by omega) (by omega) ?_
  refine hy_ishl (i := 4) rfl ?_
  refine hy_ireturn (i := 5) rfl rfl ?_
  exact ⟨rfl, rfl⟩
theorem c_D_lost {w : Int} (hw : 0 ≤ w) : hy_Ct sc hm_D_lost 0 [.inl w] t (hy_e (some (hz_ishl 1 (w % 12))) t) := by
  refine hy_mk_ct ok_D_lost ck_D_lost (Nat.le_of_ble_eq_true rfl) ?_
  refine hy_const (i := 0) rfl (by decide) ?_
  refine hy_iload (i := 1) rfl rfl ?_
  refine hy_const (i := 2) rfl (by decide) ?_
  refine hy_irem (i := 3) rfl (by omega) (by omega) ?_
  refine hy_ishl (i := 4) rfl ?_
  refine hy_ireturn (i := 5) rfl rfl ?_
  exact ⟨rfl, rfl⟩
theorem c_D_isChosen {w : Int} (hw : 0 ≤ w) : hy_Ct sc hm_D_isChosen 1 [.inr (some 49), .inl w] t (hy_e (some (hy_b (dl_chosen (t 49 4) (t 49 5) w))) t) := by
  refine hy_mk_ct ok_D_isChosen ck_D_isChosen (Nat.le_of_ble_eq_true rfl) ?_
  refine hy_aload (i := 0) rfl rfl ?_
  refine hy_get (i := 1) (fk := 4) rfl rfl rfl ?_
  refine hy_iload (i := 2) rfl rfl ?_
  refine hy_cS1e (i := 3) rfl (by decide) mj_D_taken (by decide) rfl (Nat.le_of_ble_eq_true rfl) (c_D_taken (by omega)) ?_
  refine hy_iand (i := 4) rfl ?_
  refine hy_if_eq (i := 5) (tt := 14) rfl (fun zc1 => ?_) (fun zc1 => ?_)
  · refine hy_const (i := 14) rfl (by decide) ?_
    refine hy_zreturn (i := 15) rfl rfl (by first | decide | exact hy_b01 _) ?_
    exact ⟨congrArg some (by simp_all [hy_b, dl_chosen]), rfl⟩
  · refine hy_aload (i := 6) rfl rfl ?_
    refine hy_get (i := 7) (fk := 5) rfl rfl rfl ?_
    refine hy_iload (i := 8) rfl rfl ?_
    refine hy_cS1e (i := 9) rfl (by decide) mj_D_lost (by decide) rfl (Nat.le_of_ble_eq_true rfl) (c_D_lost (by omega)) ?_
    refine hy_iand (i := 10) rfl ?_
    refine hy_if_eq (i := 11) (tt := 14) rfl (fun zc2 => ?_) (fun zc2 => ?_)
    · refine hy_const (i := 14) rfl (by decide) ?_
      refine hy_zreturn (i := 15) rfl rfl (by first | decide | exact hy_b01 _) ?_
      exact ⟨congrArg some (by simp_all [hy_b, dl_chosen]), rfl⟩
    · refine hy_const (i := 12) rfl (by decide) ?_
      refine hy_goto (i := 13) (tt := 15) rfl ?_
      refine hy_zreturn (i := 15) rfl rfl (by first | decide | exact hy_b01 _) ?_
      exact ⟨congrArg some (by simp_all [hy_b, dl_chosen]), rfl⟩
theorem c_D_isBestOfA {w : Int} (hw : 0 ≤ w ∧ w < 144) : hy_Ct sc hm_D_isBestOfA 2 [.inr (some 49), .inl w] t (hy_e (some (hy_b (dl_bestA t w))) t) := by
  refine hy_mk_ct ok_D_isBestOfA ck_D_isBestOfA (Nat.le_of_ble_eq_true rfl) ?_
  have loop : ∀ (n : Nat), ∀ (k : Nat) (z : hy_V), n + k = 12 → (∀ c : Nat, c < k → ¬ (dl_chosen (t 49 4) (t 49 5) (12 * c + w % 12) = true ∧ t 50 w.toNat < t 50 (12 * c + w % 12).toNat)) → hy_W sc hm_D_isBestOfA 2 2 [.inr (some 49), .inl w, .inl (k : Int), z] [] t (hy_e (some (hy_b (dl_bestA t w))) t) := by
    intro n
    induction n with
    | zero =>
      intro k z hk hi
      obtain rfl : k = 12 := by omega
      refine hy_iload (i := 2) rfl rfl ?_
      refine hy_const (i := 3) rfl (by decide) ?_
      refine hy_ic_ge (i := 4) (tt := 30) rfl (fun zc1 => ?_) (fun zc1 => ?_)
      · refine hy_const (i := 30) rfl (by decide) ?_
        refine hy_zreturn (i := 31) rfl rfl (by first | decide | exact hy_b01 _) ?_
        exact ⟨congrArg some (by rw [show dl_bestA t w = true from decide_eq_true hi]; rfl), rfl⟩
      · omega
    | succ n ih =>
      intro k z hk hi
      refine hy_iload (i := 2) rfl rfl ?_
      refine hy_const (i := 3) rfl (by decide) ?_
      refine hy_ic_ge (i := 4) (tt := 30) rfl (fun zc1 => ?_) (fun zc1 => ?_)
      · omega
      · refine hy_const (i := 5) rfl (by decide) ?_
        refine hy_iload (i := 6) rfl rfl ?_
        refine hy_imul (i := 7) rfl (by omega) ?_
        refine hy_iload (i := 8) rfl rfl ?_
        refine hy_const (i := 9) rfl (by decide) ?_
        refine hy_irem (i := 10) rfl (by omega) (by omega) ?_
        refine hy_iadd (i := 11) rfl (by omega) ?_
        refine hy_istore (i := 12) rfl ?_
        refine hy_aload (i := 13) rfl rfl ?_
        refine hy_iload (i := 14) rfl rfl ?_
        refine hy_cV1e (i := 15) rfl mj_D_isChosen (by decide) rfl (Nat.le_of_ble_eq_true rfl) rfl rfl rfl (c_D_isChosen (by omega)) ?_
        refine hy_ib_eq (i := 16) (tt := 28) rfl (fun zc2 => ?_) (fun zc2 => ?_)
        · refine hy_iinc (i := 28) rfl rfl (by omega) ?_
          refine hy_goto (i := 29) (tt := 2) rfl ?_
          exact ih (k + 1) _ (by omega) (fun c hc => by rcases Nat.lt_succ_iff_lt_or_eq.mp hc with h | rfl; exact hi c h; first | (intro q; exact absurd q.2 (Int.not_lt.mpr (by assumption))) | (intro q; rw [zc2] at q; exact absurd q.1 (by decide)))
        · refine hy_aload (i := 17) rfl rfl ?_
          refine hy_getr (i := 18) rfl rfl ?_
          refine hy_iload (i := 19) rfl rfl ?_
          refine hy_iald (i := 20) rfl rfl (by omega) rfl ?_
          refine hy_aload (i := 21) rfl rfl ?_
          refine hy_getr (i := 22) rfl rfl ?_
          refine hy_iload (i := 23) rfl rfl ?_
          refine hy_iald (i := 24) rfl rfl (by omega) rfl ?_
          refine hy_ic_le (i := 25) (tt := 28) rfl (fun zc3 => ?_) (fun zc3 => ?_)
          · refine hy_iinc (i := 28) rfl rfl (by omega) ?_
            refine hy_goto (i := 29) (tt := 2) rfl ?_
            exact ih (k + 1) _ (by omega) (fun c hc => by rcases Nat.lt_succ_iff_lt_or_eq.mp hc with h | rfl; exact hi c h; first | (intro q; exact absurd q.2 (Int.not_lt.mpr (by assumption))) | (intro q; rw [zc2] at q; exact absurd q.1 (by decide)))
          · refine hy_const (i := 26) rfl (by decide) ?_
            refine hy_zreturn (i := 27) rfl rfl (by first | decide | exact hy_b01 _) ?_
            exact ⟨congrArg some (by rw [show dl_bestA t w = false from decide_eq_false (fun h => h k (by omega) ⟨zc2, Int.not_le.mp zc3⟩)]; rfl), rfl⟩
  refine hy_const (i := 0) rfl (by decide) ?_
  refine hy_istore (i := 1) rfl ?_
  exact loop 12 0 _ rfl (fun q hq => by omega)
theorem c_D_isBestOfB {w : Int} (hw : 0 ≤ w ∧ w < 144) : hy_Ct sc hm_D_isBestOfB 2 [.inr (some 49), .inl w] t (hy_e (some (hy_b (dl_bestB t w))) t) := by
  refine hy_mk_ct ok_D_isBestOfB ck_D_isBestOfB (Nat.le_of_ble_eq_true rfl) ?_
  have loop : ∀ (n : Nat), ∀ (k : Nat) (z : hy_V), n + k = 12 → (∀ c : Nat, c < k → ¬ (dl_chosen (t 49 4) (t 49 5) (w - w % 12 + c) = true ∧ t 51 w.toNat < t 51 (w - w % 12 + c).toNat)) → hy_W sc hm_D_isBestOfB 2 2 [.inr (some 49), .inl w, .inl (k : Int), z] [] t (hy_e (some (hy_b (dl_bestB t w))) t) := by
    intro n
    induction n with
    | zero =>
      intro k z hk hi
      obtain rfl : k = 12 := by omega
      refine hy_iload (i := 2) rfl rfl ?_
      refine hy_const (i := 3) rfl (by decide) ?_
      refine hy_ic_ge (i := 4) (tt := 30) rfl (fun zc1 => ?_) (fun zc1 => ?_)
      · refine hy_const (i := 30) rfl (by decide) ?_
        refine hy_zreturn (i := 31) rfl rfl (by first | decide | exact hy_b01 _) ?_
        exact ⟨congrArg some (by rw [show dl_bestB t w = true from decide_eq_true hi]; rfl), rfl⟩
      · omega
    | succ n ih =>
      intro k z hk hi
      refine hy_iload (i := 2) rfl rfl ?_
      refine hy_const (i := 3) rfl (by decide) ?_
      refine hy_ic_ge (i := 4) (tt := 30) rfl (fun zc1 => ?_) (fun zc1 => ?_)
      · omega
      · refine hy_iload (i := 5) rfl rfl ?_
        refine hy_iload (i := 6) rfl rfl ?_
        refine hy_const (i := 7) rfl (by decide) ?_
        refine hy_irem (i := 8) rfl (by omega) (by omega) ?_
        refine hy_isub (i := 9) rfl (by omega) ?_
        refine hy_iload (i := 10) rfl rfl ?_
        refine hy_iadd (i := 11) rfl (by omega) ?_
        refine hy_istore (i := 12) rfl ?_
        refine hy_aload (i := 13) rfl rfl ?_
        refine hy_iload (i := 14) rfl rfl ?_
        refine hy_cV1e (i := 15) rfl mj_D_isChosen (by decide) rfl (Nat.le_of_ble_eq_true rfl) rfl rfl rfl (c_D_isChosen (by omega)) ?_
        refine hy_ib_eq (i := 16) (tt := 28) rfl (fun zc2 => ?_) (fun zc2 => ?_)
        · refine hy_iinc (i := 28) rfl rfl (by omega) ?_
          refine hy_goto (i := 29) (tt := 2) rfl ?_
          exact ih (k + 1) _ (by omega) (fun c hc => by rcases Nat.lt_succ_iff_lt_or_eq.mp hc with h | rfl; exact hi c h; first | (intro q; exact absurd q.2 (Int.not_lt.mpr (by assumption))) | (intro q; rw [zc2] at q; exact absurd q.1 (by decide)))
        · refine hy_aload (i := 17) rfl rfl ?_
          refine hy_getr (i := 18) rfl rfl ?_
          refine hy_iload (i := 19) rfl rfl ?_
          refine hy_iald (i := 20) rfl rfl (by omega) rfl ?_
          refine hy_aload (i := 21) rfl rfl ?_
          refine hy_getr (i := 22) rfl rfl ?_
          refine hy_iload (i := 23) rfl rfl ?_
          refine hy_iald (i := 24) rfl rfl (by omega) rfl ?_
          refine hy_ic_le (i := 25) (tt := 28) rfl (fun zc3 => ?_) (fun zc3 => ?_)
          · refine hy_iinc (i := 28) rfl rfl (by omega) ?_
            refine hy_goto (i := 29) (tt := 2) rfl ?_
            exact ih (k + 1) _ (by omega) (fun c hc => by rcases Nat.lt_succ_iff_lt_or_eq.mp hc with h | rfl; exact hi c h; first | (intro q; exact absurd q.2 (Int.not_lt.mpr (by assumption))) | (intro q; rw [zc2] at q; exact absurd q.1 (by decide)))
          · refine hy_const (i := 26) rfl (by decide) ?_
            refine hy_zreturn (i := 27) rfl rfl (by first | decide | exact hy_b01 _) ?_
            exact ⟨congrArg some (by rw [show dl_bestB t w = false from decide_eq_false (fun h => h k (by omega) ⟨zc2, Int.not_le.mp zc3⟩)]; rfl), rfl⟩
  refine hy_const (i := 0) rfl (by decide) ?_
  refine hy_istore (i := 1) rfl ?_
  exact loop 12 0 _ rfl (fun q hq => by omega)
abbrev dfX : Nat → Nat → Bool := fun r j => r == 49 && (j == 6 || j == 7 || j == 8)
theorem dl_good_F {t t1 : hy_T} (h : hy_F dfX t t1) (two : Int) : dl_good t1 two = dl_good t two := by
  unfold dl_good dl_bestA dl_bestB
  rw [h 49 4 rfl, h 49 5 rfl, show t1 50 = t 50 from funext fun j => h 50 j rfl, show t1 51 = t 51 from funext fun j => h 51 j rfl]
theorem c_D_findTwos : hy_Ct sc hm_D_findTwos 3 [.inr (some 49)] t (fun r t' => r = none ∧ (t' 49 6 = dl_twos t 144 ∧ t' 49 7 = dl_a (dl_first t 144) ∧ t' 49 8 = dl_b (dl_first t 144)) ∧ hy_F dfX t t') := by
  refine hy_mk_ct ok_D_findTwos ck_D_findTwos (Nat.le_of_ble_eq_true rfl) ?_
  have loop : ∀ (n : Nat), ∀ (k : Nat) (t1 : hy_T), n + k = 144 → hy_F dfX t t1 → (t1 49 6 = dl_twos t k ∧ t1 49 7 = dl_a (dl_first t k) ∧ t1 49 8 = dl_b (dl_first t k)) → hy_W sc hm_D_findTwos 3 11 [.inr (some 49), .inl (k : Int)] [] t1 (fun r t' => r = none ∧ (t' 49 6 = dl_twos t 144 ∧ t' 49 7 = dl_a (dl_first t 144) ∧ t' 49 8 = dl_b (dl_first t 144)) ∧ hy_F dfX t t') := by
    intro n
    induction n with
    | zero =>
      intro k t1 hk hF hi
      obtain rfl : k = 144 := by omega
      refine hy_iload (i := 11) rfl rfl ?_
      refine hy_const (i := 12) rfl (by decide) ?_
      refine hy_ic_ge (i := 13) (tt := 47) rfl (fun zc1 => ?_) (fun zc1 => ?_)
      · refine hy_return (i := 47) rfl rfl ?_
        exact ⟨rfl, hi, hF⟩
      · omega
    | succ n ih =>
      intro k t1 hk hF hi
      have hg := dl_good_F hF k
      have hb := dl_twos_le t k
      obtain ⟨hi1, hi2, hi3⟩ := hi
      have hfn := dl_first_none t k
      refine hy_iload (i := 11) rfl rfl ?_
      refine hy_const (i := 12) rfl (by decide) ?_
      refine hy_ic_ge (i := 13) (tt := 47) rfl (fun zc1 => ?_) (fun zc1 => ?_)
      · omega
      · refine hy_aload (i := 14) rfl rfl ?_
        refine hy_iload (i := 15) rfl rfl ?_
        refine hy_cV1e (i := 16) rfl mj_D_isChosen (by decide) rfl (Nat.le_of_ble_eq_true rfl) rfl rfl rfl (c_D_isChosen (by omega)) ?_
        refine hy_ib_eq (i := 17) (tt := 45) rfl (fun zc2 => ?_) (fun zc2 => ?_)
        · refine hy_iinc (i := 45) rfl rfl (by omega) ?_
          refine hy_goto (i := 46) (tt := 11) rfl ?_
          first | (refine ih (k + 1) _ (by omega) hF ?_; have hgf : dl_good t k = false := (by rw [← hg]; unfold dl_good; simp_all); simp only [dl_twos, dl_first, hgf]; cases hf : dl_first t k <;> simp_all; done) | (refine ih (k + 1) _ (by omega) (by first | exact (((hF.up rfl).up rfl).up rfl) | exact hF.up rfl) ?_; have hgt : dl_good t k = true := (by rw [← hg]; unfold dl_good; simp_all); simp only [dl_twos, dl_first, hgt]; cases hf : dl_first t k <;> simp_all [hy_up, dl_a, dl_b]; done)
        · refine hy_aload (i := 18) rfl rfl ?_
          refine hy_iload (i := 19) rfl rfl ?_
          refine hy_cV1e (i := 20) rfl mj_D_isBestOfA (by decide) rfl (Nat.le_of_ble_eq_true rfl) rfl rfl rfl (c_D_isBestOfA (by omega)) ?_
          refine hy_ib_eq (i := 21) (tt := 45) rfl (fun zc3 => ?_) (fun zc3 => ?_)
          · refine hy_iinc (i := 45) rfl rfl (by omega) ?_
            refine hy_goto (i := 46) (tt := 11) rfl ?_
            first | (refine ih (k + 1) _ (by omega) hF ?_; have hgf : dl_good t k = false := (by rw [← hg]; unfold dl_good; simp_all); simp only [dl_twos, dl_first, hgf]; cases hf : dl_first t k <;> simp_all; done) | (refine ih (k + 1) _ (by omega) (by first | exact (((hF.up rfl).up rfl).up rfl) | exact hF.up rfl) ?_; have hgt : dl_good t k = true := (by rw [← hg]; unfold dl_good; simp_all); simp only [dl_twos, dl_first, hgt]; cases hf : dl_first t k <;> simp_all [hy_up, dl_a, dl_b]; done)
          · refine hy_aload (i := 22) rfl rfl ?_
            refine hy_iload (i := 23) rfl rfl ?_
            refine hy_cV1e (i := 24) rfl mj_D_isBestOfB (by decide) rfl (Nat.le_of_ble_eq_true rfl) rfl rfl rfl (c_D_isBestOfB (by omega)) ?_
            refine hy_ib_eq (i := 25) (tt := 45) rfl (fun zc4 => ?_) (fun zc4 => ?_)
            · refine hy_iinc (i := 45) rfl rfl (by omega) ?_
              refine hy_goto (i := 46) (tt := 11) rfl ?_
              first | (refine ih (k + 1) _ (by omega) hF ?_; have hgf : dl_good t k = false := (by rw [← hg]; unfold dl_good; simp_all); simp only [dl_twos, dl_first, hgf]; cases hf : dl_first t k <;> simp_all; done) | (refine ih (k + 1) _ (by omega) (by first | exact (((hF.up rfl).up rfl).up rfl) | exact hF.up rfl) ?_; have hgt : dl_good t k = true := (by rw [← hg]; unfold dl_good; simp_all); simp only [dl_twos, dl_first, hgt]; cases hf : dl_first t k <;> simp_all [hy_up, dl_a, dl_b]; done)
            · refine hy_aload (i := 26) rfl rfl ?_
              refine hy_get (i := 27) (fk := 6) rfl rfl rfl ?_
              refine hy_if_ne (i := 28) (tt := 39) rfl (fun zc5 => ?_) (fun zc5 => ?_)
              · refine hy_aload (i := 39) rfl rfl ?_
                refine hy_dup (i := 40) rfl ?_
                refine hy_get (i := 41) (fk := 6) rfl rfl rfl ?_
                first | rw [show hy_up (hy_up t1 49 7 ((k : Int) / 12)) 49 8 ((k : Int) % 12) 49 6 = t1 49 6 from rfl] | skip
                refine hy_const (i := 42) rfl (by decide) ?_
                refine hy_iadd (i := 43) rfl (by omega) ?_
                refine hy_put (i := 44) (fk := 6) rfl rfl rfl rfl ?_
                refine hy_iinc (i := 45) rfl rfl (by omega) ?_
                refine hy_goto (i := 46) (tt := 11) rfl ?_
                first | (refine ih (k + 1) _ (by omega) hF ?_; have hgf : dl_good t k = false := (by rw [← hg]; unfold dl_good; simp_all); simp only [dl_twos, dl_first, hgf]; cases hf : dl_first t k <;> simp_all; done) | (refine ih (k + 1) _ (by omega) (by first | exact (((hF.up rfl).up rfl).up rfl) | exact hF.up rfl) ?_; have hgt : dl_good t k = true := (by rw [← hg]; unfold dl_good; simp_all); simp only [dl_twos, dl_first, hgt]; cases hf : dl_first t k <;> simp_all [hy_up, dl_a, dl_b]; done)
              · refine hy_aload (i := 29) rfl rfl ?_
                refine hy_iload (i := 30) rfl rfl ?_
                refine hy_const (i := 31) rfl (by decide) ?_
                refine hy_idiv (i := 32) rfl (by omega) (by omega) ?_
                refine hy_put (i := 33) (fk := 7) rfl rfl rfl rfl ?_
                refine hy_aload (i := 34) rfl rfl ?_
                refine hy_iload (i := 35) rfl rfl ?_
                refine hy_const (i := 36) rfl (by decide) ?_
                refine hy_irem (i := 37) rfl (by omega) (by omega) ?_
                refine hy_put (i := 38) (fk := 8) rfl rfl rfl rfl ?_
                refine hy_aload (i := 39) rfl rfl ?_
                refine hy_dup (i := 40) rfl ?_
                refine hy_get (i := 41) (fk := 6) rfl rfl rfl ?_
                first | rw [show hy_up (hy_up t1 49 7 ((k : Int) / 12)) 49 8 ((k : Int) % 12) 49 6 = t1 49 6 from rfl] | skip
                refine hy_const (i := 42) rfl (by decide) ?_
                refine hy_iadd (i := 43) rfl (by omega) ?_
                refine hy_put (i := 44) (fk := 6) rfl rfl rfl rfl ?_
                refine hy_iinc (i := 45) rfl rfl (by omega) ?_
                refine hy_goto (i := 46) (tt := 11) rfl ?_
                first | (refine ih (k + 1) _ (by omega) hF ?_; have hgf : dl_good t k = false := (by rw [← hg]; unfold dl_good; simp_all); simp only [dl_twos, dl_first, hgf]; cases hf : dl_first t k <;> simp_all; done) | (refine ih (k + 1) _ (by omega) (by first | exact (((hF.up rfl).up rfl).up rfl) | exact hF.up rfl) ?_; have hgt : dl_good t k = true := (by rw [← hg]; unfold dl_good; simp_all); simp only [dl_twos, dl_first, hgt]; cases hf : dl_first t k <;> simp_all [hy_up, dl_a, dl_b]; done)
  refine hy_aload (i := 0) rfl rfl ?_
  refine hy_const (i := 1) rfl (by decide) ?_
  refine hy_put (i := 2) (fk := 6) rfl rfl rfl rfl ?_
  refine hy_aload (i := 3) rfl rfl ?_
  refine hy_const (i := 4) rfl (by decide) ?_
  refine hy_put (i := 5) (fk := 7) rfl rfl rfl rfl ?_
  refine hy_aload (i := 6) rfl rfl ?_
  refine hy_const (i := 7) rfl (by decide) ?_
  refine hy_put (i := 8) (fk := 8) rfl rfl rfl rfl ?_
  refine hy_const (i := 9) rfl (by decide) ?_
  refine hy_istore (i := 10) rfl ?_
  exact loop 144 0 _ rfl (((hy_F.rf.up rfl).up rfl).up rfl) ⟨rfl, rfl, rfl⟩
end DU
