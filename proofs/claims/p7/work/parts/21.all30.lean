/-! the class's duel -/
def dl_chosen (A B two : Int) : Bool := decide (hz_iand A (hz_ishl 1 (two / 12)) ≠ 0 ∧ hz_iand B (hz_ishl 1 (two % 12)) ≠ 0)
def dl_bestA (t : hy_T) (two : Int) : Bool := decide (∀ c : Nat, c < 12 → ¬ (dl_chosen (t 49 4) (t 49 5) (12 * c + two % 12) = true ∧ t 50 two.toNat < t 50 (12 * c + two % 12).toNat))
def dl_bestB (t : hy_T) (two : Int) : Bool := decide (∀ c : Nat, c < 12 → ¬ (dl_chosen (t 49 4) (t 49 5) (two - two % 12 + c) = true ∧ t 51 two.toNat < t 51 (two - two % 12 + c).toNat))
def dl_good (t : hy_T) (two : Int) : Bool := dl_chosen (t 49 4) (t 49 5) two && dl_bestA t two && dl_bestB t two
/-- how many of the first n twos rest -/
def dl_twos (t : hy_T) : Nat → Int
  | 0 => 0
  | n + 1 => if dl_good t n = true then dl_twos t n + 1 else dl_twos t n
theorem dl_twos_le (t : hy_T) : ∀ n : Nat, 0 ≤ dl_twos t n ∧ dl_twos t n ≤ n
  | 0 => by simp [dl_twos]
  | n + 1 => by
    have h := dl_twos_le t n
    simp only [dl_twos]
    split <;> omega
/-- the first of them -/
def dl_first (t : hy_T) : Nat → Option Nat
  | 0 => none
  | n + 1 => match dl_first t n with
    | some k => some k
    | none => if dl_good t n = true then some n else none
theorem dl_first_none (t : hy_T) : ∀ n : Nat, dl_first t n = none ↔ dl_twos t n = 0
  | 0 => by simp [dl_first, dl_twos]
  | n + 1 => by
    have h := dl_first_none t n
    have h2 := dl_twos_le t n
    simp only [dl_first, dl_twos]
    cases hf : dl_first t n with
    | some k =>
      rw [hf] at h
      have h3 : dl_twos t n ≠ 0 := fun q => by have := h.mpr q; cases this
      simp
      split <;> omega
    | none =>
      rw [hf] at h
      have h3 := h.mp rfl
      show (if dl_good t n = true then some n else none) = none ↔ _
      by_cases hg : dl_good t n = true
      · rw [if_pos hg, if_pos hg]; simp; omega
      · rw [if_neg hg, if_neg hg]; simp [h3]
def dl_a (o : Option Nat) : Int := match o with
  | some k => ((k / 12 : Nat) : Int)
  | none => -2
def dl_b (o : Option Nat) : Int := match o with
  | some k => ((k % 12 : Nat) : Int)
  | none => -2
section DU
variable {sc : List Int32} {t : hy_T}
theorem c_D_taken {w : Int} (hw : 0 ≤ w) : hy_Ct sc hm_D_taken 0 [.inl w] t (hy_e (some (hz_ishl 1 (w / 12))) t) := by
  refine hy_mk_ct ok_D_taken ck_D_taken (Nat.le_of_ble_eq_true rfl) ?_
  refine hy_const (i := 0) rfl (by decide) ?_
  refine hy_iload (i := 1) rfl rfl ?_
  refine hy_const (i := 2) rfl (by decide) ?_
  refine hy_idiv (i := 3) rfl (by omega) (by omega) ?_
  refine hy_ishl (i := 4) rfl ?_
  refine hy_ireturn (i := 5) rfl rfl ?_
  exact ⟨rfl, rfl⟩
theorem c_D_lost {w : Int} (hw : 0 ≤ w) : hy_Ct sc hm_D_lost 0 [.inl w] t (hy_e (some (hz_ishl 1 (w % 12))) t) := by
  refine hy_mk_ct ok_D_lost ck_D_lost (Nat.le_of_ble_eq_true rfl) ?_
  refine hy_const (i := 0) rfl (by decide) ?_
  refine hy_iload (i := 1) rfl rfl ?_
  refine hy_const (i := 2) rfl (by decide) ?_
  refine hy_irem (i := 3) rfl (by omega) (by omega) ?_
  refine hy_ishl (i := 4) rfl ?_
  refine hy_ireturn (i := 5) rfl rfl ?_
  exact ⟨rfl, rfl⟩
theorem c_D_isChosen {w : Int} (hw : 0 ≤ w) : hy_Ct sc hm_D_isChosen 1 [.inr (some 49), .inl w] t (hy_e (some (hy_b (dl_chosen (t 49 4) (t 49 5) w))) t) := by
  refine hy_mk_ct ok_D_isChosen ck_D_isChosen (Nat.le_of_ble_eq_true rfl) ?_
  refine hy_aload (i := 0) rfl rfl ?_
  refine hy_get (i := 1) (fk := 4) rfl rfl rfl ?_
  refine hy_iload (i := 2) rfl rfl ?_
  refine hy_cS1e (i := 3) rfl (by decide) mj_D_taken (by decide) rfl (Nat.le_of_ble_eq_true rfl) (c_D_taken (by omega)) ?_
  refine hy_iand (i := 4) rfl ?_
  refine hy_if_eq (i := 5) (tt := 14) rfl (fun zc1 => ?_) (fun zc1 => ?_)
  · refine hy_const (i := 14) rfl (by decide) ?_
    refine hy_zreturn (i := 15) rfl rfl (by first | decide | exact hy_b01 _) ?_
    exact ⟨congrArg some (by simp_all [hy_b, dl_chosen]), rfl⟩
  · refine hy_aload (i := 6) rfl rfl ?_
    refine hy_get (i := 7) (fk := 5) rfl rfl rfl ?_
    refine hy_iload (i := 8) rfl rfl ?_
    refine hy_cS1e (i := 9) rfl (by decide) mj_D_lost (by decide) rfl (Nat.le_of_ble_eq_true rfl) (c_D_lost (by omega)) ?_
    refine hy_iand (i := 10) rfl ?_
    refine hy_if_eq (i := 11) (tt := 14) rfl (fun zc2 => ?_) (fun zc2 => ?_)
    · refine hy_const (i := 14) rfl (by decide) ?_
      refine hy_zreturn (i := 15) rfl rfl (by first | decide | exact hy_b01 _) ?_
      exact ⟨congrArg some (by simp_all [hy_b, dl_chosen]), rfl⟩
    · refine hy_const (i := 12) rfl (by decide) ?_
      refine hy_goto (i := 13) (tt := 15) rfl ?_
      refine hy_zreturn (i := 15) rfl rfl (by first | decide | exact hy_b01 _) ?_
      exact ⟨congrArg some (by simp_all [hy_b, dl_chosen]), rfl⟩
theorem c_D_isBestOfA {w : Int} (hw : 0 ≤ w ∧ w < 144) : hy_Ct sc hm_D_isBestOfA 2 [.inr (some 49), .inl w] t (hy_e (some (hy_b (dl_bestA t w))) t) := by
  refine hy_mk_ct ok_D_isBestOfA ck_D_isBestOfA (Nat.le_of_ble_eq_true rfl) ?_
  have loop : ∀ (n : Nat), ∀ (k : Nat) (z : hy_V), n + k = 12 → (∀ c : Nat, c < k → ¬ (dl_chosen (t 49 4) (t 49 5) (12 * c + w % 12) = true ∧ t 50 w.toNat < t 50 (12 * c + w % 12).toNat)) → hy_W sc hm_D_isBestOfA 2 2 [.inr (some 49), .inl w, .inl (k : Int), z] [] t (hy_e (some (hy_b (dl_bestA t w))) t) := by
    intro n
    induction n with
    | zero =>
      intro k z hk hi
      obtain rfl : k = 12 := by omega
      refine hy_iload (i := 2) rfl rfl ?_
      refine hy_const (i := 3) rfl (by decide) ?_
      refine hy_ic_ge (i := 4) (tt := 30) rfl (fun zc1 => ?_) (fun zc1 => ?_)
      · refine hy_const (i := 30) rfl (by decide) ?_
        refine hy_zreturn (i := 31) rfl rfl (by first | decide | exact hy_b01 _) ?_
        exact ⟨congrArg some (by rw [show dl_bestA t w = true from decide_eq_true hi]; rfl), rfl⟩
      · omega
    | succ n ih =>
      intro k z hk hi
      refine hy_iload (i := 2) rfl rfl ?_
      refine hy_const (i := 3) rfl (by decide) ?_
      refine hy_ic_ge (i := 4) (tt := 30) rfl (fun zc1 => ?_) (fun zc1 => ?_)
      · omega
      · refine hy_const (i := 5) rfl (by decide) ?_
        refine hy_iload (i := 6) rfl rfl ?_
        refine hy_imul (i := 7) rfl (by omega) ?_
        refine hy_iload (i := 8) rfl rfl ?_
        refine hy_const (i := 9) rfl (by decide) ?_
        refine hy_irem (i := 10) rfl (by omega) (by omega) ?_
        refine hy_iadd (i := 11) rfl (by omega) ?_
        refine hy_istore (i := 12) rfl ?_
        refine hy_aload (i := 13) rfl rfl ?_
        refine hy_iload (i := 14) rfl rfl ?_
        refine hy_cV1e (i := 15) rfl mj_D_isChosen (by decide) rfl (Nat.le_of_ble_eq_true rfl) rfl rfl rfl (c_D_isChosen (by omega)) ?_
        refine hy_ib_eq (i := 16) (tt := 28) rfl (fun zc2 => ?_) (fun zc2 => ?_)
        · refine hy_iinc (i := 28) rfl rfl (by omega) ?_
          refine hy_goto (i := 29) (tt := 2) rfl ?_
          exact ih (k + 1) _ (by omega) (fun c hc => by rcases Nat.lt_succ_iff_lt_or_eq.mp hc with h | rfl; exact hi c h; first | (intro q; exact absurd q.2 (Int.not_lt.mpr (by assumption))) | (intro q; rw [zc2] at q; exact absurd q.1 (by decide)))
        · refine hy_aload (i := 17) rfl rfl ?_
          refine hy_getr (i := 18) rfl rfl ?_
          refine hy_iload (i := 19) rfl rfl ?_
          refine hy_iald (i := 20) rfl rfl (by omega) rfl ?_
          refine hy_aload (i := 21) rfl rfl ?_
          refine hy_getr (i := 22) rfl rfl ?_
          refine hy_iload (i := 23) rfl rfl ?_
          refine hy_iald (i := 24) rfl rfl (by omega) rfl ?_
          refine hy_ic_le (i := 25) (tt := 28) rfl (fun zc3 => ?_) (fun zc3 => ?_)
          · refine hy_iinc (i := 28) rfl rfl (by omega) ?_
            refine hy_goto (i := 29) (tt := 2) rfl ?_
            exact ih (k + 1) _ (by omega) (fun c hc => by rcases Nat.lt_succ_iff_lt_or_eq.mp hc with h | rfl; exact hi c h; first | (intro q; exact absurd q.2 (Int.not_lt.mpr (by assumption))) | (intro q; rw [zc2] at q; exact absurd q.1 (by decide)))
          · refine hy_const (i := 26) rfl (by decide) ?_
            refine hy_zreturn (i := 27) rfl rfl (by first | decide | exact hy_b01 _) ?_
            exact ⟨congrArg some (by rw [show dl_bestA t w = false from decide_eq_false (fun h => h k (by omega) ⟨zc2, Int.not_le.mp zc3⟩)]; rfl), rfl⟩
  refine hy_const (i := 0) rfl (by decide) ?_
  refine hy_istore (i := 1) rfl ?_
  exact loop 12 0 _ rfl (fun q hq => by omega)
theorem c_D_isBestOfB {w : Int} (hw : 0 ≤ w ∧ w < 144) : hy_Ct sc hm_D_isBestOfB 2 [.inr (some 49), .inl w] t (hy_e (some (hy_b (dl_bestB t w))) t) := by
  refine hy_mk_ct ok_D_isBestOfB ck_D_isBestOfB (Nat.le_of_ble_eq_true rfl) ?_
  have loop : ∀ (n : Nat), ∀ (k : Nat) (z : hy_V), n + k = 12 → (∀ c : Nat, c < k → ¬ (dl_chosen (t 49 4) (t 49 5) (w - w % 12 + c) = true ∧ t 51 w.toNat < t 51 (w - w % 12 + c).toNat)) → hy_W sc hm_D_isBestOfB 2 2 [.inr (some 49), .inl w, .inl (k : Int), z] [] t (hy_e (some (hy_b (dl_bestB t w))) t) := by
    intro n
    induction n with
    | zero =>
      intro k z hk hi
      obtain rfl : k = 12 := by omega
      refine hy_iload (i := 2) rfl rfl ?_
      refine hy_const (i := 3) rfl (by decide) ?_
      refine hy_ic_ge (i := 4) (tt := 30) rfl (fun zc1 => ?_) (fun zc1 => ?_)
      · refine hy_const (i := 30) rfl (by decide) ?_
        refine hy_zreturn (i := 31) rfl rfl (by first | decide | exact hy_b01 _) ?_
        exact ⟨congrArg some (by rw [show dl_bestB t w = true from decide_eq_true hi]; rfl), rfl⟩
      · omega
    | succ n ih =>
      intro k z hk hi
      refine hy_iload (i := 2) rfl rfl ?_
      refine hy_const (i := 3) rfl (by decide) ?_
      refine hy_ic_ge (i := 4) (tt := 30) rfl (fun zc1 => ?_) (fun zc1 => ?_)
      · omega
      · refine hy_iload (i := 5) rfl rfl ?_
        refine hy_iload (i := 6) rfl rfl ?_
        refine hy_const (i := 7) rfl (by decide) ?_
        refine hy_irem (i := 8) rfl (by omega) (by omega) ?_
        refine hy_isub (i := 9) rfl (by omega) ?_
        refine hy_iload (i := 10) rfl rfl ?_
        refine hy_iadd (i := 11) rfl (by omega) ?_
        refine hy_istore (i := 12) rfl ?_
        refine hy_aload (i := 13) rfl rfl ?_
        refine hy_iload (i := 14) rfl rfl ?_
        refine hy_cV1e (i := 15) rfl mj_D_isChosen (by decide) rfl (Nat.le_of_ble_eq_true rfl) rfl rfl rfl (c_D_isChosen (by omega)) ?_
        refine hy_ib_eq (i := 16) (tt := 28) rfl (fun zc2 => ?_) (fun zc2 => ?_)
        · refine hy_iinc (i := 28) rfl rfl (by omega) ?_
          refine hy_goto (i := 29) (tt := 2) rfl ?_
          exact ih (k + 1) _ (by omega) (fun c hc => by rcases Nat.lt_succ_iff_lt_or_eq.mp hc with h | rfl; exact hi c h; first | (intro q; exact absurd q.2 (Int.not_lt.mpr (by assumption))) | (intro q; rw [zc2] at q; exact absurd q.1 (by decide)))
        · refine hy_aload (i := 17) rfl rfl ?_
          refine hy_getr (i := 18) rfl rfl ?_
          refine hy_iload (i := 19) rfl rfl ?_
          refine hy_iald (i := 20) rfl rfl (by omega) rfl ?_
          refine hy_aload (i := 21) rfl rfl ?_
          refine hy_getr (i := 22) rfl rfl ?_
          refine hy_iload (i := 23) rfl rfl ?_
          refine hy_iald (i := 24) rfl rfl (by omega) rfl ?_
          refine hy_ic_le (i := 25) (tt := 28) rfl (fun zc3 => ?_) (fun zc3 => ?_)
          · refine hy_iinc (i := 28) rfl rfl (by omega) ?_
            refine hy_goto (i := 29) (tt := 2) rfl ?_
            exact ih (k + 1) _ (by omega) (fun c hc => by rcases Nat.lt_succ_iff_lt_or_eq.mp hc with h | rfl; exact hi c h; first | (intro q; exact absurd q.2 (Int.not_lt.mpr (by assumption))) | (intro q; rw [zc2] at q; exact absurd q.1 (by decide)))
          · refine hy_const (i := 26) rfl (by decide) ?_
            refine hy_zreturn (i := 27) rfl rfl (by first | decide | exact hy_b01 _) ?_
            exact ⟨congrArg some (by rw [show dl_bestB t w = false from decide_eq_false (fun h => h k (by omega) ⟨zc2, Int.not_le.mp zc3⟩)]; rfl), rfl⟩
  refine hy_const (i := 0) rfl (by decide) ?_
  refine hy_istore (i := 1) rfl ?_
  exact loop 12 0 _ rfl (fun q hq => by omega)
abbrev dfX : Nat → Nat → Bool := fun r j => r == 49 && (j == 6 || j == 7 || j == 8)
theorem dl_good_F {t t1 : hy_T} (h : hy_F dfX t t1) (two : Int) : dl_good t1 two = dl_good t two := by
  unfold dl_good dl_bestA dl_bestB
  rw [h 49 4 rfl, h 49 5 rfl, show t1 50 = t 50 from funext fun j => h 50 j rfl, show t1 51 = t 51 from funext fun j => h 51 j rfl]
theorem c_D_findTwos : hy_Ct sc hm_D_findTwos 3 [.inr (some 49)] t (fun r t' => r = none ∧ (t' 49 6 = dl_twos t 144 ∧ t' 49 7 = dl_a (dl_first t 144) ∧ t' 49 8 = dl_b (dl_first t 144)) ∧ hy_F dfX t t') := by
  refine hy_mk_ct ok_D_findTwos ck_D_findTwos (Nat.le_of_ble_eq_true rfl) ?_
  have loop : ∀ (n : Nat), ∀ (k : Nat) (t1 : hy_T), n + k = 144 → hy_F dfX t t1 → (t1 49 6 = dl_twos t k ∧ t1 49 7 = dl_a (dl_first t k) ∧ t1 49 8 = dl_b (dl_first t k)) → hy_W sc hm_D_findTwos 3 11 [.inr (some 49), .inl (k : Int)] [] t1 (fun r t' => r = none ∧ (t' 49 6 = dl_twos t 144 ∧ t' 49 7 = dl_a (dl_first t 144) ∧ t' 49 8 = dl_b (dl_first t 144)) ∧ hy_F dfX t t') := by
    intro n
    induction n with
    | zero =>
      intro k t1 hk hF hi
      obtain rfl : k = 144 := by omega
      refine hy_iload (i := 11) rfl rfl ?_
      refine hy_const (i := 12) rfl (by decide) ?_
      refine hy_ic_ge (i := 13) (tt := 47) rfl (fun zc1 => ?_) (fun zc1 => ?_)
      · refine hy_return (i := 47) rfl rfl ?_
        exact ⟨rfl, hi, hF⟩
      · omega
    | succ n ih =>
      intro k t1 hk hF hi
      have hg := dl_good_F hF k
      have hb := dl_twos_le t k
      obtain ⟨hi1, hi2, hi3⟩ := hi
      have hfn := dl_first_none t k
      refine hy_iload (i := 11) rfl rfl ?_
      refine hy_const (i := 12) rfl (by decide) ?_
      refine hy_ic_ge (i := 13) (tt := 47) rfl (fun zc1 => ?_) (fun zc1 => ?_)
      · omega
      · refine hy_aload (i := 14) rfl rfl ?_
        refine hy_iload (i := 15) rfl rfl ?_
        refine hy_cV1e (i := 16) rfl mj_D_isChosen (by decide) rfl (Nat.le_of_ble_eq_true rfl) rfl rfl rfl (c_D_isChosen (by omega)) ?_
        refine hy_ib_eq (i := 17) (tt := 45) rfl (fun zc2 => ?_) (fun zc2 => ?_)
        · refine hy_iinc (i := 45) rfl rfl (by omega) ?_
          refine hy_goto (i := 46) (tt := 11) rfl ?_
          first | (refine ih (k + 1) _ (by omega) hF ?_; have hgf : dl_good t k = false := (by rw [← hg]; unfold dl_good; simp_all); simp only [dl_twos, dl_first, hgf]; cases hf : dl_first t k <;> simp_all; done) | (refine ih (k + 1) _ (by omega) (by first | exact (((hF.up rfl).up rfl).up rfl) | exact hF.up rfl) ?_; have hgt : dl_good t k = true := (by rw [← hg]; unfold dl_good; simp_all); simp only [dl_twos, dl_first, hgt]; cases hf : dl_first t k <;> simp_all [hy_up, dl_a, dl_b]; done)
        · refine hy_aload (i := 18) rfl rfl ?_
          refine hy_iload (i := 19) rfl rfl ?_
          refine hy_cV1e (i := 20) rfl mj_D_isBestOfA (by decide) rfl (Nat.le_of_ble_eq_true rfl) rfl rfl rfl (c_D_isBestOfA (by omega)) ?_
          refine hy_ib_eq (i := 21) (tt := 45) rfl (fun zc3 => ?_) (fun zc3 => ?_)
          · refine hy_iinc (i := 45) rfl rfl (by omega) ?_
            refine hy_goto (i := 46) (tt := 11) rfl ?_
            first | (refine ih (k + 1) _ (by omega) hF ?_; have hgf : dl_good t k = false := (by rw [← hg]; unfold dl_good; simp_all); simp only [dl_twos, dl_first, hgf]; cases hf : dl_first t k <;> simp_all; done) | (refine ih (k + 1) _ (by omega) (by first | exact (((hF.up rfl).up rfl).up rfl) | exact hF.up rfl) ?_; have hgt : dl_good t k = true := (by rw [← hg]; unfold dl_good; simp_all); simp only [dl_twos, dl_first, hgt]; cases hf : dl_first t k <;> simp_all [hy_up, dl_a, dl_b]; done)
          · refine hy_aload (i := 22) rfl rfl ?_
            refine hy_iload (i := 23) rfl rfl ?_
            refine hy_cV1e (i := 24) rfl mj_D_isBestOfB (by decide) rfl (Nat.le_of_ble_eq_true rfl) rfl rfl rfl (c_D_isBestOfB (by omega)) ?_
            refine hy_ib_eq (i := 25) (tt := 45) rfl (fun zc4 => ?_) (fun zc4 => ?_)
            · refine hy_iinc (i := 45) rfl rfl (by omega) ?_
              refine hy_goto (i := 46) (tt := 11) rfl ?_
              first | (refine ih (k + 1) _ (by omega) hF ?_; have hgf : dl_good t k = false := (by rw [← hg]; unfold dl_good; simp_all); simp only [dl_twos, dl_first, hgf]; cases hf : dl_first t k <;> simp_all; done) | (refine ih (k + 1) _ (by omega) (by first | exact (((hF.up rfl).up rfl).up rfl) | exact hF.up rfl) ?_; have hgt : dl_good t k = true := (by rw [← hg]; unfold dl_good; simp_all); simp only [dl_twos, dl_first, hgt]; cases hf : dl_first t k <;> simp_all [hy_up, dl_a, dl_b]; done)
            · refine hy_aload (i := 26) rfl rfl ?_
              refine hy_get (i := 27) (fk := 6) rfl rfl rfl ?_
              refine hy_if_ne (i := 28) (tt := 39) rfl (fun zc5 => ?_) (fun zc5 => ?_)
              · refine hy_aload (i := 39) rfl rfl ?_
                refine hy_dup (i := 40) rfl ?_
                refine hy_get (i := 41) (fk := 6) rfl rfl rfl ?_
                first | rw [show hy_up (hy_up t1 49 7 ((k : Int) / 12)) 49 8 ((k : Int) % 12) 49 6 = t1 49 6 from rfl] | skip
                refine hy_const (i := 42) rfl (by decide) ?_
                refine hy_iadd (i := 43) rfl (by omega) ?_
                refine hy_put (i := 44) (fk := 6) rfl rfl rfl rfl ?_
                refine hy_iinc (i := 45) rfl rfl (by omega) ?_
                refine hy_goto (i := 46) (tt := 11) rfl ?_
                first | (refine ih (k + 1) _ (by omega) hF ?_; have hgf : dl_good t k = false := (by rw [← hg]; unfold dl_good; simp_all); simp only [dl_twos, dl_first, hgf]; cases hf : dl_first t k <;> simp_all; done) | (refine ih (k + 1) _ (by omega) (by first | exact (((hF.up rfl).up rfl).up rfl) | exact hF.up rfl) ?_; have hgt : dl_good t k = true := (by rw [← hg]; unfold dl_good; simp_all); simp only [dl_twos, dl_first, hgt]; cases hf : dl_first t k <;> simp_all [hy_up, dl_a, dl_b]; done)
              · refine hy_aload (i := 29) rfl rfl ?_
                refine hy_iload (i := 30) rfl rfl ?_
                refine hy_const (i := 31) rfl (by decide) ?_
                refine hy_idiv (i := 32) rfl (by omega) (by omega) ?_
                refine hy_put (i := 33) (fk := 7) rfl rfl rfl rfl ?_
                refine hy_aload (i := 34) rfl rfl ?_
                refine hy_iload (i := 35) rfl rfl ?_
                refine hy_const (i := 36) rfl (by decide) ?_
                refine hy_irem (i := 37) rfl (by omega) (by omega) ?_
                refine hy_put (i := 38) (fk := 8) rfl rfl rfl rfl ?_
                refine hy_aload (i := 39) rfl rfl ?_
                refine hy_dup (i := 40) rfl ?_
                refine hy_get (i := 41) (fk := 6) rfl rfl rfl ?_
                first | rw [show hy_up (hy_up t1 49 7 ((k : Int) / 12)) 49 8 ((k : Int) % 12) 49 6 = t1 49 6 from rfl] | skip
                refine hy_const (i := 42) rfl (by decide) ?_
                refine hy_iadd (i := 43) rfl (by omega) ?_
                refine hy_put (i := 44) (fk := 6) rfl rfl rfl rfl ?_
                refine hy_iinc (i := 45) rfl rfl (by omega) ?_
                refine hy_goto (i := 46) (tt := 11) rfl ?_
                first | (refine ih (k + 1) _ (by omega) hF ?_; have hgf : dl_good t k = false := (by rw [← hg]; unfold dl_good; simp_all); simp only [dl_twos, dl_first, hgf]; cases hf : dl_first t k <;> simp_all; done) | (refine ih (k + 1) _ (by omega) (by first | exact (((hF.up rfl).up rfl).up rfl) | exact hF.up rfl) ?_; have hgt : dl_good t k = true := (by rw [← hg]; unfold dl_good; simp_all); simp only [dl_twos, dl_first, hgt]; cases hf : dl_first t k <;> simp_all [hy_up, dl_a, dl_b]; done)
  refine hy_aload (i := 0) rfl rfl ?_
  refine hy_const (i := 1) rfl (by decide) ?_
  refine hy_put (i := 2) (fk := 6) rfl rfl rfl rfl ?_
  refine hy_aload (i := 3) rfl rfl ?_
  refine hy_const (i := 4) rfl (by decide) ?_
  refine hy_put (i := 5) (fk := 7) rfl rfl rfl rfl ?_
  refine hy_aload (i := 6) rfl rfl ?_
  refine hy_const (i := 7) rfl (by decide) ?_
  refine hy_put (i := 8) (fk := 8) rfl rfl rfl rfl ?_
  refine hy_const (i := 9) rfl (by decide) ?_
  refine hy_istore (i := 10) rfl ?_
  exact loop 144 0 _ rfl (((hy_F.rf.up rfl).up rfl).up rfl) ⟨rfl, rfl, rfl⟩
end DU
/-! the class's duel: a fight -/
theorem sp_price_G {X : Nat → Nat → Bool} {t t1 : hy_T} (h : hy_F X t t1) (hl : lc_same t t1) (h9 : ∀ j, X 9 j = false) (h35 : ∀ j, X 35 j = false) (h34 : ∀ j, X 34 j = false) (h5 : X 5 3 = false) (h33 : X 33 4 = false) (e q sup c : Int) : sp_price t1 e q sup c = sp_price t e q sup c := by
  unfold sp_price
  rw [sp_fields_F h h9 h35, sp_priceOf_F h hl h5 h33, show t1 34 = t 34 from funext fun j => h 34 j (h34 j)]
def dl_plainA (ha two : Int) : Int := hz_iand (hz_ior ha (hz_ishl 1 (two / 12))) (hz_ixor (hz_ishl 1 (two % 12)) (-1))
def dl_plainB (hb two : Int) : Int := hz_iand (hz_ior hb (hz_ishl 1 (two % 12))) (hz_ixor (hz_ishl 1 (two / 12)) (-1))
def dl_worth (t : hy_T) (e q plain : Int) : Int := sp_worthN (fun c => sp_price t e q 0 c) (sp_seenN t e q plain 12) 12
abbrev fX : Nat → Nat → Bool := fun r j => r == 17 || r == 18 || r == 48 || r == 50 || r == 51 || (r == 49 && (j == 4 || j == 5 || j == 6 || j == 7 || j == 8))
abbrev f1X : Nat → Nat → Bool := fun r _ => r == 17 || r == 18 || r == 50
abbrev f2X : Nat → Nat → Bool := fun r _ => r == 17 || r == 18 || r == 51
theorem fX_law {t t1 : hy_T} (h : hy_F fX t t1) : lc_same t t1 := lc_same_of h (fun r j q => by revert q; simp [lawX, fX]; omega)
theorem dl_worth_F {t t1 t2 : hy_T} (h : hy_F fX t t2) {e q : Int} (hp : ∀ c : Nat, c < 12 → t1 48 c = sp_price t e q 0 c) (h2 : t2 48 = t1 48) (plain : Int) : sp_worthN (t2 48) (sp_seenN t2 e q plain 12) 12 = dl_worth t e q plain := by
  unfold dl_worth
  rw [sp_seenN_G h (fX_law h) rfl rfl (fun _ => rfl) (fun _ => rfl), h2]
  exact sp_worthN_eq hp _ 12 (Nat.le_refl _)
section FI
variable {sc : List Int32} {t : hy_T}
theorem c_D_fight {a b q : Int} (hk : lc_ok t) : hy_Ct sc hm_D_fight 5 [.inr (some 49), .inl a, .inl b, .inl q] t (fun r t' => r = none ∧ hy_F fX t t' ∧ ∃ t2 : hy_T, t2 49 4 = hz_iand (sp_hadN (t 34) b q 12) (hz_ixor (sp_hadN (t 34) a q 12) (-1)) ∧ t2 49 5 = hz_iand (sp_hadN (t 34) a q 12) (hz_ixor (sp_hadN (t 34) b q 12) (-1)) ∧
      (∀ w : Nat, w < 144 → dl_chosen (t2 49 4) (t2 49 5) w = true → t2 50 w = dl_worth t a q (dl_plainA (sp_hadN (t 34) a q 12) w) ∧ t2 51 w = dl_worth t b q (dl_plainB (sp_hadN (t 34) b q 12) w)) ∧ t' 49 6 = dl_twos t2 144 ∧ t' 49 7 = dl_a (dl_first t2 144) ∧ t' 49 8 = dl_b (dl_first t2 144)) := by
  refine hy_mk_ct ok_D_fight ck_D_fight (Nat.le_of_ble_eq_true rfl) ?_
  generalize hA : sp_hadN (t 34) a q 12 = ha
  generalize hB : sp_hadN (t 34) b q 12 = hb
  have end2 : ∀ (n : Nat), ∀ (k : Nat) (t1 t2 : hy_T) , n + k = 144 → hy_F fX t t1 → hy_F f2X t1 t2 → t1 49 4 = hz_iand hb (hz_ixor ha (-1)) → t1 49 5 = hz_iand ha (hz_ixor hb (-1)) → (∀ c : Nat, c < 12 → t1 48 c = sp_price t b q 0 c) →
      (∀ w : Nat, w < 144 → dl_chosen (t1 49 4) (t1 49 5) w = true → t1 50 w = dl_worth t a q (dl_plainA ha w)) → (∀ w : Nat, w < k → dl_chosen (t1 49 4) (t1 49 5) w = true → t2 51 w = dl_worth t b q (dl_plainB hb w)) →
      hy_W sc hm_D_fight 5 69 [.inr (some 49), .inl a, .inl b, .inl q, .inl ha, .inl hb, .inl (k : Int)] [] t2 (fun r t' => r = none ∧ hy_F fX t t' ∧ ∃ t2 : hy_T, t2 49 4 = hz_iand hb (hz_ixor ha (-1)) ∧ t2 49 5 = hz_iand ha (hz_ixor hb (-1)) ∧
      (∀ w : Nat, w < 144 → dl_chosen (t2 49 4) (t2 49 5) w = true → t2 50 w = dl_worth t a q (dl_plainA ha w) ∧ t2 51 w = dl_worth t b q (dl_plainB hb w)) ∧ t' 49 6 = dl_twos t2 144 ∧ t' 49 7 = dl_a (dl_first t2 144) ∧ t' 49 8 = dl_b (dl_first t2 144)) := by
    intro n
    induction n with
    | zero =>
      intro k t1 t2 hn hF hF2 h4 h5 hP hWA hWB
      obtain rfl : k = 144 := by omega
      have hG : hy_F fX t t2 := hF.tr' (hF2.w (fun r j q => by revert q; simp [fX, f2X]; omega))
      have e4 : t2 49 4 = t1 49 4 := hF2 49 4 rfl
      have e5 : t2 49 5 = t1 49 5 := hF2 49 5 rfl
      refine hy_iload (i := 69) rfl rfl ?_
      refine hy_const (i := 70) rfl (by decide) ?_
      refine hy_ic_ge (i := 71) (tt := 96) rfl (fun zc1 => ?_) (fun zc1 => ?_)
      · refine hy_aload (i := 96) rfl rfl ?_
        refine hy_cV0 (i := 97) rfl mj_D_findTwos (by decide) rfl (Nat.le_of_ble_eq_true rfl) rfl rfl rfl (c_D_findTwos) (fun r1_ t1_ h1 => ?_)
        obtain ⟨rfl, hD1, hF1⟩ := h1
        dsimp only [hy_st, List.nil_append]
        refine hy_return (i := 98) rfl rfl ?_
        refine ⟨rfl, hG.tr' (hF1.w (fun r j q => by revert q; simp [fX, dfX]; omega)), t2, by rw [e4, h4], by rw [e5, h5], fun w hw hc => ?_, hD1.1, hD1.2.1, hD1.2.2⟩
        rw [e4, e5] at hc
        exact ⟨by rw [hF2 50 w rfl]; exact hWA w hw hc, hWB w hw hc⟩
      · omega
    | succ n ih =>
      intro k t1 t2 hn hF hF2 h4 h5 hP hWA hWB
      have hG : hy_F fX t t2 := hF.tr' (hF2.w (fun r j q => by revert q; simp [fX, f2X]; omega))
      have e4 : t2 49 4 = t1 49 4 := hF2 49 4 rfl
      have e5 : t2 49 5 = t1 49 5 := hF2 49 5 rfl
      have e48 : t2 48 = t1 48 := funext fun j => hF2 48 j rfl
      have hk2 := lc_ok_same (fX_law hG) hk
      have hp2 : ∀ c : Nat, c < 12 → 0 ≤ t2 48 c ∧ t2 48 c ≤ 6400 := fun c hc => by rw [e48, hP c hc]; exact sp_price_le t b q 0 c
      refine hy_iload (i := 69) rfl rfl ?_
      refine hy_const (i := 70) rfl (by decide) ?_
      refine hy_ic_ge (i := 71) (tt := 96) rfl (fun zc1 => ?_) (fun zc1 => ?_)
      · omega
      · refine hy_aload (i := 72) rfl rfl ?_
        refine hy_iload (i := 73) rfl rfl ?_
        refine hy_cV1e (i := 74) rfl mj_D_isChosen (by decide) rfl (Nat.le_of_ble_eq_true rfl) rfl rfl rfl (c_D_isChosen (by omega)) ?_
        refine hy_ib_eq (i := 75) (tt := 94) rfl (fun zc2 => ?_) (fun zc2 => ?_)
        · refine hy_iinc (i := 94) rfl rfl (by omega) ?_
          refine hy_goto (i := 95) (tt := 69) rfl ?_
          refine ih (k + 1) t1 _ (by omega) hF ?_ h4 h5 hP hWA ?_
          · first | exact hF2 | exact (hF2.tr' (hF4.w (fun r j q => by revert q; simp [eX, f2X]; omega))).up rfl
          · intro w hw hc
            rcases Nat.lt_succ_iff_lt_or_eq.mp hw with h | rfl
            · first | exact hWB w h hc | (rw [hy_up_row]; unfold su; rw [if_neg (by omega), hF4 51 w rfl]; exact hWB w h hc)
            · first | (rw [hy_up_row]; unfold su; rw [if_pos rfl]; rfl) | (rw [e4, e5, hc] at zc2; cases zc2)
        · refine hy_aload (i := 76) rfl rfl ?_
          refine hy_getr (i := 77) rfl rfl ?_
          refine hy_iload (i := 78) rfl rfl ?_
          refine hy_aload (i := 79) rfl rfl ?_
          refine hy_getr (i := 80) rfl rfl ?_
          refine hy_iload (i := 81) rfl rfl ?_
          refine hy_iload (i := 82) rfl rfl ?_
          refine hy_iload (i := 83) rfl rfl ?_
          refine hy_iload (i := 84) rfl rfl ?_
          refine hy_cS1e (i := 85) rfl (by decide) mj_D_lost (by decide) rfl (Nat.le_of_ble_eq_true rfl) (c_D_lost (by omega)) ?_
          refine hy_ior (i := 86) rfl ?_
          refine hy_iload (i := 87) rfl rfl ?_
          refine hy_cS1e (i := 88) rfl (by decide) mj_D_taken (by decide) rfl (Nat.le_of_ble_eq_true rfl) (c_D_taken (by omega)) ?_
          refine hy_const (i := 89) rfl (by decide) ?_
          refine hy_ixor (i := 90) rfl ?_
          refine hy_iand (i := 91) rfl ?_
          refine hy_cV3 (i := 92) rfl mj_U_worthWith (by decide) rfl (Nat.le_of_ble_eq_true rfl) rfl rfl rfl (c_U_worthWith (by assumption) (by assumption)) (fun r4_ t4_ h4 => ?_)
          obtain ⟨rfl, hF4⟩ := h4
          dsimp only [hy_st, List.cons_append, List.nil_append]
          rw [dl_worth_F hG hP e48]
          refine hy_iast (i := 93) rfl rfl (by omega) (k := k) (by omega) ?_
          refine hy_iinc (i := 94) rfl rfl (by omega) ?_
          refine hy_goto (i := 95) (tt := 69) rfl ?_
          refine ih (k + 1) t1 _ (by omega) hF ?_ h4 h5 hP hWA ?_
          · first | exact hF2 | exact (hF2.tr' (hF4.w (fun r j q => by revert q; simp [eX, f2X]; omega))).up rfl
          · intro w hw hc
            rcases Nat.lt_succ_iff_lt_or_eq.mp hw with h | rfl
            · first | exact hWB w h hc | (rw [hy_up_row]; unfold su; rw [if_neg (by omega), hF4 51 w rfl]; exact hWB w h hc)
            · first | (rw [hy_up_row]; unfold su; rw [if_pos rfl]; rfl) | (rw [e4, e5, hc] at zc2; cases zc2)
  have end1 : ∀ (n : Nat), ∀ (k : Nat) (t1 t2 : hy_T) , n + k = 144 → hy_F fX t t1 → hy_F f1X t1 t2 → t1 49 4 = hz_iand hb (hz_ixor ha (-1)) → t1 49 5 = hz_iand ha (hz_ixor hb (-1)) → (∀ c : Nat, c < 12 → t1 48 c = sp_price t a q 0 c) →
      (∀ w : Nat, w < k → dl_chosen (t1 49 4) (t1 49 5) w = true → t2 50 w = dl_worth t a q (dl_plainA ha w)) →
      hy_W sc hm_D_fight 5 34 [.inr (some 49), .inl a, .inl b, .inl q, .inl ha, .inl hb, .inl (k : Int)] [] t2 (fun r t' => r = none ∧ hy_F fX t t' ∧ ∃ t2 : hy_T, t2 49 4 = hz_iand hb (hz_ixor ha (-1)) ∧ t2 49 5 = hz_iand ha (hz_ixor hb (-1)) ∧
      (∀ w : Nat, w < 144 → dl_chosen (t2 49 4) (t2 49 5) w = true → t2 50 w = dl_worth t a q (dl_plainA ha w) ∧ t2 51 w = dl_worth t b q (dl_plainB hb w)) ∧ t' 49 6 = dl_twos t2 144 ∧ t' 49 7 = dl_a (dl_first t2 144) ∧ t' 49 8 = dl_b (dl_first t2 144)) := by
    intro n
    induction n with
    | zero =>
      intro k t1 t2 hn hF hF2 h4 h5 hP hWA
      obtain rfl : k = 144 := by omega
      have hG : hy_F fX t t2 := hF.tr' (hF2.w (fun r j q => by revert q; simp [fX, f1X]; omega))
      have e4 : t2 49 4 = t1 49 4 := hF2 49 4 rfl
      have e5 : t2 49 5 = t1 49 5 := hF2 49 5 rfl
      have hk2 := lc_ok_same (fX_law hG) hk
      refine hy_iload (i := 34) rfl rfl ?_
      refine hy_const (i := 35) rfl (by decide) ?_
      refine hy_ic_ge (i := 36) (tt := 61) rfl (fun zc1 => ?_) (fun zc1 => ?_)
      · refine hy_aload (i := 61) rfl rfl ?_
        refine hy_getr (i := 62) rfl rfl ?_
        refine hy_iload (i := 63) rfl rfl ?_
        refine hy_iload (i := 64) rfl rfl ?_
        refine hy_const (i := 65) rfl (by decide) ?_
        refine hy_cV3 (i := 66) rfl mj_U_price (by decide) rfl (Nat.le_of_ble_eq_true rfl) rfl rfl rfl (c_U_price (by assumption)) (fun r1_ t1_ h1 => ?_)
        obtain ⟨rfl, hP1, hF1⟩ := h1
        dsimp only [hy_st, List.nil_append]
        refine hy_const (i := 67) rfl (by decide) ?_
        refine hy_istore (i := 68) rfl ?_
        have hG1 : hy_F fX t t1_ := hG.tr' (hF1.w (fun r j q => by revert q; simp [fX, pX]; omega))
        exact end2 144 0 t1_ t1_ rfl hG1 hy_F.rf (by rw [hF1 49 4 rfl, e4, h4]) (by rw [hF1 49 5 rfl, e5, h5]) (fun c hc => by rw [hP1 c hc, sp_price_G hG (fX_law hG) (fun _ => rfl) (fun _ => rfl) (fun _ => rfl) rfl rfl]) (fun w hw hc => by rw [hF1 50 w rfl]; rw [hF1 49 4 rfl, hF1 49 5 rfl, e4, e5] at hc; exact hWA w hw hc) (fun w hw => by omega)
      · omega
    | succ n ih =>
      intro k t1 t2 hn hF hF2 h4 h5 hP hWA
      have hG : hy_F fX t t2 := hF.tr' (hF2.w (fun r j q => by revert q; simp [fX, f1X]; omega))
      have e4 : t2 49 4 = t1 49 4 := hF2 49 4 rfl
      have e5 : t2 49 5 = t1 49 5 := hF2 49 5 rfl
      have e48 : t2 48 = t1 48 := funext fun j => hF2 48 j rfl
      have hk2 := lc_ok_same (fX_law hG) hk
      have hp2 : ∀ c : Nat, c < 12 → 0 ≤ t2 48 c ∧ t2 48 c ≤ 6400 := fun c hc => by rw [e48, hP c hc]; exact sp_price_le t a q 0 c
      refine hy_iload (i := 34) rfl rfl ?_
      refine hy_const (i := 35) rfl (by decide) ?_
      refine hy_ic_ge (i := 36) (tt := 61) rfl (fun zc1 => ?_) (fun zc1 => ?_)
      · omega
      · refine hy_aload (i := 37) rfl rfl ?_
        refine hy_iload (i := 38) rfl rfl ?_
        refine hy_cV1e (i := 39) rfl mj_D_isChosen (by decide) rfl (Nat.le_of_ble_eq_true rfl) rfl rfl rfl (c_D_isChosen (by omega)) ?_
        refine hy_ib_eq (i := 40) (tt := 59) rfl (fun zc2 => ?_) (fun zc2 => ?_)
        · refine hy_iinc (i := 59) rfl rfl (by omega) ?_
          refine hy_goto (i := 60) (tt := 34) rfl ?_
          refine ih (k + 1) t1 _ (by omega) hF ?_ h4 h5 hP ?_
          · first | exact hF2 | exact (hF2.tr' (hF4.w (fun r j q => by revert q; simp [eX, f1X]; omega))).up rfl
          · intro w hw hc
            rcases Nat.lt_succ_iff_lt_or_eq.mp hw with h | rfl
            · first | exact hWA w h hc | (rw [hy_up_row]; unfold su; rw [if_neg (by omega), hF4 50 w rfl]; exact hWA w h hc)
            · first | (rw [hy_up_row]; unfold su; rw [if_pos rfl]; rfl) | (rw [e4, e5, hc] at zc2; cases zc2)
        · refine hy_aload (i := 41) rfl rfl ?_
          refine hy_getr (i := 42) rfl rfl ?_
          refine hy_iload (i := 43) rfl rfl ?_
          refine hy_aload (i := 44) rfl rfl ?_
          refine hy_getr (i := 45) rfl rfl ?_
          refine hy_iload (i := 46) rfl rfl ?_
          refine hy_iload (i := 47) rfl rfl ?_
          refine hy_iload (i := 48) rfl rfl ?_
          refine hy_iload (i := 49) rfl rfl ?_
          refine hy_cS1e (i := 50) rfl (by decide) mj_D_taken (by decide) rfl (Nat.le_of_ble_eq_true rfl) (c_D_taken (by omega)) ?_
          refine hy_ior (i := 51) rfl ?_
          refine hy_iload (i := 52) rfl rfl ?_
          refine hy_cS1e (i := 53) rfl (by decide) mj_D_lost (by decide) rfl (Nat.le_of_ble_eq_true rfl) (c_D_lost (by omega)) ?_
          refine hy_const (i := 54) rfl (by decide) ?_
          refine hy_ixor (i := 55) rfl ?_
          refine hy_iand (i := 56) rfl ?_
          refine hy_cV3 (i := 57) rfl mj_U_worthWith (by decide) rfl (Nat.le_of_ble_eq_true rfl) rfl rfl rfl (c_U_worthWith (by assumption) (by assumption)) (fun r4_ t4_ h4 => ?_)
          obtain ⟨rfl, hF4⟩ := h4
          dsimp only [hy_st, List.cons_append, List.nil_append]
          rw [dl_worth_F hG hP e48]
          refine hy_iast (i := 58) rfl rfl (by omega) (k := k) (by omega) ?_
          refine hy_iinc (i := 59) rfl rfl (by omega) ?_
          refine hy_goto (i := 60) (tt := 34) rfl ?_
          refine ih (k + 1) t1 _ (by omega) hF ?_ h4 h5 hP ?_
          · first | exact hF2 | exact (hF2.tr' (hF4.w (fun r j q => by revert q; simp [eX, f1X]; omega))).up rfl
          · intro w hw hc
            rcases Nat.lt_succ_iff_lt_or_eq.mp hw with h | rfl
            · first | exact hWA w h hc | (rw [hy_up_row]; unfold su; rw [if_neg (by omega), hF4 50 w rfl]; exact hWA w h hc)
            · first | (rw [hy_up_row]; unfold su; rw [if_pos rfl]; rfl) | (rw [e4, e5, hc] at zc2; cases zc2)
  have k0 : lc_ok (hy_up (hy_up t 49 4 (hz_iand hb (hz_ixor ha (-1)))) 49 5 (hz_iand ha (hz_ixor hb (-1)))) := lc_ok_same (fX_law ((hy_F.rf.up rfl).up rfl)) hk
  refine hy_aload (i := 0) rfl rfl ?_
  refine hy_getr (i := 1) rfl rfl ?_
  refine hy_iload (i := 2) rfl rfl ?_
  refine hy_iload (i := 3) rfl rfl ?_
  refine hy_cV2e (i := 4) rfl mj_S_had (by decide) rfl (Nat.le_of_ble_eq_true rfl) rfl rfl rfl (c_S_had_33) ?_
  rw [hA]
  refine hy_istore (i := 5) rfl ?_
  refine hy_aload (i := 6) rfl rfl ?_
  refine hy_getr (i := 7) rfl rfl ?_
  refine hy_iload (i := 8) rfl rfl ?_
  refine hy_iload (i := 9) rfl rfl ?_
  refine hy_cV2e (i := 10) rfl mj_S_had (by decide) rfl (Nat.le_of_ble_eq_true rfl) rfl rfl rfl (c_S_had_33) ?_
  rw [hB]
  refine hy_istore (i := 11) rfl ?_
  refine hy_aload (i := 12) rfl rfl ?_
  refine hy_iload (i := 13) rfl rfl ?_
  refine hy_iload (i := 14) rfl rfl ?_
  refine hy_const (i := 15) rfl (by decide) ?_
  refine hy_ixor (i := 16) rfl ?_
  refine hy_iand (i := 17) rfl ?_
  refine hy_put (i := 18) (fk := 4) rfl rfl rfl rfl ?_
  refine hy_aload (i := 19) rfl rfl ?_
  refine hy_iload (i := 20) rfl rfl ?_
  refine hy_iload (i := 21) rfl rfl ?_
  refine hy_const (i := 22) rfl (by decide) ?_
  refine hy_ixor (i := 23) rfl ?_
  refine hy_iand (i := 24) rfl ?_
  refine hy_put (i := 25) (fk := 5) rfl rfl rfl rfl ?_
  refine hy_aload (i := 26) rfl rfl ?_
  refine hy_getr (i := 27) rfl rfl ?_
  refine hy_iload (i := 28) rfl rfl ?_
  refine hy_iload (i := 29) rfl rfl ?_
  refine hy_const (i := 30) rfl (by decide) ?_
  refine hy_cV3 (i := 31) rfl mj_U_price (by decide) rfl (Nat.le_of_ble_eq_true rfl) rfl rfl rfl (c_U_price (by assumption)) (fun r3_ t3_ h3 => ?_)
  obtain ⟨rfl, hP3, hF3⟩ := h3
  dsimp only [hy_st, List.nil_append]
  refine hy_const (i := 32) rfl (by decide) ?_
  refine hy_istore (i := 33) rfl ?_
  have hX : hy_F fX t (hy_up (hy_up t 49 4 (hz_iand hb (hz_ixor ha (-1)))) 49 5 (hz_iand ha (hz_ixor hb (-1)))) := (hy_F.rf.up rfl).up rfl
  exact end1 144 0 _ _ rfl (hX.tr' (hF3.w (fun r j q => by revert q; simp [fX, pX]; omega))) hy_F.rf (by rw [hF3 49 4 rfl]; rfl) (by rw [hF3 49 5 rfl]; rfl) (fun c hc => by rw [hP3 c hc, sp_price_G hX (fX_law hX) (fun _ => rfl) (fun _ => rfl) (fun _ => rfl) rfl rfl]) (fun w hw => by omega)
end FI
/-! the class's paths -/
def pa_beside (f s : Int) : Int :=
  if s = 0 then (if f % 8 < 7 then f + 1 else -1)
  else if s = 1 then (if 0 < f % 8 then f - 1 else -1)
  else if s = 2 then (if f + 8 < 64 then f + 8 else -1)
  else (if 8 ≤ f then f - 8 else -1)
theorem pa_beside_in {f : Int} (hf : 0 ≤ f ∧ f < 64) (s : Int) : -1 ≤ pa_beside f s ∧ pa_beside f s < 64 := by
  unfold pa_beside
  split
  · split <;> omega
  · split
    · split <;> omega
    · split
      · split <;> omega
      · split <;> omega
def pa_forgetN (t : hy_T) : Nat → hy_T
  | 0 => t
  | n + 1 => hy_up (hy_up (pa_forgetN t n) 54 n 0) 55 n 1000000
def pa_inv (t : hy_T) : Prop := ∀ j : Nat, j < 64 → 0 ≤ t 55 j ∧ t 55 j ≤ 1000000
def pa_nearN (t : hy_T) : Nat → Int
  | 0 => -1
  | n + 1 => if t 54 n = 0 ∧ (pa_nearN t n < 0 ∨ t 55 n < t 55 (pa_nearN t n).toNat) then (n : Int) else pa_nearN t n
theorem pa_near_in (t : hy_T) : ∀ n : Nat, -1 ≤ pa_nearN t n ∧ pa_nearN t n < n
  | 0 => by simp [pa_nearN]
  | n + 1 => by
    have h := pa_near_in t n
    simp only [pa_nearN]
    split <;> omega
def pa_cost (t : hy_T) (f nx : Int) : Int := t 55 f.toNat + 1 + (if t 53 nx.toNat = 0 then 100 else 0)
def pa_leaveN (t : hy_T) (f : Int) : Nat → hy_T
  | 0 => hy_up t 54 f.toNat 1
  | n + 1 =>
    let t1 := pa_leaveN t f n
    let nx := pa_beside f n
    if 0 ≤ nx then hy_up t1 55 nx.toNat (if pa_cost t1 f nx < t1 55 nx.toNat then pa_cost t1 f nx else t1 55 nx.toNat) else t1
def pa_leave (t : hy_T) (f : Int) : hy_T := if 0 ≤ f ∧ f < 64 then pa_leaveN t f 4 else t
theorem pa_inv_up {t : hy_T} (h : pa_inv t) {j : Nat} {v : Int} (hv : 0 ≤ v ∧ v ≤ 1000000) : pa_inv (hy_up t 55 j v) := by
  intro i hi
  unfold hy_up
  split
  · exact hv
  · exact h i hi
theorem pa_leaveN_inv {t : hy_T} (h : pa_inv t) {f : Int} (hf : 0 ≤ f ∧ f < 64) : ∀ n : Nat, pa_inv (pa_leaveN t f n)
  | 0 => fun j hj => by
    simp only [pa_leaveN]
    show 0 ≤ hy_up t 54 f.toNat 1 55 j ∧ hy_up t 54 f.toNat 1 55 j ≤ 1000000
    rw [show hy_up t 54 f.toNat 1 55 j = t 55 j by simp [hy_up]]
    exact h j hj
  | n + 1 => by
    have ih := pa_leaveN_inv h hf n
    simp only [pa_leaveN]
    split
    · have h1 := pa_beside_in hf n
      have h2 := ih (pa_beside f n).toNat (by omega)
      have h3 := ih f.toNat (by omega)
      refine pa_inv_up ih ?_
      unfold pa_cost
      split <;> split at * <;> omega
    · exact ih
theorem pa_leave_inv {t : hy_T} (h : pa_inv t) (f : Int) : pa_inv (pa_leave t f) := by
  unfold pa_leave
  split
  · exact pa_leaveN_inv h (by assumption) 4
  · exact h
def pa_searchN (t : hy_T) : Nat → hy_T
  | 0 => t
  | n + 1 => let t1 := pa_searchN t n; pa_leave t1 (pa_nearN t1 64)
theorem pa_searchN_inv {t : hy_T} (h : pa_inv t) : ∀ n : Nat, pa_inv (pa_searchN t n)
  | 0 => h
  | n + 1 => pa_leave_inv (pa_searchN_inv h n) _
def pa_search0 (t : hy_T) (a : Int) : hy_T := if 0 ≤ a ∧ a < 64 then hy_up (pa_forgetN t 64) 55 a.toNat 0 else pa_forgetN t 64
theorem pa_forget_inv (t : hy_T) : pa_inv (pa_forgetN t 64) := by
  have h : ∀ n : Nat, ∀ j : Nat, j < n → pa_forgetN t n 55 j = 1000000 := by
    intro n
    induction n with
    | zero => intro j hj; omega
    | succ n ih =>
      intro j hj
      simp only [pa_forgetN, hy_up]
      by_cases hjn : j = n
      · simp [hjn]
      · rw [if_neg (by omega), if_neg (by omega)]
        exact ih j (by omega)
  intro j hj
  rw [h 64 j hj]
  omega
theorem pa_search0_inv (t : hy_T) (a : Int) : pa_inv (pa_search0 t a) := by
  unfold pa_search0
  split
  · exact pa_inv_up (pa_forget_inv t) (by decide)
  · exact pa_forget_inv t
abbrev paX : Nat → Nat → Bool := fun r j => r == 54 || r == 55 || r == 56 || (r == 52 && (j == 4 || j == 5))
theorem pa_forgetN_F (t : hy_T) : ∀ n, hy_F paX t (pa_forgetN t n)
  | 0 => hy_F.rf
  | n + 1 => ((pa_forgetN_F t n).up rfl).up rfl
theorem pa_leaveN_F (t : hy_T) (f : Int) : ∀ n, hy_F paX t (pa_leaveN t f n)
  | 0 => hy_F.rf.up rfl
  | n + 1 => by
    simp only [pa_leaveN]
    split
    · exact (pa_leaveN_F t f n).up rfl
    · exact pa_leaveN_F t f n
theorem pa_leave_F (t : hy_T) (f : Int) : hy_F paX t (pa_leave t f) := by
  unfold pa_leave
  split
  · exact pa_leaveN_F t f 4
  · exact hy_F.rf
theorem pa_searchN_F (t : hy_T) : ∀ n, hy_F paX t (pa_searchN t n)
  | 0 => hy_F.rf
  | n + 1 => (pa_searchN_F t n).tr' (pa_leave_F _ _)
theorem pa_search0_F (t : hy_T) (a : Int) : hy_F paX t (pa_search0 t a) := by
  unfold pa_search0
  split
  · exact (pa_forgetN_F t 64).up rfl
  · exact pa_forgetN_F t 64
def pa_push (t : hy_T) (f w : Int) : hy_T × Int := if (0 ≤ w ∧ w < 64) ∧ 0 ≤ f ∧ f < 64 then (hy_up (hy_up t 54 f.toNat 1) 56 w.toNat f, w + 1) else (t, w)
def pa_side (t : hy_T) (f w : Int) : Nat → hy_T × Int
  | 0 => (t, w)
  | n + 1 =>
    let p := pa_side t f w n
    if 0 ≤ pa_beside f n ∧ p.1 53 (pa_beside f n).toNat ≠ 0 ∧ p.1 54 (pa_beside f n).toNat = 0 then pa_push p.1 (pa_beside f n) p.2 else p
def pa_fillN : Nat → hy_T → Int → Int → hy_T × Int
  | 0, t, _, z => (t, z)
  | n + 1, t, w, z => if 0 < w then (let p := pa_side t (t 56 (w - 1).toNat) (w - 1) 4; pa_fillN n p.1 p.2 (z + 1)) else (t, z)
def pa_fill (t : hy_T) (f : Int) : hy_T × Int := pa_fillN 64 (pa_push t f 0).1 (pa_push t f 0).2 0
def pa_stk (t : hy_T) : Prop := ∀ j : Nat, j < 64 → 0 ≤ t 56 j ∧ t 56 j < 64
abbrev pfX : Nat → Nat → Bool := fun r _ => r == 54 || r == 56
theorem pa_push_s {t : hy_T} (h : pa_stk t) (f : Int) {w : Int} (hw : 0 ≤ w ∧ w ≤ 64) : pa_stk (pa_push t f w).1 ∧ (0 ≤ (pa_push t f w).2 ∧ (pa_push t f w).2 ≤ 64) ∧ hy_F pfX t (pa_push t f w).1 := by
  unfold pa_push
  split
  · next hc =>
    refine ⟨fun j hj => ?_, by dsimp only; omega, (hy_F.rf.up rfl).up rfl⟩
    show 0 ≤ hy_up (hy_up t 54 f.toNat 1) 56 w.toNat f 56 j ∧ hy_up (hy_up t 54 f.toNat 1) 56 w.toNat f 56 j < 64
    by_cases hjw : j = w.toNat
    · rw [show hy_up (hy_up t 54 f.toNat 1) 56 w.toNat f 56 j = f by simp [hy_up, hjw]]; omega
    · rw [show hy_up (hy_up t 54 f.toNat 1) 56 w.toNat f 56 j = t 56 j by simp [hy_up, hjw]]; exact h j hj
  · exact ⟨h, hw, hy_F.rf⟩
theorem pa_side_s {t : hy_T} (h : pa_stk t) (f : Int) {w : Int} (hw : 0 ≤ w ∧ w ≤ 64) : ∀ n : Nat, pa_stk (pa_side t f w n).1 ∧ (0 ≤ (pa_side t f w n).2 ∧ (pa_side t f w n).2 ≤ 64) ∧ hy_F pfX t (pa_side t f w n).1
  | 0 => ⟨h, hw, hy_F.rf⟩
  | n + 1 => by
    obtain ⟨h1, h2, h3⟩ := pa_side_s h f hw n
    simp only [pa_side]
    split
    · obtain ⟨g1, g2, g3⟩ := pa_push_s h1 (pa_beside f n) h2
      exact ⟨g1, g2, h3.tr' g3⟩
    · exact ⟨h1, h2, h3⟩
theorem pa_fillN_s : ∀ (n : Nat) {t : hy_T} {w z : Int}, pa_stk t → (0 ≤ w ∧ w ≤ 64) → pa_stk (pa_fillN n t w z).1 ∧ (z ≤ (pa_fillN n t w z).2 ∧ (pa_fillN n t w z).2 ≤ z + n) ∧ hy_F pfX t (pa_fillN n t w z).1
  | 0, t, w, z, h, hw => ⟨h, by simp [pa_fillN], hy_F.rf⟩
  | n + 1, t, w, z, h, hw => by
    simp only [pa_fillN]
    split
    · obtain ⟨h1, h2, h3⟩ := pa_side_s h (t 56 (w - 1).toNat) (w := w - 1) (by omega) 4
      obtain ⟨g1, g2, g3⟩ := pa_fillN_s n (z := z + 1) h1 h2
      exact ⟨g1, by omega, h3.tr' g3⟩
    · exact ⟨h, by dsimp only; omega, hy_F.rf⟩
theorem pa_fill_s {t : hy_T} (h : pa_stk t) (f : Int) : pa_stk (pa_fill t f).1 ∧ (0 ≤ (pa_fill t f).2 ∧ (pa_fill t f).2 ≤ 64) ∧ hy_F pfX t (pa_fill t f).1 := by
  obtain ⟨h1, h2, h3⟩ := pa_push_s h f (w := 0) (by decide)
  obtain ⟨g1, g2, g3⟩ := pa_fillN_s 64 (z := 0) h1 h2
  exact ⟨g1, by unfold pa_fill; omega, h3.tr' g3⟩
def pa_seaN (t : hy_T) : Nat → hy_T
  | 0 => hy_up (hy_up (pa_forgetN t 64) 52 4 0) 52 5 0
  | n + 1 =>
    let t1 := pa_seaN t n
    if t1 53 n ≠ 0 ∧ t1 54 n = 0 then
      (let t2 := hy_up t1 52 4 (t1 52 4 + 1)
       let p := pa_fill t2 n
       hy_up p.1 52 5 (if t2 52 5 < p.2 then p.2 else t2 52 5))
    else t1
theorem pa_stk_F {X : Nat → Nat → Bool} {t t1 : hy_T} (h : hy_F X t t1) (hx : ∀ j, X 56 j = false) (hs : pa_stk t) : pa_stk t1 := fun j hj => by
  rw [h 56 j (hx j)]
  exact hs j hj
theorem pa_forgetN_G (t : hy_T) : ∀ n, hy_F (fun r _ => r == 54 || r == 55) t (pa_forgetN t n)
  | 0 => hy_F.rf
  | n + 1 => ((pa_forgetN_G t n).up rfl).up rfl
theorem pa_sea_s {t : hy_T} (h : pa_stk t) : ∀ n : Nat, pa_stk (pa_seaN t n) ∧ (0 ≤ pa_seaN t n 52 4 ∧ pa_seaN t n 52 4 ≤ n) ∧ hy_F paX t (pa_seaN t n)
  | 0 => ⟨pa_stk_F (X := fun r j => r == 54 || r == 55 || r == 52) (((((pa_forgetN_G t 64).w (fun r j q => by revert q; simp; omega))).up rfl).up rfl) (fun _ => rfl) h, by simp [pa_seaN, hy_up], ((pa_forgetN_F t 64).up rfl).up rfl⟩
  | n + 1 => by
    obtain ⟨h1, h2, h3⟩ := pa_sea_s h n
    simp only [pa_seaN]
    split
    · have h4 : pa_stk (hy_up (pa_seaN t n) 52 4 (pa_seaN t n 52 4 + 1)) := pa_stk_F (X := fun r _ => r == 52) (hy_F.rf.up rfl) (fun _ => rfl) h1
      obtain ⟨g1, g2, g3⟩ := pa_fill_s h4 n
      refine ⟨pa_stk_F (X := fun r _ => r == 52) (hy_F.rf.up rfl) (fun _ => rfl) g1, ?_, ((h3.up rfl).tr' (g3.w (fun r j q => by revert q; simp [paX, pfX]; omega))).up rfl⟩
      rw [show ∀ v, hy_up (pa_fill (hy_up (pa_seaN t n) 52 4 (pa_seaN t n 52 4 + 1)) n).1 52 5 v 52 4 = (pa_fill (hy_up (pa_seaN t n) 52 4 (pa_seaN t n 52 4 + 1)) n).1 52 4 from fun v => by simp [hy_up], g3 52 4 rfl]
      simp [hy_up]
      omega
    · exact ⟨h1, by omega, h3⟩
section PA
variable {sc : List Int32} {t : hy_T}
theorem c_A_mark {f m : Int} (hm : m = 0 ∨ m = 1) : hy_Ct sc hm_A_mark 1 [.inr (some 52), .inl f, .inl m] t (hy_e none (if 0 ≤ f ∧ f < 64 then hy_up t 53 f.toNat m else t)) := by
  refine hy_mk_ct ok_A_mark ck_A_mark (Nat.le_of_ble_eq_true rfl) ?_
  refine hy_iload (i := 0) rfl rfl ?_
  refine hy_const (i := 1) rfl (by decide) ?_
  refine hy_cS2e (i := 2) rfl (by decide) mj_W_isAmong (by decide) rfl (Nat.le_of_ble_eq_true rfl) (c_W_isAmong) ?_
  refine hy_ib_eq (i := 3) (tt := 9) rfl (fun zc1 => ?_) (fun zc1 => ?_)
  · refine hy_return (i := 9) rfl rfl ?_
    exact ⟨rfl, by simp at zc1; split <;> first | rfl | omega⟩
  · refine hy_aload (i := 4) rfl rfl ?_
    refine hy_getr (i := 5) rfl rfl ?_
    refine hy_iload (i := 6) rfl rfl ?_
    refine hy_iload (i := 7) rfl rfl ?_
    refine hy_zast (i := 8) rfl rfl (by simp at zc1; omega) rfl (by assumption) ?_
    refine hy_return (i := 9) rfl rfl ?_
    exact ⟨rfl, by simp at zc1; split <;> first | rfl | omega⟩
theorem c_A_beside {f s : Int} (hf : 0 ≤ f ∧ f < 64) : hy_Ct sc hm_A_beside 0 [.inl f, .inl s] t (hy_e (some (pa_beside f s)) t) := by
  refine hy_mk_ct ok_A_beside ck_A_beside (Nat.le_of_ble_eq_true rfl) ?_
  refine hy_iload (i := 0) rfl rfl ?_
  by_cases zq1 : s = 0
  · refine hy_tsw (i := 1) (tt := 2) rfl (by rw [zq1]; rfl) ?_
    refine hy_iload (i := 2) rfl rfl ?_
    refine hy_const (i := 3) rfl (by decide) ?_
    refine hy_irem (i := 4) rfl (by omega) (by omega) ?_
    refine hy_const (i := 5) rfl (by decide) ?_
    refine hy_ic_ge (i := 6) (tt := 11) rfl (fun zc2 => ?_) (fun zc2 => ?_)
    · refine hy_const (i := 11) rfl (by decide) ?_
      refine hy_ireturn (i := 12) rfl rfl ?_
      exact ⟨congrArg some (by unfold pa_beside; repeat (first | rw [if_pos (by omega)] | rw [if_neg (by omega)])), rfl⟩
    · refine hy_iload (i := 7) rfl rfl ?_
      refine hy_const (i := 8) rfl (by decide) ?_
      refine hy_iadd (i := 9) rfl (by omega) ?_
      refine hy_goto (i := 10) (tt := 12) rfl ?_
      refine hy_ireturn (i := 12) rfl rfl ?_
      exact ⟨congrArg some (by unfold pa_beside; repeat (first | rw [if_pos (by omega)] | rw [if_neg (by omega)])), rfl⟩
  · skip
    by_cases zq1 : s = 1
    · refine hy_tsw (i := 1) (tt := 13) rfl (by rw [zq1]; rfl) ?_
      refine hy_iload (i := 13) rfl rfl ?_
      refine hy_const (i := 14) rfl (by decide) ?_
      refine hy_irem (i := 15) rfl (by omega) (by omega) ?_
      refine hy_if_le (i := 16) (tt := 21) rfl (fun zc2 => ?_) (fun zc2 => ?_)
      · refine hy_const (i := 21) rfl (by decide) ?_
        refine hy_ireturn (i := 22) rfl rfl ?_
        exact ⟨congrArg some (by unfold pa_beside; repeat (first | rw [if_pos (by omega)] | rw [if_neg (by omega)])), rfl⟩
      · refine hy_iload (i := 17) rfl rfl ?_
        refine hy_const (i := 18) rfl (by decide) ?_
        refine hy_isub (i := 19) rfl (by omega) ?_
        refine hy_goto (i := 20) (tt := 22) rfl ?_
        refine hy_ireturn (i := 22) rfl rfl ?_
        exact ⟨congrArg some (by unfold pa_beside; repeat (first | rw [if_pos (by omega)] | rw [if_neg (by omega)])), rfl⟩
    · skip
      by_cases zq1 : s = 2
      · refine hy_tsw (i := 1) (tt := 23) rfl (by rw [zq1]; rfl) ?_
        refine hy_iload (i := 23) rfl rfl ?_
        refine hy_const (i := 24) rfl (by decide) ?_
        refine hy_iadd (i := 25) rfl (by omega) ?_
        refine hy_const (i := 26) rfl (by decide) ?_
        refine hy_ic_ge (i := 27) (tt := 32) rfl (fun zc2 => ?_) (fun zc2 => ?_)
        · refine hy_const (i := 32) rfl (by decide) ?_
          refine hy_ireturn (i := 33) rfl rfl ?_
          exact ⟨congrArg some (by unfold pa_beside; repeat (first | rw [if_pos (by omega)] | rw [if_neg (by omega)])), rfl⟩
        · refine hy_iload (i := 28) rfl rfl ?_
          refine hy_const (i := 29) rfl (by decide) ?_
          refine hy_iadd (i := 30) rfl (by omega) ?_
          refine hy_goto (i := 31) (tt := 33) rfl ?_
          refine hy_ireturn (i := 33) rfl rfl ?_
          exact ⟨congrArg some (by unfold pa_beside; repeat (first | rw [if_pos (by omega)] | rw [if_neg (by omega)])), rfl⟩
      · skip
        refine hy_tsw (i := 1) (tt := 34) rfl (by rcases (show s < 0 ∨ 2 < s by omega) with hh | hh <;> first | (rw [if_pos (by omega)]; rfl) | (rw [hh]; rfl)) ?_
        refine hy_iload (i := 34) rfl rfl ?_
        refine hy_const (i := 35) rfl (by decide) ?_
        refine hy_ic_lt (i := 36) (tt := 41) rfl (fun zc1 => ?_) (fun zc1 => ?_)
        · refine hy_const (i := 41) rfl (by decide) ?_
          refine hy_ireturn (i := 42) rfl rfl ?_
          exact ⟨congrArg some (by unfold pa_beside; repeat (first | rw [if_pos (by omega)] | rw [if_neg (by omega)])), rfl⟩
        · refine hy_iload (i := 37) rfl rfl ?_
          refine hy_const (i := 38) rfl (by decide) ?_
          refine hy_isub (i := 39) rfl (by omega) ?_
          refine hy_goto (i := 40) (tt := 42) rfl ?_
          refine hy_ireturn (i := 42) rfl rfl ?_
          exact ⟨congrArg some (by unfold pa_beside; repeat (first | rw [if_pos (by omega)] | rw [if_neg (by omega)])), rfl⟩
theorem c_A_forget : hy_Ct sc hm_A_forget 0 [.inr (some 52)] t (hy_e none (pa_forgetN t 64)) := by
  refine hy_mk_ct ok_A_forget ck_A_forget (Nat.le_of_ble_eq_true rfl) ?_
  have loop : ∀ (n : Nat), ∀ (k : Nat), n + k = 64 → hy_W sc hm_A_forget 0 2 [.inr (some 52), .inl (k : Int)] [] (pa_forgetN t k) (hy_e none (pa_forgetN t 64)) := by
    intro n
    induction n with
    | zero =>
      intro k hn
      obtain rfl : k = 64 := by omega
      refine hy_iload (i := 2) rfl rfl ?_
      refine hy_const (i := 3) rfl (by decide) ?_
      refine hy_ic_ge (i := 4) (tt := 17) rfl (fun zc1 => ?_) (fun zc1 => ?_)
      · refine hy_return (i := 17) rfl rfl ?_
        exact ⟨rfl, rfl⟩
      · omega
    | succ n ih =>
      intro k hn
      refine hy_iload (i := 2) rfl rfl ?_
      refine hy_const (i := 3) rfl (by decide) ?_
      refine hy_ic_ge (i := 4) (tt := 17) rfl (fun zc1 => ?_) (fun zc1 => ?_)
      · omega
      · refine hy_aload (i := 5) rfl rfl ?_
        refine hy_getr (i := 6) rfl rfl ?_
        refine hy_iload (i := 7) rfl rfl ?_
        refine hy_const (i := 8) rfl (by decide) ?_
        refine hy_zast (i := 9) rfl rfl (by omega) rfl (by first | omega | decide) ?_
        refine hy_aload (i := 10) rfl rfl ?_
        refine hy_getr (i := 11) rfl rfl ?_
        refine hy_iload (i := 12) rfl rfl ?_
        refine hy_const (i := 13) rfl (by decide) ?_
        refine hy_iast (i := 14) rfl rfl (by omega) rfl ?_
        refine hy_iinc (i := 15) rfl rfl (by first | omega | decide) ?_
        refine hy_goto (i := 16) (tt := 2) rfl ?_
        exact ih (k + 1) (by omega)
  refine hy_const (i := 0) rfl (by decide) ?_
  refine hy_istore (i := 1) rfl ?_
  exact loop 64 0 rfl
theorem c_A_nearest : hy_Ct sc hm_A_nearest 0 [.inr (some 52)] t (hy_e (some (pa_nearN t 64)) t) := by
  refine hy_mk_ct ok_A_nearest ck_A_nearest (Nat.le_of_ble_eq_true rfl) ?_
  have loop : ∀ (n : Nat), ∀ (k : Nat) (z : Int), n + k = 64 → z = pa_nearN t k → hy_W sc hm_A_nearest 0 4 [.inr (some 52), .inl z, .inl (k : Int)] [] t (hy_e (some (pa_nearN t 64)) t) := by
    intro n
    induction n with
    | zero =>
      intro k z hn hz
      obtain rfl : k = 64 := by omega
      refine hy_iload (i := 4) rfl rfl ?_
      refine hy_const (i := 5) rfl (by decide) ?_
      refine hy_ic_ge (i := 6) (tt := 27) rfl (fun zc1 => ?_) (fun zc1 => ?_)
      · refine hy_iload (i := 27) rfl rfl ?_
        refine hy_ireturn (i := 28) rfl rfl ?_
        exact ⟨congrArg some hz, rfl⟩
      · omega
    | succ n ih =>
      intro k z hn hz
      have hb := pa_near_in t k
      rw [← hz] at hb
      refine hy_iload (i := 4) rfl rfl ?_
      refine hy_const (i := 5) rfl (by decide) ?_
      refine hy_ic_ge (i := 6) (tt := 27) rfl (fun zc1 => ?_) (fun zc1 => ?_)
      · omega
      · refine hy_aload (i := 7) rfl rfl ?_
        refine hy_getr (i := 8) rfl rfl ?_
        refine hy_iload (i := 9) rfl rfl ?_
        refine hy_bald (i := 10) rfl rfl (by decide) (by omega) rfl ?_
        refine hy_if_ne (i := 11) (tt := 25) rfl (fun zc2 => ?_) (fun zc2 => ?_)
        · refine hy_iinc (i := 25) rfl rfl (by omega) ?_
          refine hy_goto (i := 26) (tt := 4) rfl ?_
          refine ih (k + 1) _ (by omega) ?_
          simp only [pa_nearN]
          rw [← hz]
          first | (rw [if_pos (show t 54 k = 0 ∧ (z < 0 ∨ t 55 k < t 55 z.toNat) from ⟨by first | assumption | exact Decidable.not_not.mp (by assumption), by first | exact Or.inl (by omega) | exact Or.inr (Int.not_le.mp (by assumption))⟩)]; done) | (rw [if_neg (show ¬ (t 54 k = 0 ∧ (z < 0 ∨ t 55 k < t 55 z.toNat)) from fun q => by first | exact absurd q.1 (by assumption) | (rcases q.2 with q2 | q2; omega; exact absurd q2 (Int.not_lt.mpr (by assumption))))]; done)
        · refine hy_iload (i := 12) rfl rfl ?_
          refine hy_if_lt (i := 13) (tt := 23) rfl (fun zc3 => ?_) (fun zc3 => ?_)
          · refine hy_iload (i := 23) rfl rfl ?_
            refine hy_istore (i := 24) rfl ?_
            refine hy_iinc (i := 25) rfl rfl (by omega) ?_
            refine hy_goto (i := 26) (tt := 4) rfl ?_
            refine ih (k + 1) _ (by omega) ?_
            simp only [pa_nearN]
            rw [← hz]
            first | (rw [if_pos (show t 54 k = 0 ∧ (z < 0 ∨ t 55 k < t 55 z.toNat) from ⟨by first | assumption | exact Decidable.not_not.mp (by assumption), by first | exact Or.inl (by omega) | exact Or.inr (Int.not_le.mp (by assumption))⟩)]; done) | (rw [if_neg (show ¬ (t 54 k = 0 ∧ (z < 0 ∨ t 55 k < t 55 z.toNat)) from fun q => by first | exact absurd q.1 (by assumption) | (rcases q.2 with q2 | q2; omega; exact absurd q2 (Int.not_lt.mpr (by assumption))))]; done)
          · refine hy_aload (i := 14) rfl rfl ?_
            refine hy_getr (i := 15) rfl rfl ?_
            refine hy_iload (i := 16) rfl rfl ?_
            refine hy_iald (i := 17) rfl rfl (by omega) rfl ?_
            refine hy_aload (i := 18) rfl rfl ?_
            refine hy_getr (i := 19) rfl rfl ?_
            refine hy_iload (i := 20) rfl rfl ?_
            refine hy_iald (i := 21) rfl rfl (by omega) rfl ?_
            refine hy_ic_ge (i := 22) (tt := 25) rfl (fun zc4 => ?_) (fun zc4 => ?_)
            · refine hy_iinc (i := 25) rfl rfl (by omega) ?_
              refine hy_goto (i := 26) (tt := 4) rfl ?_
              refine ih (k + 1) _ (by omega) ?_
              simp only [pa_nearN]
              rw [← hz]
              first | (rw [if_pos (show t 54 k = 0 ∧ (z < 0 ∨ t 55 k < t 55 z.toNat) from ⟨by first | assumption | exact Decidable.not_not.mp (by assumption), by first | exact Or.inl (by omega) | exact Or.inr (Int.not_le.mp (by assumption))⟩)]; done) | (rw [if_neg (show ¬ (t 54 k = 0 ∧ (z < 0 ∨ t 55 k < t 55 z.toNat)) from fun q => by first | exact absurd q.1 (by assumption) | (rcases q.2 with q2 | q2; omega; exact absurd q2 (Int.not_lt.mpr (by assumption))))]; done)
            · refine hy_iload (i := 23) rfl rfl ?_
              refine hy_istore (i := 24) rfl ?_
              refine hy_iinc (i := 25) rfl rfl (by omega) ?_
              refine hy_goto (i := 26) (tt := 4) rfl ?_
              refine ih (k + 1) _ (by omega) ?_
              simp only [pa_nearN]
              rw [← hz]
              first | (rw [if_pos (show t 54 k = 0 ∧ (z < 0 ∨ t 55 k < t 55 z.toNat) from ⟨by first | assumption | exact Decidable.not_not.mp (by assumption), by first | exact Or.inl (by omega) | exact Or.inr (Int.not_le.mp (by assumption))⟩)]; done) | (rw [if_neg (show ¬ (t 54 k = 0 ∧ (z < 0 ∨ t 55 k < t 55 z.toNat)) from fun q => by first | exact absurd q.1 (by assumption) | (rcases q.2 with q2 | q2; omega; exact absurd q2 (Int.not_lt.mpr (by assumption))))]; done)
  refine hy_const (i := 0) rfl (by decide) ?_
  refine hy_istore (i := 1) rfl ?_
  refine hy_const (i := 2) rfl (by decide) ?_
  refine hy_istore (i := 3) rfl ?_
  exact loop 64 0 _ rfl rfl
theorem c_A_leave {f : Int} (hi : pa_inv t) : hy_Ct sc hm_A_leave 1 [.inr (some 52), .inl f] t (hy_e none (pa_leave t f)) := by
  refine hy_mk_ct ok_A_leave ck_A_leave (Nat.le_of_ble_eq_true rfl) ?_
  have loop : 0 ≤ f ∧ f < 64 → ∀ (n : Nat), ∀ (k : Nat) (w : hy_V) (t1 : hy_T), n + k = 4 → t1 = pa_leaveN t f k → hy_W sc hm_A_leave 1 12 [.inr (some 52), .inl f, .inl (k : Int), w] [] t1 (hy_e none (pa_leave t f)) := by
    intro hf n
    induction n with
    | zero =>
      intro k w t1 hn ht
      obtain rfl : k = 4 := by omega
      refine hy_iload (i := 12) rfl rfl ?_
      refine hy_const (i := 13) rfl (by decide) ?_
      refine hy_ic_ge (i := 14) (tt := 47) rfl (fun zc1 => ?_) (fun zc1 => ?_)
      · refine hy_return (i := 47) rfl rfl ?_
        exact ⟨rfl, by unfold pa_leave; rw [if_pos hf]; exact ht⟩
      · omega
    | succ n ih =>
      intro k w t1 hn ht
      have hv := pa_leaveN_inv hi hf k
      rw [← ht] at hv
      have hg := pa_beside_in hf k
      have hx := hv f.toNat (by omega)
      refine hy_iload (i := 12) rfl rfl ?_
      refine hy_const (i := 13) rfl (by decide) ?_
      refine hy_ic_ge (i := 14) (tt := 47) rfl (fun zc1 => ?_) (fun zc1 => ?_)
      · omega
      · refine hy_iload (i := 15) rfl rfl ?_
        refine hy_iload (i := 16) rfl rfl ?_
        refine hy_cS2e (i := 17) rfl (by decide) mj_A_beside (by decide) rfl (Nat.le_of_ble_eq_true rfl) (c_A_beside (by omega)) ?_
        refine hy_istore (i := 18) rfl ?_
        refine hy_iload (i := 19) rfl rfl ?_
        refine hy_if_lt (i := 20) (tt := 45) rfl (fun zc2 => ?_) (fun zc2 => ?_)
        · refine hy_iinc (i := 45) rfl rfl (by omega) ?_
          refine hy_goto (i := 46) (tt := 12) rfl ?_
          refine ih (k + 1) _ _ (by omega) ?_
          simp only [pa_leaveN]
          rw [← ht]
          first | (rw [if_neg (show ¬ 0 ≤ pa_beside f k by omega)]; done) | (rw [if_pos (show 0 ≤ pa_beside f k by omega)]; unfold pa_cost; first | (rw [if_pos (show t1 53 (pa_beside f k).toNat = 0 by assumption)]; done) | (rw [if_neg (show ¬ t1 53 (pa_beside f k).toNat = 0 by assumption)]; done))
        · refine hy_aload (i := 21) rfl rfl ?_
          refine hy_getr (i := 22) rfl rfl ?_
          refine hy_iload (i := 23) rfl rfl ?_
          refine hy_aload (i := 24) rfl rfl ?_
          refine hy_getr (i := 25) rfl rfl ?_
          refine hy_iload (i := 26) rfl rfl ?_
          refine hy_iald (i := 27) rfl rfl (by omega) rfl ?_
          refine hy_aload (i := 28) rfl rfl ?_
          refine hy_getr (i := 29) rfl rfl ?_
          refine hy_iload (i := 30) rfl rfl ?_
          refine hy_iald (i := 31) rfl rfl (by omega) rfl ?_
          refine hy_const (i := 32) rfl (by decide) ?_
          refine hy_iadd (i := 33) rfl (by omega) ?_
          refine hy_aload (i := 34) rfl rfl ?_
          refine hy_getr (i := 35) rfl rfl ?_
          refine hy_iload (i := 36) rfl rfl ?_
          refine hy_bald (i := 37) rfl rfl (by decide) (by omega) rfl ?_
          refine hy_if_eq (i := 38) (tt := 41) rfl (fun zc3 => ?_) (fun zc3 => ?_)
          · refine hy_const (i := 41) rfl (by decide) ?_
            refine hy_iadd (i := 42) rfl (by omega) ?_
            refine hy_min (i := 43) rfl (Nat.le_of_ble_eq_true rfl) ?_
            refine hy_iast (i := 44) rfl rfl (by omega) rfl ?_
            refine hy_iinc (i := 45) rfl rfl (by omega) ?_
            refine hy_goto (i := 46) (tt := 12) rfl ?_
            refine ih (k + 1) _ _ (by omega) ?_
            simp only [pa_leaveN]
            rw [← ht]
            first | (rw [if_neg (show ¬ 0 ≤ pa_beside f k by omega)]; done) | (rw [if_pos (show 0 ≤ pa_beside f k by omega)]; unfold pa_cost; first | (rw [if_pos (show t1 53 (pa_beside f k).toNat = 0 by assumption)]; done) | (rw [if_neg (show ¬ t1 53 (pa_beside f k).toNat = 0 by assumption)]; done))
          · refine hy_const (i := 39) rfl (by decide) ?_
            refine hy_goto (i := 40) (tt := 42) rfl ?_
            refine hy_iadd (i := 42) rfl (by omega) ?_
            refine hy_min (i := 43) rfl (Nat.le_of_ble_eq_true rfl) ?_
            refine hy_iast (i := 44) rfl rfl (by omega) rfl ?_
            refine hy_iinc (i := 45) rfl rfl (by omega) ?_
            refine hy_goto (i := 46) (tt := 12) rfl ?_
            refine ih (k + 1) _ _ (by omega) ?_
            simp only [pa_leaveN]
            rw [← ht]
            first | (rw [if_neg (show ¬ 0 ≤ pa_beside f k by omega)]; done) | (rw [if_pos (show 0 ≤ pa_beside f k by omega)]; unfold pa_cost; first | (rw [if_pos (show t1 53 (pa_beside f k).toNat = 0 by assumption)]; done) | (rw [if_neg (show ¬ t1 53 (pa_beside f k).toNat = 0 by assumption)]; done))
  refine hy_iload (i := 0) rfl rfl ?_
  refine hy_const (i := 1) rfl (by decide) ?_
  refine hy_cS2e (i := 2) rfl (by decide) mj_W_isAmong (by decide) rfl (Nat.le_of_ble_eq_true rfl) (c_W_isAmong) ?_
  refine hy_ib_ne (i := 3) (tt := 5) rfl (fun zc1 => ?_) (fun zc1 => ?_)
  · refine hy_aload (i := 5) rfl rfl ?_
    refine hy_getr (i := 6) rfl rfl ?_
    refine hy_iload (i := 7) rfl rfl ?_
    refine hy_const (i := 8) rfl (by decide) ?_
    refine hy_zast (i := 9) rfl rfl (by simp at zc1; omega) rfl (by omega) ?_
    refine hy_const (i := 10) rfl (by decide) ?_
    refine hy_istore (i := 11) rfl ?_
    exact loop (by simp at zc1; omega) 4 0 _ _ rfl rfl
  · refine hy_return (i := 4) rfl rfl ?_
    exact ⟨rfl, by unfold pa_leave; rw [if_neg (by simp at zc1; omega)]⟩
theorem c_A_search {a : Int} : hy_Ct sc hm_A_search 2 [.inr (some 52), .inl a] t (hy_e none (pa_searchN (pa_search0 t a) 64)) := by
  refine hy_mk_ct ok_A_search ck_A_search (Nat.le_of_ble_eq_true rfl) ?_
  have loop : ∀ (n : Nat), ∀ (k : Nat) (t1 : hy_T), n + k = 64 → t1 = pa_searchN (pa_search0 t a) k → hy_W sc hm_A_search 2 13 [.inr (some 52), .inl a, .inl (k : Int)] [] t1 (hy_e none (pa_searchN (pa_search0 t a) 64)) := by
    intro n
    induction n with
    | zero =>
      intro k t1 hn ht
      obtain rfl : k = 64 := by omega
      refine hy_iload (i := 13) rfl rfl ?_
      refine hy_const (i := 14) rfl (by decide) ?_
      refine hy_ic_ge (i := 15) (tt := 22) rfl (fun zc1 => ?_) (fun zc1 => ?_)
      · refine hy_return (i := 22) rfl rfl ?_
        exact ⟨rfl, ht⟩
      · omega
    | succ n ih =>
      intro k t1 hn ht
      have hv : pa_inv t1 := by rw [ht]; exact pa_searchN_inv (pa_search0_inv t a) k
      refine hy_iload (i := 13) rfl rfl ?_
      refine hy_const (i := 14) rfl (by decide) ?_
      refine hy_ic_ge (i := 15) (tt := 22) rfl (fun zc1 => ?_) (fun zc1 => ?_)
      · omega
      · refine hy_aload (i := 16) rfl rfl ?_
        refine hy_aload (i := 17) rfl rfl ?_
        refine hy_cV0e (i := 18) rfl mj_A_nearest (by decide) rfl (Nat.le_of_ble_eq_true rfl) rfl rfl rfl (c_A_nearest) ?_
        refine hy_cV1v (i := 19) rfl mj_A_leave (by decide) rfl (Nat.le_of_ble_eq_true rfl) rfl rfl rfl (c_A_leave (by assumption)) ?_
        refine hy_iinc (i := 20) rfl rfl (by omega) ?_
        refine hy_goto (i := 21) (tt := 13) rfl ?_
        exact ih (k + 1) _ (by omega) (by subst ht; rfl)
  refine hy_aload (i := 0) rfl rfl ?_
  refine hy_cV0v (i := 1) rfl mj_A_forget (by decide) rfl (Nat.le_of_ble_eq_true rfl) rfl rfl rfl (c_A_forget) ?_
  refine hy_iload (i := 2) rfl rfl ?_
  refine hy_const (i := 3) rfl (by decide) ?_
  refine hy_cS2e (i := 4) rfl (by decide) mj_W_isAmong (by decide) rfl (Nat.le_of_ble_eq_true rfl) (c_W_isAmong) ?_
  refine hy_ib_eq (i := 5) (tt := 11) rfl (fun zc1 => ?_) (fun zc1 => ?_)
  · refine hy_const (i := 11) rfl (by decide) ?_
    refine hy_istore (i := 12) rfl ?_
    exact loop 64 0 _ rfl (by simp at zc1; show _ = pa_search0 t a; unfold pa_search0; first | (rw [if_pos (by omega)]; done) | (rw [if_neg (by omega)]; done))
  · refine hy_aload (i := 6) rfl rfl ?_
    refine hy_getr (i := 7) rfl rfl ?_
    refine hy_iload (i := 8) rfl rfl ?_
    refine hy_const (i := 9) rfl (by decide) ?_
    refine hy_iast (i := 10) rfl rfl (by simp at zc1; omega) rfl ?_
    refine hy_const (i := 11) rfl (by decide) ?_
    refine hy_istore (i := 12) rfl ?_
    exact loop 64 0 _ rfl (by simp at zc1; show _ = pa_search0 t a; unfold pa_search0; first | (rw [if_pos (by omega)]; done) | (rw [if_neg (by omega)]; done))
theorem c_A_push {f w : Int} : hy_Ct sc hm_A_push 1 [.inr (some 52), .inl f, .inl w] t (hy_e (some (pa_push t f w).2) (pa_push t f w).1) := by
  refine hy_mk_ct ok_A_push ck_A_push (Nat.le_of_ble_eq_true rfl) ?_
  refine hy_iload (i := 0) rfl rfl ?_
  refine hy_if_lt (i := 1) (tt := 9) rfl (fun zc1 => ?_) (fun zc1 => ?_)
  · refine hy_iload (i := 9) rfl rfl ?_
    refine hy_ireturn (i := 10) rfl rfl ?_
    refine ⟨?_, ?_⟩
    all_goals (unfold pa_push; first | (rw [if_neg (by omega)]; done) | (simp at zc3; rw [if_neg (by omega)]; done) | (simp at zc3; rw [if_pos (by omega)]; done))
  · refine hy_iload (i := 2) rfl rfl ?_
    refine hy_const (i := 3) rfl (by decide) ?_
    refine hy_ic_ge (i := 4) (tt := 9) rfl (fun zc2 => ?_) (fun zc2 => ?_)
    · refine hy_iload (i := 9) rfl rfl ?_
      refine hy_ireturn (i := 10) rfl rfl ?_
      refine ⟨?_, ?_⟩
      all_goals (unfold pa_push; first | (rw [if_neg (by omega)]; done) | (simp at zc3; rw [if_neg (by omega)]; done) | (simp at zc3; rw [if_pos (by omega)]; done))
    · refine hy_iload (i := 5) rfl rfl ?_
      refine hy_const (i := 6) rfl (by decide) ?_
      refine hy_cS2e (i := 7) rfl (by decide) mj_W_isAmong (by decide) rfl (Nat.le_of_ble_eq_true rfl) (c_W_isAmong) ?_
      refine hy_ib_ne (i := 8) (tt := 11) rfl (fun zc3 => ?_) (fun zc3 => ?_)
      · refine hy_aload (i := 11) rfl rfl ?_
        refine hy_getr (i := 12) rfl rfl ?_
        refine hy_iload (i := 13) rfl rfl ?_
        refine hy_const (i := 14) rfl (by decide) ?_
        refine hy_zast (i := 15) rfl rfl (by simp at zc3; omega) rfl (by omega) ?_
        refine hy_aload (i := 16) rfl rfl ?_
        refine hy_getr (i := 17) rfl rfl ?_
        refine hy_iload (i := 18) rfl rfl ?_
        refine hy_iload (i := 19) rfl rfl ?_
        refine hy_iast (i := 20) rfl rfl (by simp at zc3; omega) rfl ?_
        refine hy_iload (i := 21) rfl rfl ?_
        refine hy_const (i := 22) rfl (by decide) ?_
        refine hy_iadd (i := 23) rfl (by omega) ?_
        refine hy_ireturn (i := 24) rfl rfl ?_
        refine ⟨?_, ?_⟩
        all_goals (unfold pa_push; first | (rw [if_neg (by omega)]; done) | (simp at zc3; rw [if_neg (by omega)]; done) | (simp at zc3; rw [if_pos (by omega)]; done))
      · refine hy_iload (i := 9) rfl rfl ?_
        refine hy_ireturn (i := 10) rfl rfl ?_
        refine ⟨?_, ?_⟩
        all_goals (unfold pa_push; first | (rw [if_neg (by omega)]; done) | (simp at zc3; rw [if_neg (by omega)]; done) | (simp at zc3; rw [if_pos (by omega)]; done))
theorem c_A_fill {f : Int} (hs : pa_stk t) : hy_Ct sc hm_A_fill 2 [.inr (some 52), .inl f] t (hy_e (some (pa_fill t f).2) (pa_fill t f).1) := by
  refine hy_mk_ct ok_A_fill ck_A_fill (Nat.le_of_ble_eq_true rfl) ?_
  have loop : ∀ (n : Nat), ∀ (k : Nat) (z w : Int) (t1 : hy_T) (v5 v6 v7 : hy_V), n + k = 64 → pa_stk t1 → (0 ≤ w ∧ w ≤ 64) → (0 ≤ z ∧ z ≤ k) → hy_W sc hm_A_fill 2 9 [.inr (some 52), .inl f, .inl z, .inl w, .inl (k : Int), v5, v6, v7] [] t1 (hy_e (some (pa_fillN n t1 w z).2) (pa_fillN n t1 w z).1) := by
    intro n
    induction n with
    | zero =>
      intro k z w t1 v5 v6 v7 hn h1 hw hz
      obtain rfl : k = 64 := by omega
      refine hy_iload (i := 9) rfl rfl ?_
      refine hy_const (i := 10) rfl (by decide) ?_
      refine hy_ic_ge (i := 11) (tt := 51) rfl (fun zc1 => ?_) (fun zc1 => ?_)
      · refine hy_iload (i := 51) rfl rfl ?_
        refine hy_ireturn (i := 52) rfl rfl ?_
        exact ⟨rfl, rfl⟩
      · omega
    | succ n ih =>
      intro k z w t1 v5 v6 v7 hn h1 hw hz
      have inner : 0 < w → ∀ (m : Nat), ∀ (j : Nat) (p : hy_T × Int) (v7 : hy_V), m + j = 4 → p = pa_side t1 (t1 56 (w - 1).toNat) (w - 1) j → hy_W sc hm_A_fill 2 23 [.inr (some 52), .inl f, .inl (z + 1), .inl p.2, .inl (k : Int), .inl (t1 56 (w - 1).toNat), .inl (j : Int), v7] [] p.1 (hy_e (some (pa_fillN (n + 1) t1 w z).2) (pa_fillN (n + 1) t1 w z).1) := by
        intro hw0 m
        have hf := h1 (w - 1).toNat (by omega)
        induction m with
        | zero =>
          intro j p v7 hm hp
          obtain rfl : j = 4 := by omega
          have e := pa_side_s h1 (t1 56 (w - 1).toNat) (w := w - 1) (by omega) 4
          rw [← hp] at e
          have q : pa_fillN (n + 1) t1 w z = pa_fillN n p.1 p.2 (z + 1) := by subst hp; simp only [pa_fillN]; rw [if_pos hw0]
          rw [q]
          refine hy_iload (i := 23) rfl rfl ?_
          refine hy_const (i := 24) rfl (by decide) ?_
          refine hy_ic_ge (i := 25) (tt := 49) rfl (fun zc1 => ?_) (fun zc1 => ?_)
          · refine hy_iinc (i := 49) rfl rfl (by omega) ?_
            refine hy_goto (i := 50) (tt := 9) rfl ?_
            exact ih (k + 1) _ _ _ _ _ _ (by omega) e.1 e.2.1 (by omega)
          · omega
        | succ m ihm =>
          intro j p v7 hm hp
          have e := pa_side_s h1 (t1 56 (w - 1).toNat) (w := w - 1) (by omega) j
          rw [← hp] at e
          have hbs := pa_beside_in hf j
          refine hy_iload (i := 23) rfl rfl ?_
          refine hy_const (i := 24) rfl (by decide) ?_
          refine hy_ic_ge (i := 25) (tt := 49) rfl (fun zc1 => ?_) (fun zc1 => ?_)
          · omega
          · refine hy_iload (i := 26) rfl rfl ?_
            refine hy_iload (i := 27) rfl rfl ?_
            refine hy_cS2e (i := 28) rfl (by decide) mj_A_beside (by decide) rfl (Nat.le_of_ble_eq_true rfl) (c_A_beside (by omega)) ?_
            refine hy_istore (i := 29) rfl ?_
            refine hy_iload (i := 30) rfl rfl ?_
            refine hy_if_lt (i := 31) (tt := 47) rfl (fun zc2 => ?_) (fun zc2 => ?_)
            · refine hy_iinc (i := 47) rfl rfl (by omega) ?_
              refine hy_goto (i := 48) (tt := 23) rfl ?_
              first | exact ihm (j + 1) p _ (by omega) (by simp only [pa_side]; rw [← hp]; rw [if_neg (fun q => by first | omega | exact q.2.1 (by assumption) | exact absurd q.2.2 (by assumption))]) | exact ihm (j + 1) (pa_push p.1 (pa_beside (t1 56 (w - 1).toNat) j) p.2) _ (by omega) (by simp only [pa_side]; rw [← hp]; rw [if_pos ⟨by omega, by assumption, by first | assumption | exact Decidable.not_not.mp (by assumption)⟩])
            · refine hy_aload (i := 32) rfl rfl ?_
              refine hy_getr (i := 33) rfl rfl ?_
              refine hy_iload (i := 34) rfl rfl ?_
              refine hy_bald (i := 35) rfl rfl (by decide) (by omega) rfl ?_
              refine hy_if_eq (i := 36) (tt := 47) rfl (fun zc3 => ?_) (fun zc3 => ?_)
              · refine hy_iinc (i := 47) rfl rfl (by omega) ?_
                refine hy_goto (i := 48) (tt := 23) rfl ?_
                first | exact ihm (j + 1) p _ (by omega) (by simp only [pa_side]; rw [← hp]; rw [if_neg (fun q => by first | omega | exact q.2.1 (by assumption) | exact absurd q.2.2 (by assumption))]) | exact ihm (j + 1) (pa_push p.1 (pa_beside (t1 56 (w - 1).toNat) j) p.2) _ (by omega) (by simp only [pa_side]; rw [← hp]; rw [if_pos ⟨by omega, by assumption, by first | assumption | exact Decidable.not_not.mp (by assumption)⟩])
              · refine hy_aload (i := 37) rfl rfl ?_
                refine hy_getr (i := 38) rfl rfl ?_
                refine hy_iload (i := 39) rfl rfl ?_
                refine hy_bald (i := 40) rfl rfl (by decide) (by omega) rfl ?_
                refine hy_if_ne (i := 41) (tt := 47) rfl (fun zc4 => ?_) (fun zc4 => ?_)
                · refine hy_iinc (i := 47) rfl rfl (by omega) ?_
                  refine hy_goto (i := 48) (tt := 23) rfl ?_
                  first | exact ihm (j + 1) p _ (by omega) (by simp only [pa_side]; rw [← hp]; rw [if_neg (fun q => by first | omega | exact q.2.1 (by assumption) | exact absurd q.2.2 (by assumption))]) | exact ihm (j + 1) (pa_push p.1 (pa_beside (t1 56 (w - 1).toNat) j) p.2) _ (by omega) (by simp only [pa_side]; rw [← hp]; rw [if_pos ⟨by omega, by assumption, by first | assumption | exact Decidable.not_not.mp (by assumption)⟩])
                · refine hy_aload (i := 42) rfl rfl ?_
                  refine hy_iload (i := 43) rfl rfl ?_
                  refine hy_iload (i := 44) rfl rfl ?_
                  refine hy_cV2e (i := 45) rfl mj_A_push (by decide) rfl (Nat.le_of_ble_eq_true rfl) rfl rfl rfl (c_A_push) ?_
                  refine hy_istore (i := 46) rfl ?_
                  refine hy_iinc (i := 47) rfl rfl (by omega) ?_
                  refine hy_goto (i := 48) (tt := 23) rfl ?_
                  first | exact ihm (j + 1) p _ (by omega) (by simp only [pa_side]; rw [← hp]; rw [if_neg (fun q => by first | omega | exact q.2.1 (by assumption) | exact absurd q.2.2 (by assumption))]) | exact ihm (j + 1) (pa_push p.1 (pa_beside (t1 56 (w - 1).toNat) j) p.2) _ (by omega) (by simp only [pa_side]; rw [← hp]; rw [if_pos ⟨by omega, by assumption, by first | assumption | exact Decidable.not_not.mp (by assumption)⟩])
      refine hy_iload (i := 9) rfl rfl ?_
      refine hy_const (i := 10) rfl (by decide) ?_
      refine hy_ic_ge (i := 11) (tt := 51) rfl (fun zc1 => ?_) (fun zc1 => ?_)
      · omega
      · refine hy_iload (i := 12) rfl rfl ?_
        refine hy_if_le (i := 13) (tt := 51) rfl (fun zc2 => ?_) (fun zc2 => ?_)
        · refine hy_iload (i := 51) rfl rfl ?_
          refine hy_ireturn (i := 52) rfl rfl ?_
          have q : pa_fillN (n + 1) t1 w z = (t1, z) := by simp only [pa_fillN]; rw [if_neg (by omega)]
          rw [q]
          exact ⟨rfl, rfl⟩
        · refine hy_iinc (i := 14) rfl rfl (by omega) ?_
          refine hy_aload (i := 15) rfl rfl ?_
          refine hy_getr (i := 16) rfl rfl ?_
          refine hy_iload (i := 17) rfl rfl ?_
          refine hy_iald (i := 18) rfl rfl (by omega) rfl ?_
          refine hy_istore (i := 19) rfl ?_
          refine hy_iinc (i := 20) rfl rfl (by omega) ?_
          refine hy_const (i := 21) rfl (by decide) ?_
          refine hy_istore (i := 22) rfl ?_
          exact inner (by omega) 4 0 (t1, w - 1) _ rfl rfl
  refine hy_const (i := 0) rfl (by decide) ?_
  refine hy_istore (i := 1) rfl ?_
  refine hy_aload (i := 2) rfl rfl ?_
  refine hy_iload (i := 3) rfl rfl ?_
  refine hy_const (i := 4) rfl (by decide) ?_
  refine hy_cV2e (i := 5) rfl mj_A_push (by decide) rfl (Nat.le_of_ble_eq_true rfl) rfl rfl rfl (c_A_push) ?_
  refine hy_istore (i := 6) rfl ?_
  refine hy_const (i := 7) rfl (by decide) ?_
  refine hy_istore (i := 8) rfl ?_
  exact loop 64 0 0 _ _ _ _ _ rfl (pa_push_s hs f (w := 0) (by decide)).1 (pa_push_s hs f (w := 0) (by decide)).2.1 (by decide)
theorem c_A_findSeas (hs : pa_stk t) : hy_Ct sc hm_A_findSeas 3 [.inr (some 52)] t (hy_e none (pa_seaN t 64)) := by
  refine hy_mk_ct ok_A_findSeas ck_A_findSeas (Nat.le_of_ble_eq_true rfl) ?_
  have loop : ∀ (n : Nat), ∀ (k : Nat) (t1 : hy_T), n + k = 64 → t1 = pa_seaN t k → hy_W sc hm_A_findSeas 3 10 [.inr (some 52), .inl (k : Int)] [] t1 (hy_e none (pa_seaN t 64)) := by
    intro n
    induction n with
    | zero =>
      intro k t1 hn ht
      obtain rfl : k = 64 := by omega
      refine hy_iload (i := 10) rfl rfl ?_
      refine hy_const (i := 11) rfl (by decide) ?_
      refine hy_ic_ge (i := 12) (tt := 39) rfl (fun zc1 => ?_) (fun zc1 => ?_)
      · refine hy_return (i := 39) rfl rfl ?_
        exact ⟨rfl, ht⟩
      · omega
    | succ n ih =>
      intro k t1 hn ht
      have e := pa_sea_s hs k
      rw [← ht] at e
      have h4 : pa_stk (hy_up t1 52 4 (t1 52 4 + 1)) := pa_stk_F (X := fun r _ => r == 52) (hy_F.rf.up rfl) (fun _ => rfl) e.1
      refine hy_iload (i := 10) rfl rfl ?_
      refine hy_const (i := 11) rfl (by decide) ?_
      refine hy_ic_ge (i := 12) (tt := 39) rfl (fun zc1 => ?_) (fun zc1 => ?_)
      · omega
      · refine hy_aload (i := 13) rfl rfl ?_
        refine hy_getr (i := 14) rfl rfl ?_
        refine hy_iload (i := 15) rfl rfl ?_
        refine hy_bald (i := 16) rfl rfl (by decide) (by omega) rfl ?_
        refine hy_if_eq (i := 17) (tt := 37) rfl (fun zc2 => ?_) (fun zc2 => ?_)
        · refine hy_iinc (i := 37) rfl rfl (by omega) ?_
          refine hy_goto (i := 38) (tt := 10) rfl ?_
          refine ih (k + 1) _ (by omega) ?_
          simp only [pa_seaN]
          rw [← ht]
          first | (rw [if_neg (show ¬ (t1 53 k ≠ 0 ∧ t1 54 k = 0) from fun q => by first | exact q.1 (by assumption) | exact absurd q.2 (by assumption))]; done) | (rw [if_pos (show t1 53 k ≠ 0 ∧ t1 54 k = 0 from ⟨by assumption, by first | assumption | exact Decidable.not_not.mp (by assumption)⟩)] <;> first | (rw [if_pos (by assumption)]; done) | (rw [if_neg (by assumption)]; done) | (split <;> first | rfl | (exfalso; omega)))
        · refine hy_aload (i := 18) rfl rfl ?_
          refine hy_getr (i := 19) rfl rfl ?_
          refine hy_iload (i := 20) rfl rfl ?_
          refine hy_bald (i := 21) rfl rfl (by decide) (by omega) rfl ?_
          refine hy_if_ne (i := 22) (tt := 37) rfl (fun zc3 => ?_) (fun zc3 => ?_)
          · refine hy_iinc (i := 37) rfl rfl (by omega) ?_
            refine hy_goto (i := 38) (tt := 10) rfl ?_
            refine ih (k + 1) _ (by omega) ?_
            simp only [pa_seaN]
            rw [← ht]
            first | (rw [if_neg (show ¬ (t1 53 k ≠ 0 ∧ t1 54 k = 0) from fun q => by first | exact q.1 (by assumption) | exact absurd q.2 (by assumption))]; done) | (rw [if_pos (show t1 53 k ≠ 0 ∧ t1 54 k = 0 from ⟨by assumption, by first | assumption | exact Decidable.not_not.mp (by assumption)⟩)] <;> first | (rw [if_pos (by assumption)]; done) | (rw [if_neg (by assumption)]; done) | (split <;> first | rfl | (exfalso; omega)))
          · refine hy_aload (i := 23) rfl rfl ?_
            refine hy_dup (i := 24) rfl ?_
            refine hy_get (i := 25) (fk := 4) rfl rfl rfl ?_
            refine hy_const (i := 26) rfl (by decide) ?_
            refine hy_iadd (i := 27) rfl (by omega) ?_
            refine hy_put (i := 28) (fk := 4) rfl rfl rfl rfl ?_
            refine hy_aload (i := 29) rfl rfl ?_
            refine hy_aload (i := 30) rfl rfl ?_
            refine hy_get (i := 31) (fk := 5) rfl rfl rfl ?_
            refine hy_aload (i := 32) rfl rfl ?_
            refine hy_iload (i := 33) rfl rfl ?_
            refine hy_cV1e (i := 34) rfl mj_A_fill (by decide) rfl (Nat.le_of_ble_eq_true rfl) rfl rfl rfl (c_A_fill (by assumption)) ?_
            refine hy_max (i := 35) rfl (Nat.le_of_ble_eq_true rfl) ?_
            refine hy_put (i := 36) (fk := 5) rfl rfl rfl rfl ?_
            refine hy_iinc (i := 37) rfl rfl (by omega) ?_
            refine hy_goto (i := 38) (tt := 10) rfl ?_
            refine ih (k + 1) _ (by omega) ?_
            simp only [pa_seaN]
            rw [← ht]
            first | (rw [if_neg (show ¬ (t1 53 k ≠ 0 ∧ t1 54 k = 0) from fun q => by first | exact q.1 (by assumption) | exact absurd q.2 (by assumption))]; done) | (rw [if_pos (show t1 53 k ≠ 0 ∧ t1 54 k = 0 from ⟨by assumption, by first | assumption | exact Decidable.not_not.mp (by assumption)⟩)] <;> first | (rw [if_pos (by assumption)]; done) | (rw [if_neg (by assumption)]; done) | (split <;> first | rfl | (exfalso; omega)))
  refine hy_aload (i := 0) rfl rfl ?_
  refine hy_cV0v (i := 1) rfl mj_A_forget (by decide) rfl (Nat.le_of_ble_eq_true rfl) rfl rfl rfl (c_A_forget) ?_
  refine hy_aload (i := 2) rfl rfl ?_
  refine hy_const (i := 3) rfl (by decide) ?_
  refine hy_put (i := 4) (fk := 4) rfl rfl rfl rfl ?_
  refine hy_aload (i := 5) rfl rfl ?_
  refine hy_const (i := 6) rfl (by decide) ?_
  refine hy_put (i := 7) (fk := 5) rfl rfl rfl rfl ?_
  refine hy_const (i := 8) rfl (by decide) ?_
  refine hy_istore (i := 9) rfl ?_
  exact loop 64 0 _ rfl rfl
theorem c_A_watchedTo {f : Int} (hi : pa_inv t) : hy_Ct sc hm_A_watchedTo 1 [.inr (some 52), .inl f] t (hy_e (some (if 0 ≤ f ∧ f < 64 then t 55 f.toNat / 100 else 0)) t) := by
  refine hy_mk_ct ok_A_watchedTo ck_A_watchedTo (Nat.le_of_ble_eq_true rfl) ?_
  by_cases hf : 0 ≤ f ∧ f < 64
  · have hv := hi f.toNat (by omega)
    rw [if_pos hf]
    refine hy_iload (i := 0) rfl rfl ?_
    refine hy_const (i := 1) rfl (by decide) ?_
    refine hy_cS2e (i := 2) rfl (by decide) mj_W_isAmong (by decide) rfl (Nat.le_of_ble_eq_true rfl) (c_W_isAmong) ?_
    refine hy_ib_eq (i := 3) (tt := 11) rfl (fun zc1 => ?_) (fun zc1 => ?_)
    · simp at zc1; omega
    · refine hy_aload (i := 4) rfl rfl ?_
      refine hy_getr (i := 5) rfl rfl ?_
      refine hy_iload (i := 6) rfl rfl ?_
      refine hy_iald (i := 7) rfl rfl (by omega) rfl ?_
      refine hy_const (i := 8) rfl (by decide) ?_
      refine hy_idiv (i := 9) rfl (by omega) (by omega) ?_
      refine hy_goto (i := 10) (tt := 12) rfl ?_
      refine hy_ireturn (i := 12) rfl rfl ?_
      exact ⟨rfl, rfl⟩
  · rw [if_neg hf]
    refine hy_iload (i := 0) rfl rfl ?_
    refine hy_const (i := 1) rfl (by decide) ?_
    refine hy_cS2e (i := 2) rfl (by decide) mj_W_isAmong (by decide) rfl (Nat.le_of_ble_eq_true rfl) (c_W_isAmong) ?_
    refine hy_ib_eq (i := 3) (tt := 11) rfl (fun zc1 => ?_) (fun zc1 => ?_)
    · refine hy_const (i := 11) rfl (by decide) ?_
      refine hy_ireturn (i := 12) rfl rfl ?_
      exact ⟨rfl, rfl⟩
    · simp at zc1; omega
theorem c_A_stepsTo {f : Int} (hi : pa_inv t) : hy_Ct sc hm_A_stepsTo 1 [.inr (some 52), .inl f] t (hy_e (some (if 0 ≤ f ∧ f < 64 then t 55 f.toNat % 100 else 0)) t) := by
  refine hy_mk_ct ok_A_stepsTo ck_A_stepsTo (Nat.le_of_ble_eq_true rfl) ?_
  by_cases hf : 0 ≤ f ∧ f < 64
  · have hv := hi f.toNat (by omega)
    rw [if_pos hf]
    refine hy_iload (i := 0) rfl rfl ?_
    refine hy_const (i := 1) rfl (by decide) ?_
    refine hy_cS2e (i := 2) rfl (by decide) mj_W_isAmong (by decide) rfl (Nat.le_of_ble_eq_true rfl) (c_W_isAmong) ?_
    refine hy_ib_eq (i := 3) (tt := 11) rfl (fun zc1 => ?_) (fun zc1 => ?_)
    · simp at zc1; omega
    · refine hy_aload (i := 4) rfl rfl ?_
      refine hy_getr (i := 5) rfl rfl ?_
      refine hy_iload (i := 6) rfl rfl ?_
      refine hy_iald (i := 7) rfl rfl (by omega) rfl ?_
      refine hy_const (i := 8) rfl (by decide) ?_
      refine hy_irem (i := 9) rfl (by omega) (by omega) ?_
      refine hy_goto (i := 10) (tt := 12) rfl ?_
      refine hy_ireturn (i := 12) rfl rfl ?_
      exact ⟨rfl, rfl⟩
  · rw [if_neg hf]
    refine hy_iload (i := 0) rfl rfl ?_
    refine hy_const (i := 1) rfl (by decide) ?_
    refine hy_cS2e (i := 2) rfl (by decide) mj_W_isAmong (by decide) rfl (Nat.le_of_ble_eq_true rfl) (c_W_isAmong) ?_
    refine hy_ib_eq (i := 3) (tt := 11) rfl (fun zc1 => ?_) (fun zc1 => ?_)
    · refine hy_const (i := 11) rfl (by decide) ?_
      refine hy_ireturn (i := 12) rfl rfl ?_
      exact ⟨rfl, rfl⟩
    · simp at zc1; omega
theorem c_A_seas : hy_Ct sc hm_A_seas 0 [.inr (some 52)] t (hy_e (some (t 52 4)) t) := by
  refine hy_mk_ct ok_A_seas ck_A_seas (Nat.le_of_ble_eq_true rfl) ?_
  refine hy_aload (i := 0) rfl rfl ?_
  refine hy_get (i := 1) (fk := 4) rfl rfl rfl ?_
  refine hy_ireturn (i := 2) rfl rfl ?_
  exact ⟨rfl, rfl⟩
theorem c_A_largestSea : hy_Ct sc hm_A_largestSea 0 [.inr (some 52)] t (hy_e (some (t 52 5)) t) := by
  refine hy_mk_ct ok_A_largestSea ck_A_largestSea (Nat.le_of_ble_eq_true rfl) ?_
  refine hy_aload (i := 0) rfl rfl ?_
  refine hy_get (i := 1) (fk := 5) rfl rfl rfl ?_
  refine hy_ireturn (i := 2) rfl rfl ?_
  exact ⟨rfl, rfl⟩
end PA
/-! the class's purse: what one more colour adds -/
def ad_w (x : Int) : Int := (Int32.ofInt x).toInt
theorem ad_w_R (x : Int) : -2147483648 ≤ ad_w x ∧ ad_w x ≤ 2147483647 := by
  have h1 := Int32.le_toInt (Int32.ofInt x)
  have h2 := Int32.toInt_lt (Int32.ofInt x)
  unfold ad_w
  omega
def ad_o (n : Int) : Int := if 0 ≤ n ∧ n < 6 then [1, 1, 2, 6, 24, 120].getD n.toNat 0 else 0
def ad_add (t : hy_T) (P : Nat → Int) (e c q g : Int) : Int := sp_worthN P (sp_seenN t e q (hz_ior g (hz_ishl 1 c)) 12) 12 - sp_worthN P (sp_seenN t e q g 12) 12
def ad_sumN (t : hy_T) (P : Nat → Int) (e c q rest : Int) : Nat → Int × Int
  | 0 => (rest, 0)
  | n + 1 =>
    let p := ad_sumN t P e c q rest n
    (hz_iand (ad_w (p.1 - 1)) rest, ad_w (p.2 + ad_w (ad_w (ad_o (sp_bc p.1) * ad_o (sp_bc rest - sp_bc p.1)) * ad_add t P e c q p.1)))
def ad_rest (cs c : Int) : Int := hz_iand cs (hz_ixor (hz_ishl 1 c) (-1))
def ad_by (t : hy_T) (cs c e q : Int) : Int := (ad_sumN t (fun x => sp_price t e q cs x) e c q (ad_rest cs c) (hz_ishl 1 (sp_bc (ad_rest cs c))).toNat).2
theorem ad_worth_F {t t1 : hy_T} (h : hy_F pX t t1) {P : Nat → Int} {e q : Int} (hp : ∀ c : Nat, c < 12 → t1 48 c = P c) (plain : Int) : sp_worthN (t1 48) (sp_seenN t1 e q plain 12) 12 = sp_worthN P (sp_seenN t e q plain 12) 12 := by
  rw [sp_seenN_G h (pX_law h) rfl rfl (fun _ => rfl) (fun _ => rfl)]
  exact sp_worthN_eq hp _ 12 (Nat.le_refl _)
theorem ad_shl_le (o : Int) : hz_ishl 1 o ≤ 2147483647 := by
  have h2 := Int32.toInt_lt (Int32.ofInt 1 <<< (Int32.ofInt o &&& 31))
  unfold hz_ishl
  omega
section PD
variable {sc : List Int32} {t : hy_T}
theorem c_U_addedBy {cs c e q : Int} (hk : lc_ok t) : hy_Ct sc hm_U_addedBy 5 [.inr (some 47), .inl cs, .inl c, .inl e, .inl q] t (fun r t' => r = some (ad_by t cs c e q) ∧ hy_F pX t t') := by
  refine hy_mk_ct ok_U_addedBy ck_U_addedBy (Nat.le_of_ble_eq_true rfl) ?_
  have hb := ad_shl_le (sp_bc (ad_rest cs c))
  have ho := hz_bc_le (ad_rest cs c)
  have hP0 : ∀ x : Nat, x < 12 → 0 ≤ sp_price t e q cs x ∧ sp_price t e q cs x ≤ 6400 := fun x _ => sp_price_le t e q cs x
  have loop : ∀ (n : Nat), ∀ (k : Nat) (p : Int × Int) (t1 : hy_T) (v10 v11 : hy_V), n + k = (hz_ishl 1 (sp_bc (ad_rest cs c))).toNat → hy_F pX t t1 → (∀ x : Nat, x < 12 → t1 48 x = sp_price t e q cs x) → p = ad_sumN t (fun x => sp_price t e q cs x) e c q (ad_rest cs c) k →
      hy_W sc hm_U_addedBy 5 22 [.inr (some 47), .inl cs, .inl c, .inl e, .inl q, .inl (ad_rest cs c), .inl (sp_bc (ad_rest cs c)), .inl p.2, .inl p.1, .inl (k : Int), v10, v11] [] t1 (fun r t' => r = some (ad_by t cs c e q) ∧ hy_F pX t t') := by
    intro n
    induction n with
    | zero =>
      intro k p t1 v10 v11 hn hF hP hp
      have hk1 : k = (hz_ishl 1 (sp_bc (ad_rest cs c))).toNat := by omega
      refine hy_iload (i := 22) rfl rfl ?_
      refine hy_const (i := 23) rfl (by decide) ?_
      refine hy_iload (i := 24) rfl rfl ?_
      refine hy_ishl (i := 25) rfl ?_
      refine hy_ic_ge (i := 26) (tt := 66) rfl (fun zc1 => ?_) (fun zc1 => ?_)
      · refine hy_iload (i := 66) rfl rfl ?_
        refine hy_ireturn (i := 67) rfl rfl ?_
        exact ⟨congrArg some (by rw [hp, hk1]; rfl), hF⟩
      · omega
    | succ n ih =>
      intro k p t1 v10 v11 hn hF hP hp
      have hk1 := lc_ok_same (pX_law hF) hk
      have hp1 : ∀ x : Nat, x < 12 → 0 ≤ t1 48 x ∧ t1 48 x ≤ 6400 := fun x hx => by rw [hP x hx]; exact hP0 x hx
      have hz1 := hz_bc_le p.1
      have hw1 := sp_worthN_le hP0 (sp_seenN t e q (hz_ior p.1 (hz_ishl 1 c)) 12) 12 (Nat.le_refl _)
      have hw2 := sp_worthN_le hP0 (sp_seenN t e q p.1 12) 12 (Nat.le_refl _)
      refine hy_iload (i := 22) rfl rfl ?_
      refine hy_const (i := 23) rfl (by decide) ?_
      refine hy_iload (i := 24) rfl rfl ?_
      refine hy_ishl (i := 25) rfl ?_
      refine hy_ic_ge (i := 26) (tt := 66) rfl (fun zc1 => ?_) (fun zc1 => ?_)
      · omega
      · refine hy_iload (i := 27) rfl rfl ?_
        refine hy_cS1e (i := 28) rfl (by decide) mj_J_bitCount (by decide) rfl (Nat.le_of_ble_eq_true rfl) (c_J_bitCount) ?_
        refine hy_istore (i := 29) rfl ?_
        refine hy_aload (i := 30) rfl rfl ?_
        refine hy_iload (i := 31) rfl rfl ?_
        refine hy_iload (i := 32) rfl rfl ?_
        refine hy_iload (i := 33) rfl rfl ?_
        refine hy_const (i := 34) rfl (by decide) ?_
        refine hy_iload (i := 35) rfl rfl ?_
        refine hy_ishl (i := 36) rfl ?_
        refine hy_ior (i := 37) rfl ?_
        refine hy_cV3 (i := 38) rfl mj_U_worthWith (by decide) rfl (Nat.le_of_ble_eq_true rfl) rfl rfl rfl (c_U_worthWith hk1 hp1) (fun r2_ t2_ h2 => ?_)
        obtain ⟨rfl, hF2⟩ := h2
        dsimp only [hy_st, List.cons_append, List.nil_append]
        refine hy_aload (i := 39) rfl rfl ?_
        refine hy_iload (i := 40) rfl rfl ?_
        refine hy_iload (i := 41) rfl rfl ?_
        refine hy_iload (i := 42) rfl rfl ?_
        have hG2 : hy_F pX t t2_ := hF.tr' (eX_pX hF2)
        have hk2 := lc_ok_same (pX_law hG2) hk
        have hq2 : ∀ x : Nat, x < 12 → t2_ 48 x = sp_price t e q cs x := fun x hx => by rw [hF2 48 x rfl]; exact hP x hx
        have hp2 : ∀ x : Nat, x < 12 → 0 ≤ t2_ 48 x ∧ t2_ 48 x ≤ 6400 := fun x hx => by rw [hq2 x hx]; exact hP0 x hx
        refine hy_cV3 (i := 43) rfl mj_U_worthWith (by decide) rfl (Nat.le_of_ble_eq_true rfl) rfl rfl rfl (c_U_worthWith hk2 hp2) (fun r3_ t3_ h3 => ?_)
        obtain ⟨rfl, hF3⟩ := h3
        dsimp only [hy_st, List.cons_append, List.nil_append]
        rw [ad_worth_F hF hP, ad_worth_F hG2 hq2]
        refine hy_isub (i := 44) rfl (by omega) ?_
        refine hy_istore (i := 45) rfl ?_
        refine hy_iload (i := 46) rfl rfl ?_
        refine hy_iload (i := 47) rfl rfl ?_
        refine hy_cS1e (i := 48) rfl (by decide) mj_U_orders (by decide) rfl (Nat.le_of_ble_eq_true rfl) (c_U_orders) ?_
        refine hy_iload (i := 49) rfl rfl ?_
        refine hy_iload (i := 50) rfl rfl ?_
        refine hy_isub (i := 51) rfl (by omega) ?_
        refine hy_cS1e (i := 52) rfl (by decide) mj_U_orders (by decide) rfl (Nat.le_of_ble_eq_true rfl) (c_U_orders) ?_
        refine hy_imulw (i := 53) rfl ?_
        refine hy_iload (i := 54) rfl rfl ?_
        refine hy_imulw (i := 55) rfl ?_
        refine hy_iaddw (i := 56) rfl ?_
        refine hy_istore (i := 57) rfl ?_
        refine hy_iload (i := 58) rfl rfl ?_
        refine hy_const (i := 59) rfl (by decide) ?_
        refine hy_isubw (i := 60) rfl ?_
        refine hy_iload (i := 61) rfl rfl ?_
        refine hy_iand (i := 62) rfl ?_
        refine hy_istore (i := 63) rfl ?_
        refine hy_iinc (i := 64) rfl rfl (by omega) ?_
        refine hy_goto (i := 65) (tt := 22) rfl ?_
        exact ih (k + 1) (_, _) _ _ _ (by omega) (hG2.tr' (eX_pX hF3)) (fun x hx => by rw [hF3 48 x rfl]; exact hq2 x hx) (by simp only [ad_sumN]; rw [← hp]; rfl)
  refine hy_aload (i := 0) rfl rfl ?_
  refine hy_iload (i := 1) rfl rfl ?_
  refine hy_iload (i := 2) rfl rfl ?_
  refine hy_iload (i := 3) rfl rfl ?_
  refine hy_cV3 (i := 4) rfl mj_U_price (by decide) rfl (Nat.le_of_ble_eq_true rfl) rfl rfl rfl (c_U_price (by assumption)) (fun r1_ t1_ h1 => ?_)
  obtain ⟨rfl, hP1, hF1⟩ := h1
  dsimp only [hy_st, List.nil_append]
  refine hy_iload (i := 5) rfl rfl ?_
  refine hy_const (i := 6) rfl (by decide) ?_
  refine hy_iload (i := 7) rfl rfl ?_
  refine hy_ishl (i := 8) rfl ?_
  refine hy_const (i := 9) rfl (by decide) ?_
  refine hy_ixor (i := 10) rfl ?_
  refine hy_iand (i := 11) rfl ?_
  refine hy_istore (i := 12) rfl ?_
  refine hy_iload (i := 13) rfl rfl ?_
  refine hy_cS1e (i := 14) rfl (by decide) mj_J_bitCount (by decide) rfl (Nat.le_of_ble_eq_true rfl) (c_J_bitCount) ?_
  refine hy_istore (i := 15) rfl ?_
  refine hy_const (i := 16) rfl (by decide) ?_
  refine hy_istore (i := 17) rfl ?_
  refine hy_iload (i := 18) rfl rfl ?_
  refine hy_istore (i := 19) rfl ?_
  refine hy_const (i := 20) rfl (by decide) ?_
  refine hy_istore (i := 21) rfl ?_
  exact loop _ 0 (_, _) _ _ _ rfl hF1 hP1 rfl
end PD
/-! the class's tape, as it is filled and read -/
def tp_add1 (t : hy_T) (v : Int) : hy_T := if t 3 1 < 260 then hy_up (hy_up t 4 (t 3 1).toNat v) 3 1 (t 3 1 + 1) else t
def tp_byte (w s : Int) : Int := hz_iand (hz_ishr w s) 255
def tp_add (t : hy_T) (w : Int) : hy_T := tp_add1 (tp_add1 (tp_add1 (tp_add1 t (tp_byte w 24)) (tp_byte w 16)) (tp_byte w 8)) (tp_byte w 0)
abbrev tp_ok (t : hy_T) : Prop := (∀ j : Nat, j < 260 → 0 ≤ t 4 j ∧ t 4 j ≤ 255) ∧ (0 ≤ t 3 1 ∧ t 3 1 ≤ 260) ∧ t 3 2 ≤ 260 ∧ (0 ≤ t 3 3 ∧ t 3 3 ≤ 260)
theorem tp_ok.b {t : hy_T} (h : tp_ok t) : ∀ j : Nat, j < 260 → 0 ≤ t 4 j ∧ t 4 j ≤ 255 := h.1
theorem tp_ok.l {t : hy_T} (h : tp_ok t) : 0 ≤ t 3 1 ∧ t 3 1 ≤ 260 := h.2.1
theorem tp_ok.e {t : hy_T} (h : tp_ok t) : t 3 2 ≤ 260 := h.2.2.1
theorem tp_ok.p {t : hy_T} (h : tp_ok t) : 0 ≤ t 3 3 ∧ t 3 3 ≤ 260 := h.2.2.2
abbrev tpX : Nat → Nat → Bool := fun r j => r == 3 && (j == 3 || j == 4)
theorem tp_ok_F {X : Nat → Nat → Bool} {t t1 : hy_T} (h : hy_F X t t1) (h4 : ∀ j, X 4 j = false) (h3 : ∀ j, X 3 j = false) (hk : tp_ok t) : tp_ok t1 :=
  ⟨fun j hj => by rw [h 4 j (h4 j)]; exact hk.b j hj, by rw [h 3 1 (h3 1)]; exact hk.l, by rw [h 3 2 (h3 2)]; exact hk.e, by rw [h 3 3 (h3 3)]; exact hk.p⟩
theorem tp_byte_in (w s : Int) : 0 ≤ tp_byte w s ∧ tp_byte w s ≤ 255 := hz_iand_le (by decide)
theorem tp_add1_ok {t : hy_T} (h : tp_ok t) {v : Int} (hv : 0 ≤ v ∧ v ≤ 255) : tp_ok (tp_add1 t v) := by
  have h1 := h.l
  unfold tp_add1
  split
  · refine ⟨fun j hj => ?_, ?_, ?_, ?_⟩
    · simp only [hy_up]
      rw [if_neg (by omega)]
      split
      · exact hv
      · exact h.b j hj
    · simp [hy_up]; omega
    · have := h.e; simpa [hy_up] using this
    · have := h.p; simpa [hy_up] using this
  · exact h
theorem tp_add_ok {t : hy_T} (h : tp_ok t) (w : Int) : tp_ok (tp_add t w) :=
  tp_add1_ok (tp_add1_ok (tp_add1_ok (tp_add1_ok h (tp_byte_in w 24)) (tp_byte_in w 16)) (tp_byte_in w 8)) (tp_byte_in w 0)
def tp_step (t : hy_T) : hy_T := hy_up t 3 3 (t 3 3 + 1)
theorem tp_next_in {t : hy_T} (h : tp_ok t) : -1 ≤ tp_next t ∧ tp_next t ≤ 255 := by
  have h1 := h.p
  have h2 := h.e
  unfold tp_next
  split
  · have := h.b (t 3 3).toNat (by omega); omega
  · decide
theorem tp_next_p {t : hy_T} (h : 0 ≤ tp_next t) : t 3 4 = 0 ∧ 0 ≤ t 3 3 ∧ t 3 3 < t 3 2 := by
  unfold tp_next at h
  split at h
  · assumption
  · omega
theorem tp_step_ok {t : hy_T} (h : tp_ok t) (hn : 0 ≤ tp_next t) : tp_ok (tp_step t) := by
  have h1 := tp_next_p hn
  have h2 := h.e
  refine ⟨h.b, ?_, ?_, ?_⟩
  · have := h.l; simpa [tp_step, hy_up] using this
  · simpa [tp_step, hy_up] using h2
  · simp [tp_step, hy_up]; omega
theorem tp_step_F (t : hy_T) : hy_F tpX t (tp_step t) := hy_F.rf.up rfl
theorem tp_fail_F (t : hy_T) (n w : Int) : hy_F (fun r j => r == 3 && j == 4) t (tp_fail t n w) := by
  unfold tp_fail
  split
  · exact hy_F.rf.up rfl
  · exact hy_F.rf
theorem tp_fail_G (t : hy_T) (n w : Int) : hy_F tpX t (tp_fail t n w) := (tp_fail_F t n w).w (fun r j q => by revert q; simp [tpX]; omega)
theorem tp_fail_ok {t : hy_T} (h : tp_ok t) (n w : Int) : tp_ok (tp_fail t n w) := by
  have f := tp_fail_F t n w
  exact ⟨fun j hj => by rw [f 4 j rfl]; exact h.b j hj, by rw [f 3 1 rfl]; exact h.l, by rw [f 3 2 rfl]; exact h.e, by rw [f 3 3 rfl]; exact h.p⟩
theorem tp_take_ok {t : hy_T} (h : tp_ok t) {s : Int} (hs : 0 ≤ s) : tp_ok (tp_take t s) := by
  unfold tp_take
  split
  · exact tp_step_ok h (by omega)
  · exact tp_fail_ok h _ _
theorem tp_take_F (t : hy_T) (s : Int) : hy_F tpX t (tp_take t s) := by
  unfold tp_take
  split
  · exact tp_step_F t
  · exact tp_fail_G t _ _
theorem tp_finish_ok {t : hy_T} (h : tp_ok t) : tp_ok (tp_finish t) := by
  unfold tp_finish
  split
  · exact tp_fail_ok h _ _
  · exact h
theorem tp_finish_F (t : hy_T) : hy_F tpX t (tp_finish t) := by
  unfold tp_finish
  split
  · exact tp_fail_G t _ _
  · exact hy_F.rf
section TP
variable {sc : List Int32} {t : hy_T}
theorem c_T_add {w : Int} (hl : 0 ≤ t 3 1 ∧ t 3 1 ≤ 260) : hy_Ct sc hm_T_add 0 [.inr (some 3), .inl w] t (hy_e none (tp_add t w)) := by
  refine hy_mk_ct ok_T_add ck_T_add (Nat.le_of_ble_eq_true rfl) ?_
  have hl1 : ∀ (t1 : hy_T) (v : Int), (0 ≤ t1 3 1 ∧ t1 3 1 ≤ 260) → 0 ≤ tp_add1 t1 v 3 1 ∧ tp_add1 t1 v 3 1 ≤ 260 := by
    intro t1 v h
    unfold tp_add1
    split
    · simp [hy_up]; omega
    · exact h
  have body : ∀ (s s2 : Int) (t1 : hy_T), (0 ≤ s ∧ s ≤ 24) → s2 = s + -8 → (0 ≤ t1 3 1 ∧ t1 3 1 ≤ 260) → hy_W sc hm_T_add 0 2 [.inr (some 3), .inl w, .inl s2] [] (tp_add1 t1 (tp_byte w s)) (hy_e none (tp_add t w)) → hy_W sc hm_T_add 0 2 [.inr (some 3), .inl w, .inl s] [] t1 (hy_e none (tp_add t w)) := by
    intro s s2 t1 hs h2 hl hh
    subst h2
    by_cases hc : t1 3 1 < 260
    · rw [show tp_add1 t1 (tp_byte w s) = _ from if_pos hc] at hh
      refine hy_iload (i := 2) rfl rfl ?_
      refine hy_if_lt (i := 3) (tt := 26) rfl (fun zc1 => ?_) (fun zc1 => ?_)
      · omega
      · refine hy_aload (i := 4) rfl rfl ?_
        refine hy_get (i := 5) (fk := 1) rfl rfl rfl ?_
        refine hy_const (i := 6) rfl (by decide) ?_
        refine hy_ic_ge (i := 7) (tt := 24) rfl (fun zc2 => ?_) (fun zc2 => ?_)
        · omega
        · refine hy_aload (i := 8) rfl rfl ?_
          refine hy_getr (i := 9) rfl rfl ?_
          refine hy_aload (i := 10) rfl rfl ?_
          refine hy_get (i := 11) (fk := 1) rfl rfl rfl ?_
          refine hy_iload (i := 12) rfl rfl ?_
          refine hy_iload (i := 13) rfl rfl ?_
          refine hy_ishr (i := 14) rfl ?_
          refine hy_const (i := 15) rfl (by decide) ?_
          refine hy_iand (i := 16) rfl ?_
          refine hy_iast (i := 17) rfl rfl (by omega) rfl ?_
          refine hy_aload (i := 18) rfl rfl ?_
          refine hy_dup (i := 19) rfl ?_
          refine hy_get (i := 20) (fk := 1) rfl rfl rfl ?_
          refine hy_const (i := 21) rfl (by decide) ?_
          rw [show hy_up t1 4 (t1 3 1).toNat (hz_iand (hz_ishr w s) 255) 3 1 = t1 3 1 from rfl]
          refine hy_iadd (i := 22) rfl (by omega) ?_
          refine hy_put (i := 23) (fk := 1) rfl rfl rfl rfl ?_
          refine hy_iinc (i := 24) rfl rfl (by omega) ?_
          refine hy_goto (i := 25) (tt := 2) rfl ?_
          exact hh
    · rw [show tp_add1 t1 (tp_byte w s) = _ from if_neg hc] at hh
      refine hy_iload (i := 2) rfl rfl ?_
      refine hy_if_lt (i := 3) (tt := 26) rfl (fun zc1 => ?_) (fun zc1 => ?_)
      · omega
      · refine hy_aload (i := 4) rfl rfl ?_
        refine hy_get (i := 5) (fk := 1) rfl rfl rfl ?_
        refine hy_const (i := 6) rfl (by decide) ?_
        refine hy_ic_ge (i := 7) (tt := 24) rfl (fun zc2 => ?_) (fun zc2 => ?_)
        · refine hy_iinc (i := 24) rfl rfl (by omega) ?_
          refine hy_goto (i := 25) (tt := 2) rfl ?_
          exact hh
        · omega
  have fin : hy_W sc hm_T_add 0 2 [.inr (some 3), .inl w, .inl (-8)] [] (tp_add t w) (hy_e none (tp_add t w)) := by
    refine hy_iload (i := 2) rfl rfl ?_
    refine hy_if_lt (i := 3) (tt := 26) rfl (fun zc1 => ?_) (fun zc1 => ?_)
    · refine hy_return (i := 26) rfl rfl ?_
      exact ⟨rfl, rfl⟩
    · omega
  refine hy_const (i := 0) rfl (by decide) ?_
  refine hy_istore (i := 1) rfl ?_
  exact body 24 16 _ (by decide) (by decide) hl (body 16 8 _ (by decide) (by decide) (hl1 _ _ hl) (body 8 0 _ (by decide) (by decide) (hl1 _ _ (hl1 _ _ hl)) (body 0 (-8) _ (by decide) (by decide) (hl1 _ _ (hl1 _ _ (hl1 _ _ hl))) fin)))
theorem c_N_length : hy_Ct sc hm_N_length 0 [.inr (some 27)] t (hy_e (some (t 27 6)) t) := by
  refine hy_mk_ct ok_N_length ck_N_length (Nat.le_of_ble_eq_true rfl) ?_
  refine hy_aload (i := 0) rfl rfl ?_
  refine hy_get (i := 1) (fk := 6) rfl rfl rfl ?_
  refine hy_ireturn (i := 2) rfl rfl ?_
  exact ⟨rfl, rfl⟩
theorem c_N_hue {k : Int} (hl : t 27 6 ≤ 8) : hy_Ct sc hm_N_hue 1 [.inr (some 27), .inl k] t (hy_e (some (if 0 ≤ k ∧ k < t 27 6 then t 28 k.toNat else 0)) t) := by
  refine hy_mk_ct ok_N_hue ck_N_hue (Nat.le_of_ble_eq_true rfl) ?_
  refine hy_iload (i := 0) rfl rfl ?_
  refine hy_aload (i := 1) rfl rfl ?_
  refine hy_get (i := 2) (fk := 6) rfl rfl rfl ?_
  refine hy_cS2e (i := 3) rfl (by decide) mj_W_isAmong (by decide) rfl (Nat.le_of_ble_eq_true rfl) (c_W_isAmong) ?_
  refine hy_ib_eq (i := 4) (tt := 10) rfl (fun zc1 => ?_) (fun zc1 => ?_)
  · refine hy_const (i := 10) rfl (by decide) ?_
    refine hy_ireturn (i := 11) rfl rfl ?_
    exact ⟨congrArg some (by simp at zc1; first | (rw [if_pos (by omega)]; done) | (rw [if_neg (by omega)]; done)), rfl⟩
  · refine hy_aload (i := 5) rfl rfl ?_
    refine hy_getr (i := 6) rfl rfl ?_
    refine hy_iload (i := 7) rfl rfl ?_
    refine hy_iald (i := 8) rfl rfl (by simp at zc1; omega) rfl ?_
    refine hy_goto (i := 9) (tt := 11) rfl ?_
    refine hy_ireturn (i := 11) rfl rfl ?_
    exact ⟨congrArg some (by simp at zc1; first | (rw [if_pos (by omega)]; done) | (rw [if_neg (by omega)]; done)), rfl⟩
theorem c_N_quarters {k : Int} (hl : t 27 6 ≤ 8) : hy_Ct sc hm_N_quarters 1 [.inr (some 27), .inl k] t (hy_e (some (if 0 ≤ k ∧ k < t 27 6 then t 29 k.toNat else 0)) t) := by
  refine hy_mk_ct ok_N_quarters ck_N_quarters (Nat.le_of_ble_eq_true rfl) ?_
  refine hy_iload (i := 0) rfl rfl ?_
  refine hy_aload (i := 1) rfl rfl ?_
  refine hy_get (i := 2) (fk := 6) rfl rfl rfl ?_
  refine hy_cS2e (i := 3) rfl (by decide) mj_W_isAmong (by decide) rfl (Nat.le_of_ble_eq_true rfl) (c_W_isAmong) ?_
  refine hy_ib_eq (i := 4) (tt := 10) rfl (fun zc1 => ?_) (fun zc1 => ?_)
  · refine hy_const (i := 10) rfl (by decide) ?_
    refine hy_ireturn (i := 11) rfl rfl ?_
    exact ⟨congrArg some (by simp at zc1; first | (rw [if_pos (by omega)]; done) | (rw [if_neg (by omega)]; done)), rfl⟩
  · refine hy_aload (i := 5) rfl rfl ?_
    refine hy_getr (i := 6) rfl rfl ?_
    refine hy_iload (i := 7) rfl rfl ?_
    refine hy_iald (i := 8) rfl rfl (by simp at zc1; omega) rfl ?_
    refine hy_goto (i := 9) (tt := 11) rfl ?_
    refine hy_ireturn (i := 11) rfl rfl ?_
    exact ⟨congrArg some (by simp at zc1; first | (rw [if_pos (by omega)]; done) | (rw [if_neg (by omega)]; done)), rfl⟩
theorem c_N_giver {k : Int} (hl : t 27 6 ≤ 8) : hy_Ct sc hm_N_giver 1 [.inr (some 27), .inl k] t (hy_e (some (if 0 ≤ k ∧ k < t 27 6 then t 31 k.toNat else 0)) t) := by
  refine hy_mk_ct ok_N_giver ck_N_giver (Nat.le_of_ble_eq_true rfl) ?_
  refine hy_iload (i := 0) rfl rfl ?_
  refine hy_aload (i := 1) rfl rfl ?_
  refine hy_get (i := 2) (fk := 6) rfl rfl rfl ?_
  refine hy_cS2e (i := 3) rfl (by decide) mj_W_isAmong (by decide) rfl (Nat.le_of_ble_eq_true rfl) (c_W_isAmong) ?_
  refine hy_ib_eq (i := 4) (tt := 10) rfl (fun zc1 => ?_) (fun zc1 => ?_)
  · refine hy_const (i := 10) rfl (by decide) ?_
    refine hy_ireturn (i := 11) rfl rfl ?_
    exact ⟨congrArg some (by simp at zc1; first | (rw [if_pos (by omega)]; done) | (rw [if_neg (by omega)]; done)), rfl⟩
  · refine hy_aload (i := 5) rfl rfl ?_
    refine hy_getr (i := 6) rfl rfl ?_
    refine hy_iload (i := 7) rfl rfl ?_
    refine hy_iald (i := 8) rfl rfl (by simp at zc1; omega) rfl ?_
    refine hy_goto (i := 9) (tt := 11) rfl ?_
    refine hy_ireturn (i := 11) rfl rfl ?_
    exact ⟨congrArg some (by simp at zc1; first | (rw [if_pos (by omega)]; done) | (rw [if_neg (by omega)]; done)), rfl⟩
theorem c_N_other {k : Int} (hl : t 27 6 ≤ 8) : hy_Ct sc hm_N_other 1 [.inr (some 27), .inl k] t (hy_e (some (if 0 ≤ k ∧ k < t 27 6 then t 32 k.toNat else 0)) t) := by
  refine hy_mk_ct ok_N_other ck_N_other (Nat.le_of_ble_eq_true rfl) ?_
  refine hy_iload (i := 0) rfl rfl ?_
  refine hy_aload (i := 1) rfl rfl ?_
  refine hy_get (i := 2) (fk := 6) rfl rfl rfl ?_
  refine hy_cS2e (i := 3) rfl (by decide) mj_W_isAmong (by decide) rfl (Nat.le_of_ble_eq_true rfl) (c_W_isAmong) ?_
  refine hy_ib_eq (i := 4) (tt := 10) rfl (fun zc1 => ?_) (fun zc1 => ?_)
  · refine hy_const (i := 10) rfl (by decide) ?_
    refine hy_ireturn (i := 11) rfl rfl ?_
    exact ⟨congrArg some (by simp at zc1; first | (rw [if_pos (by omega)]; done) | (rw [if_neg (by omega)]; done)), rfl⟩
  · refine hy_aload (i := 5) rfl rfl ?_
    refine hy_getr (i := 6) rfl rfl ?_
    refine hy_iload (i := 7) rfl rfl ?_
    refine hy_iald (i := 8) rfl rfl (by simp at zc1; omega) rfl ?_
    refine hy_goto (i := 9) (tt := 11) rfl ?_
    refine hy_ireturn (i := 11) rfl rfl ?_
    exact ⟨congrArg some (by simp at zc1; first | (rw [if_pos (by omega)]; done) | (rw [if_neg (by omega)]; done)), rfl⟩
theorem c_N_isShared {k : Int} (hl : t 27 6 ≤ 8) : hy_Ct sc hm_N_isShared 1 [.inr (some 27), .inl k] t (hy_e (some (hy_b (decide ((0 ≤ k ∧ k < t 27 6) ∧ t 30 k.toNat = 43)))) t) := by
  refine hy_mk_ct ok_N_isShared ck_N_isShared (Nat.le_of_ble_eq_true rfl) ?_
  refine hy_iload (i := 0) rfl rfl ?_
  refine hy_aload (i := 1) rfl rfl ?_
  refine hy_get (i := 2) (fk := 6) rfl rfl rfl ?_
  refine hy_cS2e (i := 3) rfl (by decide) mj_W_isAmong (by decide) rfl (Nat.le_of_ble_eq_true rfl) (c_W_isAmong) ?_
  refine hy_ib_eq (i := 4) (tt := 13) rfl (fun zc1 => ?_) (fun zc1 => ?_)
  · refine hy_const (i := 13) rfl (by decide) ?_
    refine hy_zreturn (i := 14) rfl rfl (by first | decide | exact hy_b01 _) ?_
    exact ⟨congrArg some (by simp at zc1; first | (rw [decide_eq_true (by omega)]; rfl) | (rw [decide_eq_false (by omega)]; rfl)), rfl⟩
  · refine hy_aload (i := 5) rfl rfl ?_
    refine hy_getr (i := 6) rfl rfl ?_
    refine hy_iload (i := 7) rfl rfl ?_
    refine hy_iald (i := 8) rfl rfl (by simp at zc1; omega) rfl ?_
    refine hy_const (i := 9) rfl (by decide) ?_
    refine hy_ic_ne (i := 10) (tt := 13) rfl (fun zc2 => ?_) (fun zc2 => ?_)
    · refine hy_const (i := 13) rfl (by decide) ?_
      refine hy_zreturn (i := 14) rfl rfl (by first | decide | exact hy_b01 _) ?_
      exact ⟨congrArg some (by simp at zc1; first | (rw [decide_eq_true (by omega)]; rfl) | (rw [decide_eq_false (by omega)]; rfl)), rfl⟩
    · refine hy_const (i := 11) rfl (by decide) ?_
      refine hy_goto (i := 12) (tt := 14) rfl ?_
      refine hy_zreturn (i := 14) rfl rfl (by first | decide | exact hy_b01 _) ?_
      exact ⟨congrArg some (by simp at zc1; first | (rw [decide_eq_true (by omega)]; rfl) | (rw [decide_eq_false (by omega)]; rfl)), rfl⟩
end TP
/-! the class's lines, as they are read -/
def rd_colourN : Nat → hy_T → Int → hy_T × Int
  | 0, t, c => (t, c)
  | n + 1, t, c => if 48 ≤ tp_next t ∧ tp_next t ≤ 57 then rd_colourN n (tp_step t) (10 * c + tp_next t - 48) else (t, c)
def rd_colour (t : hy_T) : hy_T × Int := (if (rd_colourN 2 t 0).2 < 12 then (rd_colourN 2 t 0).1 else tp_fail (rd_colourN 2 t 0).1 3 (t 3 3), (rd_colourN 2 t 0).2)
def rd_quartersE (t : hy_T) (b : Int) : hy_T × Int := (if b = 0 then tp_fail t 1 (t 3 3) else t, b)
def rd_quartersN : Nat → hy_T → Int → hy_T × Int
  | 0, t, b => rd_quartersE t b
  | n + 1, t, b => if 0 ≤ tp_next t - 48 ∧ tp_next t - 48 < 4 then (if hz_ishr b (tp_next t - 48) = 0 then rd_quartersN n (tp_step t) (hz_ior b (hz_ishl 1 (tp_next t - 48))) else (tp_fail t 6 (t 3 3), b)) else rd_quartersE t b
def rd_quarters (t : hy_T) : hy_T × Int := rd_quartersN 5 t 0
def rd_sign (t : hy_T) : hy_T × Int := if tp_next t = 62 ∨ tp_next t = 43 then (tp_step t, tp_next t) else (tp_fail t 1 (t 3 3), 0)
def rd_empire (t : hy_T) (a : Int) : hy_T × Int :=
  (if 48 ≤ tp_next t ∧ tp_next t ≤ 57 then
    (if 0 ≤ tp_next t - 48 ∧ tp_next t - 48 < 6 then (if tp_next t - 48 = a then tp_fail t 6 (t 3 3) else tp_step t) else tp_fail t 3 (t 3 3))
   else tp_fail t 1 (t 3 3), tp_next t - 48)
theorem rd_colourN_s : ∀ (n : Nat) {t : hy_T} {c m : Int}, tp_ok t → (0 ≤ c ∧ c ≤ m) → tp_ok (rd_colourN n t c).1 ∧ hy_F tpX t (rd_colourN n t c).1 ∧ 0 ≤ (rd_colourN n t c).2
  | 0, t, c, m, h, hc => ⟨h, hy_F.rf, hc.1⟩
  | n + 1, t, c, m, h, hc => by
    simp only [rd_colourN]
    split
    · obtain ⟨h1, h2, h3⟩ := rd_colourN_s n (c := 10 * c + tp_next t - 48) (m := 10 * c + tp_next t - 48) (tp_step_ok h (by omega)) (by omega)
      exact ⟨h1, (tp_step_F t).tr' h2, h3⟩
    · exact ⟨h, hy_F.rf, hc.1⟩
theorem rd_colour_s {t : hy_T} (h : tp_ok t) : tp_ok (rd_colour t).1 ∧ hy_F tpX t (rd_colour t).1 := by
  obtain ⟨h1, h2, h3⟩ := rd_colourN_s 2 (c := 0) (m := 0) h (by decide)
  unfold rd_colour
  dsimp only
  split
  · exact ⟨h1, h2⟩
  · exact ⟨tp_fail_ok h1 _ _, h2.tr' (tp_fail_G _ _ _)⟩
theorem rd_quartersE_s {t : hy_T} (h : tp_ok t) (b : Int) : tp_ok (rd_quartersE t b).1 ∧ hy_F tpX t (rd_quartersE t b).1 := by
  unfold rd_quartersE
  dsimp only
  split
  · exact ⟨tp_fail_ok h _ _, tp_fail_G _ _ _⟩
  · exact ⟨h, hy_F.rf⟩
theorem rd_quartersN_s : ∀ (n : Nat) {t : hy_T} {b : Int}, tp_ok t → tp_ok (rd_quartersN n t b).1 ∧ hy_F tpX t (rd_quartersN n t b).1
  | 0, t, b, h => rd_quartersE_s h b
  | n + 1, t, b, h => by
    simp only [rd_quartersN]
    split
    · split
      · obtain ⟨h1, h2⟩ := rd_quartersN_s n (b := hz_ior b (hz_ishl 1 (tp_next t - 48))) (tp_step_ok h (by omega))
        exact ⟨h1, (tp_step_F t).tr' h2⟩
      · exact ⟨tp_fail_ok h _ _, tp_fail_G _ _ _⟩
    · exact rd_quartersE_s h b
theorem rd_sign_s {t : hy_T} (h : tp_ok t) : tp_ok (rd_sign t).1 ∧ hy_F tpX t (rd_sign t).1 := by
  unfold rd_sign
  split
  · exact ⟨tp_step_ok h (by omega), tp_step_F t⟩
  · exact ⟨tp_fail_ok h _ _, tp_fail_G _ _ _⟩
theorem rd_empire_s {t : hy_T} (h : tp_ok t) (a : Int) : tp_ok (rd_empire t a).1 ∧ hy_F tpX t (rd_empire t a).1 := by
  unfold rd_empire
  dsimp only
  split
  · split
    · split
      · exact ⟨tp_fail_ok h _ _, tp_fail_G _ _ _⟩
      · exact ⟨tp_step_ok h (by omega), tp_step_F t⟩
    · exact ⟨tp_fail_ok h _ _, tp_fail_G _ _ _⟩
  · exact ⟨tp_fail_ok h _ _, tp_fail_G _ _ _⟩
section RL
variable {sc : List Int32} {t : hy_T}
theorem c_N_readSign (h : tp_ok t) : hy_Ct sc hm_N_readSign 1 [.inr (some 27)] t (hy_e (some (rd_sign t).2) (rd_sign t).1) := by
  refine hy_mk_ct ok_N_readSign ck_N_readSign (Nat.le_of_ble_eq_true rfl) ?_
  have hn := tp_next_in h
  have hp := h.p
  refine hy_aload (i := 0) rfl rfl ?_
  refine hy_getr (i := 1) rfl rfl ?_
  refine hy_cV0e (i := 2) rfl mj_T_next (by decide) rfl (Nat.le_of_ble_eq_true rfl) rfl rfl rfl (c_T_next (tp_ok.e (by assumption))) ?_
  refine hy_istore (i := 3) rfl ?_
  refine hy_iload (i := 4) rfl rfl ?_
  refine hy_const (i := 5) rfl (by decide) ?_
  refine hy_ic_eq (i := 6) (tt := 16) rfl (fun zc1 => ?_) (fun zc1 => ?_)
  · refine hy_aload (i := 16) rfl rfl ?_
    refine hy_getr (i := 17) rfl rfl ?_
    refine hy_cV0v (i := 18) rfl mj_T_step (by decide) rfl (Nat.le_of_ble_eq_true rfl) rfl rfl rfl (c_T_step (by have := tp_ok.p (by assumption); omega)) ?_
    refine hy_iload (i := 19) rfl rfl ?_
    refine hy_ireturn (i := 20) rfl rfl ?_
    unfold rd_sign
    first | (rw [if_pos (by omega)]; exact ⟨rfl, rfl⟩) | (rw [if_neg (by omega)]; exact ⟨rfl, rfl⟩)
  · refine hy_iload (i := 7) rfl rfl ?_
    refine hy_const (i := 8) rfl (by decide) ?_
    refine hy_ic_eq (i := 9) (tt := 16) rfl (fun zc2 => ?_) (fun zc2 => ?_)
    · refine hy_aload (i := 16) rfl rfl ?_
      refine hy_getr (i := 17) rfl rfl ?_
      refine hy_cV0v (i := 18) rfl mj_T_step (by decide) rfl (Nat.le_of_ble_eq_true rfl) rfl rfl rfl (c_T_step (by have := tp_ok.p (by assumption); omega)) ?_
      refine hy_iload (i := 19) rfl rfl ?_
      refine hy_ireturn (i := 20) rfl rfl ?_
      unfold rd_sign
      first | (rw [if_pos (by omega)]; exact ⟨rfl, rfl⟩) | (rw [if_neg (by omega)]; exact ⟨rfl, rfl⟩)
    · refine hy_aload (i := 10) rfl rfl ?_
      refine hy_getr (i := 11) rfl rfl ?_
      refine hy_const (i := 12) rfl (by decide) ?_
      refine hy_cV1v (i := 13) rfl mj_T_fail (by decide) rfl (Nat.le_of_ble_eq_true rfl) rfl rfl rfl (c_T_fail (by decide) (by have := tp_ok.p (by assumption); omega)) ?_
      refine hy_const (i := 14) rfl (by decide) ?_
      refine hy_ireturn (i := 15) rfl rfl ?_
      unfold rd_sign
      first | (rw [if_pos (by omega)]; exact ⟨rfl, rfl⟩) | (rw [if_neg (by omega)]; exact ⟨rfl, rfl⟩)
theorem c_N_readEmpire {a : Int} (h : tp_ok t) : hy_Ct sc hm_N_readEmpire 2 [.inr (some 27), .inl a] t (hy_e (some (rd_empire t a).2) (rd_empire t a).1) := by
  refine hy_mk_ct ok_N_readEmpire ck_N_readEmpire (Nat.le_of_ble_eq_true rfl) ?_
  have hn := tp_next_in h
  have hp := h.p
  refine hy_aload (i := 0) rfl rfl ?_
  refine hy_getr (i := 1) rfl rfl ?_
  refine hy_cV0e (i := 2) rfl mj_T_next (by decide) rfl (Nat.le_of_ble_eq_true rfl) rfl rfl rfl (c_T_next (tp_ok.e (by assumption))) ?_
  refine hy_istore (i := 3) rfl ?_
  refine hy_iload (i := 4) rfl rfl ?_
  refine hy_const (i := 5) rfl (by decide) ?_
  refine hy_isub (i := 6) rfl (by omega) ?_
  refine hy_istore (i := 7) rfl ?_
  refine hy_iload (i := 8) rfl rfl ?_
  refine hy_cS1e (i := 9) rfl (by decide) mj_W_isDigit (by decide) rfl (Nat.le_of_ble_eq_true rfl) (c_W_isDigit) ?_
  refine hy_ib_ne (i := 10) (tt := 16) rfl (fun zc1 => ?_) (fun zc1 => ?_)
  · refine hy_iload (i := 16) rfl rfl ?_
    refine hy_cS1e (i := 17) rfl (by decide) mj_W_isEmpire (by decide) rfl (Nat.le_of_ble_eq_true rfl) (c_W_isEmpire) ?_
    refine hy_ib_ne (i := 18) (tt := 24) rfl (fun zc2 => ?_) (fun zc2 => ?_)
    · refine hy_iload (i := 24) rfl rfl ?_
      refine hy_iload (i := 25) rfl rfl ?_
      refine hy_ic_ne (i := 26) (tt := 32) rfl (fun zc3 => ?_) (fun zc3 => ?_)
      · refine hy_aload (i := 32) rfl rfl ?_
        refine hy_getr (i := 33) rfl rfl ?_
        refine hy_cV0v (i := 34) rfl mj_T_step (by decide) rfl (Nat.le_of_ble_eq_true rfl) rfl rfl rfl (c_T_step (by have := tp_ok.p (by assumption); omega)) ?_
        refine hy_iload (i := 35) rfl rfl ?_
        refine hy_ireturn (i := 36) rfl rfl ?_
        refine ⟨rfl, ?_⟩
        simp at zc1
        show _ = (rd_empire t a).1
        unfold rd_empire
        dsimp only
        first | (rw [if_neg (by omega)]; done) | (simp at zc2; rw [if_pos (by omega)]; first | (rw [if_neg (by omega)]; done) | (rw [if_pos (by omega)]; first | (rw [if_pos (by omega)]; done) | (rw [if_neg (by omega)]; rfl)))
      · refine hy_aload (i := 27) rfl rfl ?_
        refine hy_getr (i := 28) rfl rfl ?_
        refine hy_const (i := 29) rfl (by decide) ?_
        refine hy_cV1v (i := 30) rfl mj_T_fail (by decide) rfl (Nat.le_of_ble_eq_true rfl) rfl rfl rfl (c_T_fail (by decide) (by have := tp_ok.p (by assumption); omega)) ?_
        refine hy_goto (i := 31) (tt := 35) rfl ?_
        refine hy_iload (i := 35) rfl rfl ?_
        refine hy_ireturn (i := 36) rfl rfl ?_
        refine ⟨rfl, ?_⟩
        simp at zc1
        show _ = (rd_empire t a).1
        unfold rd_empire
        dsimp only
        first | (rw [if_neg (by omega)]; done) | (simp at zc2; rw [if_pos (by omega)]; first | (rw [if_neg (by omega)]; done) | (rw [if_pos (by omega)]; first | (rw [if_pos (by omega)]; done) | (rw [if_neg (by omega)]; rfl)))
    · refine hy_aload (i := 19) rfl rfl ?_
      refine hy_getr (i := 20) rfl rfl ?_
      refine hy_const (i := 21) rfl (by decide) ?_
      refine hy_cV1v (i := 22) rfl mj_T_fail (by decide) rfl (Nat.le_of_ble_eq_true rfl) rfl rfl rfl (c_T_fail (by decide) (by have := tp_ok.p (by assumption); omega)) ?_
      refine hy_goto (i := 23) (tt := 35) rfl ?_
      refine hy_iload (i := 35) rfl rfl ?_
      refine hy_ireturn (i := 36) rfl rfl ?_
      refine ⟨rfl, ?_⟩
      simp at zc1
      show _ = (rd_empire t a).1
      unfold rd_empire
      dsimp only
      first | (rw [if_neg (by omega)]; done) | (simp at zc2; rw [if_pos (by omega)]; first | (rw [if_neg (by omega)]; done) | (rw [if_pos (by omega)]; first | (rw [if_pos (by omega)]; done) | (rw [if_neg (by omega)]; rfl)))
  · refine hy_aload (i := 11) rfl rfl ?_
    refine hy_getr (i := 12) rfl rfl ?_
    refine hy_const (i := 13) rfl (by decide) ?_
    refine hy_cV1v (i := 14) rfl mj_T_fail (by decide) rfl (Nat.le_of_ble_eq_true rfl) rfl rfl rfl (c_T_fail (by decide) (by have := tp_ok.p (by assumption); omega)) ?_
    refine hy_goto (i := 15) (tt := 35) rfl ?_
    refine hy_iload (i := 35) rfl rfl ?_
    refine hy_ireturn (i := 36) rfl rfl ?_
    refine ⟨rfl, ?_⟩
    simp at zc1
    show _ = (rd_empire t a).1
    unfold rd_empire
    dsimp only
    first | (rw [if_neg (by omega)]; done) | (simp at zc2; rw [if_pos (by omega)]; first | (rw [if_neg (by omega)]; done) | (rw [if_pos (by omega)]; first | (rw [if_pos (by omega)]; done) | (rw [if_neg (by omega)]; rfl)))
theorem c_N_readColour (h : tp_ok t) : hy_Ct sc hm_N_readColour 1 [.inr (some 27)] t (hy_e (some (rd_colour t).2) (rd_colour t).1) := by
  refine hy_mk_ct ok_N_readColour ck_N_readColour (Nat.le_of_ble_eq_true rfl) ?_
  have hp := h.p
  have loop : ∀ (n : Nat), ∀ (k : Nat) (c : Int) (t1 : hy_T), n + k = 2 → (0 ≤ c ∧ c ≤ 99 ∧ (k = 0 → c ≤ 0) ∧ (k = 1 → c ≤ 9)) → tp_ok t1 → rd_colourN n t1 c = rd_colourN 2 t 0 → hy_W sc hm_N_readColour 1 8 [.inr (some 27), .inl (t 3 3), .inl c, .inl (k : Int)] [] t1 (hy_e (some (rd_colour t).2) (rd_colour t).1) := by
    intro n
    induction n with
    | zero =>
      intro k c t1 hn hc h1 he
      obtain rfl : k = 2 := by omega
      have e1 : (rd_colour t).2 = c := by show (rd_colourN 2 t 0).2 = c; rw [← he]; rfl
      have e2 : (rd_colour t).1 = if c < 12 then t1 else tp_fail t1 3 (t 3 3) := by unfold rd_colour; rw [← he]; rfl
      rw [e1, e2]
      refine hy_iload (i := 8) rfl rfl ?_
      refine hy_const (i := 9) rfl (by decide) ?_
      refine hy_ic_ge (i := 10) (tt := 31) rfl (fun zc1 => ?_) (fun zc1 => ?_)
      · refine hy_iload (i := 31) rfl rfl ?_
        refine hy_const (i := 32) rfl (by decide) ?_
        refine hy_ic_lt (i := 33) (tt := 39) rfl (fun zc2 => ?_) (fun zc2 => ?_)
        · refine hy_iload (i := 39) rfl rfl ?_
          refine hy_ireturn (i := 40) rfl rfl ?_
          first | (rw [if_pos (by omega)]; exact ⟨rfl, rfl⟩) | (rw [if_neg (by omega)]; exact ⟨rfl, rfl⟩)
        · refine hy_aload (i := 34) rfl rfl ?_
          refine hy_getr (i := 35) rfl rfl ?_
          refine hy_const (i := 36) rfl (by decide) ?_
          refine hy_iload (i := 37) rfl rfl ?_
          refine hy_cV2v (i := 38) rfl mj_T_failAt (by decide) rfl (Nat.le_of_ble_eq_true rfl) rfl rfl rfl (c_T_failAt (by decide) (by omega)) ?_
          refine hy_iload (i := 39) rfl rfl ?_
          refine hy_ireturn (i := 40) rfl rfl ?_
          first | (rw [if_pos (by omega)]; exact ⟨rfl, rfl⟩) | (rw [if_neg (by omega)]; exact ⟨rfl, rfl⟩)
      · omega
    | succ n ih =>
      intro k c t1 hn hc h1 he
      have hx := tp_next_in h1
      by_cases hd : 48 ≤ tp_next t1 ∧ tp_next t1 ≤ 57
      · skip
        refine hy_iload (i := 8) rfl rfl ?_
        refine hy_const (i := 9) rfl (by decide) ?_
        refine hy_ic_ge (i := 10) (tt := 31) rfl (fun zc1 => ?_) (fun zc1 => ?_)
        · omega
        · refine hy_aload (i := 11) rfl rfl ?_
          refine hy_getr (i := 12) rfl rfl ?_
          refine hy_cV0e (i := 13) rfl mj_T_next (by decide) rfl (Nat.le_of_ble_eq_true rfl) rfl rfl rfl (c_T_next (tp_ok.e (by assumption))) ?_
          refine hy_cS1e (i := 14) rfl (by decide) mj_W_isDigit (by decide) rfl (Nat.le_of_ble_eq_true rfl) (c_W_isDigit) ?_
          refine hy_ib_eq (i := 15) (tt := 31) rfl (fun zc2 => ?_) (fun zc2 => ?_)
          · simp at zc2; omega
          · refine hy_const (i := 16) rfl (by decide) ?_
            refine hy_iload (i := 17) rfl rfl ?_
            refine hy_imul (i := 18) rfl (by omega) ?_
            refine hy_aload (i := 19) rfl rfl ?_
            refine hy_getr (i := 20) rfl rfl ?_
            refine hy_cV0e (i := 21) rfl mj_T_next (by decide) rfl (Nat.le_of_ble_eq_true rfl) rfl rfl rfl (c_T_next (tp_ok.e (by assumption))) ?_
            refine hy_iadd (i := 22) rfl (by omega) ?_
            refine hy_const (i := 23) rfl (by decide) ?_
            refine hy_isub (i := 24) rfl (by omega) ?_
            refine hy_istore (i := 25) rfl ?_
            refine hy_aload (i := 26) rfl rfl ?_
            refine hy_getr (i := 27) rfl rfl ?_
            refine hy_cV0v (i := 28) rfl mj_T_step (by decide) rfl (Nat.le_of_ble_eq_true rfl) rfl rfl rfl (c_T_step (by have := tp_ok.p (by assumption); omega)) ?_
            refine hy_iinc (i := 29) rfl rfl (by omega) ?_
            refine hy_goto (i := 30) (tt := 8) rfl ?_
            exact ih (k + 1) _ _ (by omega) (by omega) (tp_step_ok h1 (by omega)) (by rw [← he]; simp only [rd_colourN]; rw [if_pos hd]; rfl)
      · have e0 : rd_colourN 2 t 0 = (t1, c) := by rw [← he]; simp only [rd_colourN]; rw [if_neg hd]
        have e1 : (rd_colour t).2 = c := by show (rd_colourN 2 t 0).2 = c; rw [e0]
        have e2 : (rd_colour t).1 = if c < 12 then t1 else tp_fail t1 3 (t 3 3) := by unfold rd_colour; rw [e0]
        rw [e1, e2]
        refine hy_iload (i := 8) rfl rfl ?_
        refine hy_const (i := 9) rfl (by decide) ?_
        refine hy_ic_ge (i := 10) (tt := 31) rfl (fun zc1 => ?_) (fun zc1 => ?_)
        · omega
        · refine hy_aload (i := 11) rfl rfl ?_
          refine hy_getr (i := 12) rfl rfl ?_
          refine hy_cV0e (i := 13) rfl mj_T_next (by decide) rfl (Nat.le_of_ble_eq_true rfl) rfl rfl rfl (c_T_next (tp_ok.e (by assumption))) ?_
          refine hy_cS1e (i := 14) rfl (by decide) mj_W_isDigit (by decide) rfl (Nat.le_of_ble_eq_true rfl) (c_W_isDigit) ?_
          refine hy_ib_eq (i := 15) (tt := 31) rfl (fun zc2 => ?_) (fun zc2 => ?_)
          · refine hy_iload (i := 31) rfl rfl ?_
            refine hy_const (i := 32) rfl (by decide) ?_
            refine hy_ic_lt (i := 33) (tt := 39) rfl (fun zc3 => ?_) (fun zc3 => ?_)
            · refine hy_iload (i := 39) rfl rfl ?_
              refine hy_ireturn (i := 40) rfl rfl ?_
              first | (rw [if_pos (by omega)]; exact ⟨rfl, rfl⟩) | (rw [if_neg (by omega)]; exact ⟨rfl, rfl⟩)
            · refine hy_aload (i := 34) rfl rfl ?_
              refine hy_getr (i := 35) rfl rfl ?_
              refine hy_const (i := 36) rfl (by decide) ?_
              refine hy_iload (i := 37) rfl rfl ?_
              refine hy_cV2v (i := 38) rfl mj_T_failAt (by decide) rfl (Nat.le_of_ble_eq_true rfl) rfl rfl rfl (c_T_failAt (by decide) (by omega)) ?_
              refine hy_iload (i := 39) rfl rfl ?_
              refine hy_ireturn (i := 40) rfl rfl ?_
              first | (rw [if_pos (by omega)]; exact ⟨rfl, rfl⟩) | (rw [if_neg (by omega)]; exact ⟨rfl, rfl⟩)
          · simp at zc2; omega
  refine hy_aload (i := 0) rfl rfl ?_
  refine hy_getr (i := 1) rfl rfl ?_
  refine hy_cV0e (i := 2) rfl mj_T_place (by decide) rfl (Nat.le_of_ble_eq_true rfl) rfl rfl rfl (c_T_place) ?_
  refine hy_istore (i := 3) rfl ?_
  refine hy_const (i := 4) rfl (by decide) ?_
  refine hy_istore (i := 5) rfl ?_
  refine hy_const (i := 6) rfl (by decide) ?_
  refine hy_istore (i := 7) rfl ?_
  exact loop 2 0 0 _ rfl (by decide) h rfl
theorem c_N_readQuarters (h : tp_ok t) : hy_Ct sc hm_N_readQuarters 1 [.inr (some 27)] t (hy_e (some (rd_quarters t).2) (rd_quarters t).1) := by
  refine hy_mk_ct ok_N_readQuarters ck_N_readQuarters (Nat.le_of_ble_eq_true rfl) ?_
  have loop : ∀ (n : Nat), ∀ (k : Nat) (b : Int) (t1 : hy_T) (v3 : hy_V), n + k = 5 → tp_ok t1 → rd_quartersN n t1 b = rd_quarters t → hy_W sc hm_N_readQuarters 1 4 [.inr (some 27), .inl b, .inl (k : Int), v3] [] t1 (hy_e (some (rd_quarters t).2) (rd_quarters t).1) := by
    intro n
    induction n with
    | zero =>
      intro k b t1 v3 hn h1 he
      obtain rfl : k = 5 := by omega
      rw [← he]
      have e2 : (rd_quartersN 0 t1 b).1 = if b = 0 then tp_fail t1 1 (t1 3 3) else t1 := rfl
      rw [e2]
      refine hy_iload (i := 4) rfl rfl ?_
      refine hy_const (i := 5) rfl (by decide) ?_
      refine hy_ic_gt (i := 6) (tt := 41) rfl (fun zc1 => ?_) (fun zc1 => ?_)
      · refine hy_iload (i := 41) rfl rfl ?_
        refine hy_if_ne (i := 42) (tt := 47) rfl (fun zc2 => ?_) (fun zc2 => ?_)
        · refine hy_iload (i := 47) rfl rfl ?_
          refine hy_ireturn (i := 48) rfl rfl ?_
          first | (rw [if_pos (by omega)]; exact ⟨rfl, rfl⟩) | (rw [if_neg (by omega)]; exact ⟨rfl, rfl⟩)
        · refine hy_aload (i := 43) rfl rfl ?_
          refine hy_getr (i := 44) rfl rfl ?_
          refine hy_const (i := 45) rfl (by decide) ?_
          refine hy_cV1v (i := 46) rfl mj_T_fail (by decide) rfl (Nat.le_of_ble_eq_true rfl) rfl rfl rfl (c_T_fail (by decide) (by have := tp_ok.p (by assumption); omega)) ?_
          refine hy_iload (i := 47) rfl rfl ?_
          refine hy_ireturn (i := 48) rfl rfl ?_
          first | (rw [if_pos (by omega)]; exact ⟨rfl, rfl⟩) | (rw [if_neg (by omega)]; exact ⟨rfl, rfl⟩)
      · omega
    | succ n ih =>
      intro k b t1 v3 hn h1 he
      have hx := tp_next_in h1
      by_cases hd : 0 ≤ tp_next t1 - 48 ∧ tp_next t1 - 48 < 4
      · by_cases hs : hz_ishr b (tp_next t1 - 48) = 0
        · skip
          refine hy_iload (i := 4) rfl rfl ?_
          refine hy_const (i := 5) rfl (by decide) ?_
          refine hy_ic_gt (i := 6) (tt := 41) rfl (fun zc1 => ?_) (fun zc1 => ?_)
          · omega
          · refine hy_aload (i := 7) rfl rfl ?_
            refine hy_getr (i := 8) rfl rfl ?_
            refine hy_cV0e (i := 9) rfl mj_T_next (by decide) rfl (Nat.le_of_ble_eq_true rfl) rfl rfl rfl (c_T_next (tp_ok.e (by assumption))) ?_
            refine hy_const (i := 10) rfl (by decide) ?_
            refine hy_isub (i := 11) rfl (by omega) ?_
            refine hy_cS1e (i := 12) rfl (by decide) mj_W_isQuarter (by decide) rfl (Nat.le_of_ble_eq_true rfl) (c_W_isQuarter) ?_
            refine hy_ib_eq (i := 13) (tt := 41) rfl (fun zc2 => ?_) (fun zc2 => ?_)
            · simp at zc2; omega
            · refine hy_aload (i := 14) rfl rfl ?_
              refine hy_getr (i := 15) rfl rfl ?_
              refine hy_cV0e (i := 16) rfl mj_T_next (by decide) rfl (Nat.le_of_ble_eq_true rfl) rfl rfl rfl (c_T_next (tp_ok.e (by assumption))) ?_
              refine hy_const (i := 17) rfl (by decide) ?_
              refine hy_isub (i := 18) rfl (by omega) ?_
              refine hy_istore (i := 19) rfl ?_
              refine hy_iload (i := 20) rfl rfl ?_
              refine hy_iload (i := 21) rfl rfl ?_
              refine hy_ishr (i := 22) rfl ?_
              refine hy_if_eq (i := 23) (tt := 30) rfl (fun zc3 => ?_) (fun zc3 => ?_)
              · refine hy_iload (i := 30) rfl rfl ?_
                refine hy_const (i := 31) rfl (by decide) ?_
                refine hy_iload (i := 32) rfl rfl ?_
                refine hy_ishl (i := 33) rfl ?_
                refine hy_ior (i := 34) rfl ?_
                refine hy_istore (i := 35) rfl ?_
                refine hy_aload (i := 36) rfl rfl ?_
                refine hy_getr (i := 37) rfl rfl ?_
                refine hy_cV0v (i := 38) rfl mj_T_step (by decide) rfl (Nat.le_of_ble_eq_true rfl) rfl rfl rfl (c_T_step (by have := tp_ok.p (by assumption); omega)) ?_
                refine hy_iinc (i := 39) rfl rfl (by omega) ?_
                refine hy_goto (i := 40) (tt := 4) rfl ?_
                exact ih (k + 1) _ _ _ (by omega) (tp_step_ok h1 (by omega)) (by rw [← he]; simp only [rd_quartersN]; rw [if_pos hd, if_pos hs]; rfl)
              · omega
        · have e0 : rd_quarters t = (tp_fail t1 6 (t1 3 3), b) := by rw [← he]; simp only [rd_quartersN]; rw [if_pos hd, if_neg hs]
          rw [e0]
          refine hy_iload (i := 4) rfl rfl ?_
          refine hy_const (i := 5) rfl (by decide) ?_
          refine hy_ic_gt (i := 6) (tt := 41) rfl (fun zc1 => ?_) (fun zc1 => ?_)
          · omega
          · refine hy_aload (i := 7) rfl rfl ?_
            refine hy_getr (i := 8) rfl rfl ?_
            refine hy_cV0e (i := 9) rfl mj_T_next (by decide) rfl (Nat.le_of_ble_eq_true rfl) rfl rfl rfl (c_T_next (tp_ok.e (by assumption))) ?_
            refine hy_const (i := 10) rfl (by decide) ?_
            refine hy_isub (i := 11) rfl (by omega) ?_
            refine hy_cS1e (i := 12) rfl (by decide) mj_W_isQuarter (by decide) rfl (Nat.le_of_ble_eq_true rfl) (c_W_isQuarter) ?_
            refine hy_ib_eq (i := 13) (tt := 41) rfl (fun zc2 => ?_) (fun zc2 => ?_)
            · simp at zc2; omega
            · refine hy_aload (i := 14) rfl rfl ?_
              refine hy_getr (i := 15) rfl rfl ?_
              refine hy_cV0e (i := 16) rfl mj_T_next (by decide) rfl (Nat.le_of_ble_eq_true rfl) rfl rfl rfl (c_T_next (tp_ok.e (by assumption))) ?_
              refine hy_const (i := 17) rfl (by decide) ?_
              refine hy_isub (i := 18) rfl (by omega) ?_
              refine hy_istore (i := 19) rfl ?_
              refine hy_iload (i := 20) rfl rfl ?_
              refine hy_iload (i := 21) rfl rfl ?_
              refine hy_ishr (i := 22) rfl ?_
              refine hy_if_eq (i := 23) (tt := 30) rfl (fun zc3 => ?_) (fun zc3 => ?_)
              · omega
              · refine hy_aload (i := 24) rfl rfl ?_
                refine hy_getr (i := 25) rfl rfl ?_
                refine hy_const (i := 26) rfl (by decide) ?_
                refine hy_cV1v (i := 27) rfl mj_T_fail (by decide) rfl (Nat.le_of_ble_eq_true rfl) rfl rfl rfl (c_T_fail (by decide) (by have := tp_ok.p (by assumption); omega)) ?_
                refine hy_iload (i := 28) rfl rfl ?_
                refine hy_ireturn (i := 29) rfl rfl ?_
                exact ⟨rfl, rfl⟩
      · have e0 : rd_quarters t = rd_quartersE t1 b := by rw [← he]; simp only [rd_quartersN]; rw [if_neg hd]
        rw [e0]
        have e2 : (rd_quartersE t1 b).1 = if b = 0 then tp_fail t1 1 (t1 3 3) else t1 := rfl
        rw [e2]
        refine hy_iload (i := 4) rfl rfl ?_
        refine hy_const (i := 5) rfl (by decide) ?_
        refine hy_ic_gt (i := 6) (tt := 41) rfl (fun zc1 => ?_) (fun zc1 => ?_)
        · omega
        · refine hy_aload (i := 7) rfl rfl ?_
          refine hy_getr (i := 8) rfl rfl ?_
          refine hy_cV0e (i := 9) rfl mj_T_next (by decide) rfl (Nat.le_of_ble_eq_true rfl) rfl rfl rfl (c_T_next (tp_ok.e (by assumption))) ?_
          refine hy_const (i := 10) rfl (by decide) ?_
          refine hy_isub (i := 11) rfl (by omega) ?_
          refine hy_cS1e (i := 12) rfl (by decide) mj_W_isQuarter (by decide) rfl (Nat.le_of_ble_eq_true rfl) (c_W_isQuarter) ?_
          refine hy_ib_eq (i := 13) (tt := 41) rfl (fun zc2 => ?_) (fun zc2 => ?_)
          · refine hy_iload (i := 41) rfl rfl ?_
            refine hy_if_ne (i := 42) (tt := 47) rfl (fun zc3 => ?_) (fun zc3 => ?_)
            · refine hy_iload (i := 47) rfl rfl ?_
              refine hy_ireturn (i := 48) rfl rfl ?_
              first | (rw [if_pos (by omega)]; exact ⟨rfl, rfl⟩) | (rw [if_neg (by omega)]; exact ⟨rfl, rfl⟩)
            · refine hy_aload (i := 43) rfl rfl ?_
              refine hy_getr (i := 44) rfl rfl ?_
              refine hy_const (i := 45) rfl (by decide) ?_
              refine hy_cV1v (i := 46) rfl mj_T_fail (by decide) rfl (Nat.le_of_ble_eq_true rfl) rfl rfl rfl (c_T_fail (by decide) (by have := tp_ok.p (by assumption); omega)) ?_
              refine hy_iload (i := 47) rfl rfl ?_
              refine hy_ireturn (i := 48) rfl rfl ?_
              first | (rw [if_pos (by omega)]; exact ⟨rfl, rfl⟩) | (rw [if_neg (by omega)]; exact ⟨rfl, rfl⟩)
          · simp at zc2; omega
  refine hy_const (i := 0) rfl (by decide) ?_
  refine hy_istore (i := 1) rfl ?_
  refine hy_const (i := 2) rfl (by decide) ?_
  refine hy_istore (i := 3) rfl ?_
  exact loop 5 0 0 _ _ rfl h rfl
end RL
/-! the class's lines: a line, and all of them -/
theorem hz_08 : (0 : Int) ≤ 0 ∧ (0 : Int) ≤ 8 := by decide
abbrev lnX : Nat → Nat → Bool := fun r j => (r == 3 && (j == 2 || j == 3 || j == 4)) || r == 28 || r == 29 || r == 30 || r == 31 || r == 32 || (r == 27 && j == 6)
theorem lnX_tp {t t1 : hy_T} (h : hy_F tpX t t1) : hy_F lnX t t1 := h.w (fun r j q => by revert q; simp [tpX, lnX]; omega)
def rd_g2 (t : hy_T) : hy_T := tp_take (hy_up (rd_colour t).1 28 (t 27 6).toNat (rd_colour t).2) 64
def rd_g3 (t : hy_T) : hy_T := hy_up (rd_quarters t).1 29 (t 27 6).toNat (rd_quarters t).2
def rd_g4 (t : hy_T) : hy_T := hy_up (rd_sign t).1 30 (t 27 6).toNat (rd_sign t).2
def rd_g5 (t : hy_T) : hy_T := hy_up (rd_empire t (-1)).1 31 (t 27 6).toNat (rd_empire t (-1)).2
def rd_g6 (t : hy_T) : hy_T := hy_up (hy_up (rd_empire t (t 31 (t 27 6).toNat)).1 32 (t 27 6).toNat (rd_empire t (t 31 (t 27 6).toNat)).2) 27 6 (t 27 6 + 1)
def rd_line (t : hy_T) : hy_T :=
  if 48 ≤ tp_next t ∧ tp_next t ≤ 57 then
    (if t 27 6 < 8 then rd_g6 (rd_g5 (rd_g4 (rd_g3 (rd_g2 t)))) else tp_fail t 4 (t 3 3))
  else tp_fail t 1 (t 3 3)
theorem tp_ok_up {t : hy_T} (h : tp_ok t) {r j : Nat} {v : Int} (hr : (r == 3 || r == 4) = false) : tp_ok (hy_up t r j v) :=
  tp_ok_F (X := fun x _ => x == r) (hy_F.rf.up (by simp)) (fun _ => by simp at hr ⊢; omega) (fun _ => by simp at hr ⊢; omega) h
theorem rd_g2_s {t : hy_T} (h : tp_ok t) : tp_ok (rd_g2 t) ∧ hy_F lnX t (rd_g2 t) ∧ rd_g2 t 27 6 = t 27 6 := by
  obtain ⟨h1, h2⟩ := rd_colour_s h
  refine ⟨tp_take_ok (tp_ok_up h1 rfl) (by decide), ((lnX_tp h2).up rfl).tr' (lnX_tp (tp_take_F _ _)), ?_⟩
  show tp_take (hy_up (rd_colour t).1 28 (t 27 6).toNat (rd_colour t).2) 64 27 6 = _
  rw [tp_take_F _ _ 27 6 rfl]
  exact h2 27 6 rfl
theorem rd_g3_s {t : hy_T} (h : tp_ok t) : tp_ok (rd_g3 t) ∧ hy_F lnX t (rd_g3 t) ∧ rd_g3 t 27 6 = t 27 6 := by
  obtain ⟨h1, h2⟩ := rd_quartersN_s 5 (b := 0) h
  exact ⟨tp_ok_up h1 rfl, (lnX_tp h2).up rfl, h2 27 6 rfl⟩
theorem rd_g4_s {t : hy_T} (h : tp_ok t) : tp_ok (rd_g4 t) ∧ hy_F lnX t (rd_g4 t) ∧ rd_g4 t 27 6 = t 27 6 := by
  obtain ⟨h1, h2⟩ := rd_sign_s h
  exact ⟨tp_ok_up h1 rfl, (lnX_tp h2).up rfl, h2 27 6 rfl⟩
theorem rd_g5_s {t : hy_T} (h : tp_ok t) : tp_ok (rd_g5 t) ∧ hy_F lnX t (rd_g5 t) ∧ rd_g5 t 27 6 = t 27 6 := by
  obtain ⟨h1, h2⟩ := rd_empire_s h (-1)
  exact ⟨tp_ok_up h1 rfl, (lnX_tp h2).up rfl, h2 27 6 rfl⟩
theorem rd_g6_s {t : hy_T} (h : tp_ok t) : tp_ok (rd_g6 t) ∧ hy_F lnX t (rd_g6 t) ∧ rd_g6 t 27 6 = t 27 6 + 1 := by
  obtain ⟨h1, h2⟩ := rd_empire_s h (t 31 (t 27 6).toNat)
  exact ⟨tp_ok_up (tp_ok_up h1 rfl) rfl, ((lnX_tp h2).up rfl).up rfl, rfl⟩
theorem rd_line_s {t : hy_T} (h : tp_ok t) (hl : 0 ≤ t 27 6 ∧ t 27 6 ≤ 8) : tp_ok (rd_line t) ∧ hy_F lnX t (rd_line t) ∧ 0 ≤ rd_line t 27 6 ∧ rd_line t 27 6 ≤ 8 := by
  unfold rd_line
  split
  · split
    · obtain ⟨a1, a2, a3⟩ := rd_g2_s h
      obtain ⟨b1, b2, b3⟩ := rd_g3_s a1
      obtain ⟨c1, c2, c3⟩ := rd_g4_s b1
      obtain ⟨d1, d2, d3⟩ := rd_g5_s c1
      obtain ⟨e1, e2, e3⟩ := rd_g6_s d1
      exact ⟨e1, (((a2.tr' b2).tr' c2).tr' d2).tr' e2, by omega, by omega⟩
    · have f := tp_fail_G t 4 (t 3 3)
      exact ⟨tp_fail_ok h _ _, lnX_tp f, by rw [f 27 6 rfl]; exact hl.1, by rw [f 27 6 rfl]; exact hl.2⟩
  · have f := tp_fail_G t 1 (t 3 3)
    exact ⟨tp_fail_ok h _ _, lnX_tp f, by rw [f 27 6 rfl]; exact hl.1, by rw [f 27 6 rfl]; exact hl.2⟩
def rd_linesN : Nat → hy_T → hy_T
  | 0, t => t
  | n + 1, t => if tp_next t = 44 then rd_linesN n (rd_line (tp_step t)) else t
def tp_start (t : hy_T) (n : Int) : hy_T := hy_up (hy_up (hy_up t 3 2 (if t 3 1 < n then t 3 1 else n)) 3 3 0) 3 4 0
def rd_lines (t : hy_T) (n : Int) : hy_T := tp_finish (rd_linesN 8 (rd_line (hy_up (tp_start t n) 27 6 0)))
theorem tp_start_ok {t : hy_T} (h : tp_ok t) (n : Int) : tp_ok (tp_start t n) := by
  have h1 := h.l
  refine ⟨h.b, h.l, ?_, by simp [tp_start, hy_up]⟩
  show (if t 3 1 < n then t 3 1 else n) ≤ 260
  split <;> omega
theorem rd_linesN_s : ∀ (n : Nat) {t : hy_T}, tp_ok t → (0 ≤ t 27 6 ∧ t 27 6 ≤ 8) → tp_ok (rd_linesN n t) ∧ hy_F lnX t (rd_linesN n t) ∧ 0 ≤ rd_linesN n t 27 6 ∧ rd_linesN n t 27 6 ≤ 8
  | 0, t, h, hl => ⟨h, hy_F.rf, hl⟩
  | n + 1, t, h, hl => by
    simp only [rd_linesN]
    split
    · obtain ⟨a1, a2, a3⟩ := rd_line_s (tp_step_ok h (by omega)) (show 0 ≤ tp_step t 27 6 ∧ tp_step t 27 6 ≤ 8 from hl)
      obtain ⟨b1, b2, b3⟩ := rd_linesN_s n a1 a3
      exact ⟨b1, ((lnX_tp (tp_step_F t)).tr' a2).tr' b2, b3⟩
    · exact ⟨h, hy_F.rf, hl⟩
theorem rd_lines_s {t : hy_T} (h : tp_ok t) (n : Int) : tp_ok (rd_lines t n) ∧ hy_F lnX t (rd_lines t n) ∧ 0 ≤ rd_lines t n 27 6 ∧ rd_lines t n 27 6 ≤ 8 := by
  obtain ⟨a1, a2, a3⟩ := rd_line_s (t := hy_up (tp_start t n) 27 6 0) (tp_ok_up (tp_start_ok h n) rfl) hz_08
  obtain ⟨b1, b2, b3⟩ := rd_linesN_s 8 a1 a3
  have f := tp_finish_F (rd_linesN 8 (rd_line (hy_up (tp_start t n) 27 6 0)))
  refine ⟨tp_finish_ok b1, ((((((hy_F.rf.up rfl).up rfl).up rfl).up rfl : hy_F lnX t (hy_up (tp_start t n) 27 6 0)).tr' a2).tr' b2).tr' (lnX_tp f), ?_⟩
  unfold rd_lines
  rw [f 27 6 rfl]
  exact b3
section RM
variable {sc : List Int32} {t : hy_T}
theorem c_N_readLine (h : tp_ok t) (hl : 0 ≤ t 27 6 ∧ t 27 6 ≤ 8) : hy_Ct sc hm_N_readLine 3 [.inr (some 27)] t (hy_e none (rd_line t)) := by
  refine hy_mk_ct ok_N_readLine ck_N_readLine (Nat.le_of_ble_eq_true rfl) ?_
  have s6 : ∀ t1 : hy_T, tp_ok t1 → (0 ≤ t1 27 6 ∧ t1 27 6 < 8) → rd_g6 t1 = rd_line t → hy_W sc hm_N_readLine 3 52 [.inr (some 27)] [] t1 (hy_e none (rd_line t)) := by
    intro t1 h1 hl1 he
    rw [← he]
    have hE : ∀ v, hy_up (rd_empire t1 (t1 31 (t1 27 6).toNat)).1 32 (t1 27 6).toNat v 27 6 = t1 27 6 := fun v => (rd_empire_s h1 _).2 27 6 rfl
    refine hy_aload (i := 52) rfl rfl ?_
    refine hy_getr (i := 53) rfl rfl ?_
    refine hy_aload (i := 54) rfl rfl ?_
    refine hy_get (i := 55) (fk := 6) rfl rfl rfl ?_
    refine hy_aload (i := 56) rfl rfl ?_
    refine hy_aload (i := 57) rfl rfl ?_
    refine hy_getr (i := 58) rfl rfl ?_
    refine hy_aload (i := 59) rfl rfl ?_
    refine hy_get (i := 60) (fk := 6) rfl rfl rfl ?_
    refine hy_iald (i := 61) rfl rfl (by omega) rfl ?_
    refine hy_cV1e (i := 62) rfl mj_N_readEmpire (by decide) rfl (Nat.le_of_ble_eq_true rfl) rfl rfl rfl (c_N_readEmpire (by assumption)) ?_
    refine hy_iast (i := 63) rfl rfl (by omega) rfl ?_
    refine hy_aload (i := 64) rfl rfl ?_
    refine hy_dup (i := 65) rfl ?_
    refine hy_get (i := 66) (fk := 6) rfl rfl rfl ?_
    refine hy_const (i := 67) rfl (by decide) ?_
    rw [hE]
    refine hy_iadd (i := 68) rfl (by omega) ?_
    refine hy_put (i := 69) (fk := 6) rfl rfl rfl rfl ?_
    refine hy_return (i := 70) rfl rfl ?_
    exact ⟨rfl, rfl⟩
  have s5 : ∀ t1 : hy_T, tp_ok t1 → (0 ≤ t1 27 6 ∧ t1 27 6 < 8) → rd_g6 (rd_g5 t1) = rd_line t → hy_W sc hm_N_readLine 3 44 [.inr (some 27)] [] t1 (hy_e none (rd_line t)) := by
    intro t1 h1 hl1 he
    obtain ⟨a1, a2, a3⟩ := rd_g5_s h1
    refine hy_aload (i := 44) rfl rfl ?_
    refine hy_getr (i := 45) rfl rfl ?_
    refine hy_aload (i := 46) rfl rfl ?_
    refine hy_get (i := 47) (fk := 6) rfl rfl rfl ?_
    refine hy_aload (i := 48) rfl rfl ?_
    refine hy_const (i := 49) rfl (by decide) ?_
    refine hy_cV1e (i := 50) rfl mj_N_readEmpire (by decide) rfl (Nat.le_of_ble_eq_true rfl) rfl rfl rfl (c_N_readEmpire (by assumption)) ?_
    refine hy_iast (i := 51) rfl rfl (by omega) rfl ?_
    exact s6 (rd_g5 t1) a1 (by omega) he
  have s4 : ∀ t1 : hy_T, tp_ok t1 → (0 ≤ t1 27 6 ∧ t1 27 6 < 8) → rd_g6 (rd_g5 (rd_g4 t1)) = rd_line t → hy_W sc hm_N_readLine 3 37 [.inr (some 27)] [] t1 (hy_e none (rd_line t)) := by
    intro t1 h1 hl1 he
    obtain ⟨a1, a2, a3⟩ := rd_g4_s h1
    refine hy_aload (i := 37) rfl rfl ?_
    refine hy_getr (i := 38) rfl rfl ?_
    refine hy_aload (i := 39) rfl rfl ?_
    refine hy_get (i := 40) (fk := 6) rfl rfl rfl ?_
    refine hy_aload (i := 41) rfl rfl ?_
    refine hy_cV0e (i := 42) rfl mj_N_readSign (by decide) rfl (Nat.le_of_ble_eq_true rfl) rfl rfl rfl (c_N_readSign (by assumption)) ?_
    refine hy_iast (i := 43) rfl rfl (by omega) rfl ?_
    exact s5 (rd_g4 t1) a1 (by omega) he
  have s3 : ∀ t1 : hy_T, tp_ok t1 → (0 ≤ t1 27 6 ∧ t1 27 6 < 8) → rd_g6 (rd_g5 (rd_g4 (rd_g3 t1))) = rd_line t → hy_W sc hm_N_readLine 3 30 [.inr (some 27)] [] t1 (hy_e none (rd_line t)) := by
    intro t1 h1 hl1 he
    obtain ⟨a1, a2, a3⟩ := rd_g3_s h1
    refine hy_aload (i := 30) rfl rfl ?_
    refine hy_getr (i := 31) rfl rfl ?_
    refine hy_aload (i := 32) rfl rfl ?_
    refine hy_get (i := 33) (fk := 6) rfl rfl rfl ?_
    refine hy_aload (i := 34) rfl rfl ?_
    refine hy_cV0e (i := 35) rfl mj_N_readQuarters (by decide) rfl (Nat.le_of_ble_eq_true rfl) rfl rfl rfl (c_N_readQuarters (by assumption)) ?_
    refine hy_iast (i := 36) rfl rfl (by omega) rfl ?_
    exact s4 (rd_g3 t1) a1 (by omega) he
  have hc1 : tp_ok (hy_up (rd_colour t).1 28 (t 27 6).toNat (rd_colour t).2) := tp_ok_up (rd_colour_s h).1 rfl
  obtain ⟨a1, a2, a3⟩ := rd_g2_s h
  refine hy_aload (i := 0) rfl rfl ?_
  refine hy_getr (i := 1) rfl rfl ?_
  refine hy_cV0e (i := 2) rfl mj_T_next (by decide) rfl (Nat.le_of_ble_eq_true rfl) rfl rfl rfl (c_T_next (tp_ok.e (by assumption))) ?_
  refine hy_cS1e (i := 3) rfl (by decide) mj_W_isDigit (by decide) rfl (Nat.le_of_ble_eq_true rfl) (c_W_isDigit) ?_
  refine hy_ib_ne (i := 4) (tt := 10) rfl (fun zc1 => ?_) (fun zc1 => ?_)
  · refine hy_aload (i := 10) rfl rfl ?_
    refine hy_get (i := 11) (fk := 6) rfl rfl rfl ?_
    refine hy_const (i := 12) rfl (by decide) ?_
    refine hy_ic_lt (i := 13) (tt := 19) rfl (fun zc2 => ?_) (fun zc2 => ?_)
    · refine hy_aload (i := 19) rfl rfl ?_
      refine hy_getr (i := 20) rfl rfl ?_
      refine hy_aload (i := 21) rfl rfl ?_
      refine hy_get (i := 22) (fk := 6) rfl rfl rfl ?_
      refine hy_aload (i := 23) rfl rfl ?_
      refine hy_cV0e (i := 24) rfl mj_N_readColour (by decide) rfl (Nat.le_of_ble_eq_true rfl) rfl rfl rfl (c_N_readColour (by assumption)) ?_
      refine hy_iast (i := 25) rfl rfl (by omega) rfl ?_
      refine hy_aload (i := 26) rfl rfl ?_
      refine hy_getr (i := 27) rfl rfl ?_
      refine hy_const (i := 28) rfl (by decide) ?_
      refine hy_cV1v (i := 29) rfl mj_T_take (by decide) rfl (Nat.le_of_ble_eq_true rfl) rfl rfl rfl (c_T_take hc1.e (by have := hc1.p; omega)) ?_
      exact s3 (rd_g2 t) a1 (by omega) (by simp at zc1; unfold rd_line; rw [if_pos zc1, if_pos (by omega)])
    · refine hy_aload (i := 14) rfl rfl ?_
      refine hy_getr (i := 15) rfl rfl ?_
      refine hy_const (i := 16) rfl (by decide) ?_
      refine hy_cV1v (i := 17) rfl mj_T_fail (by decide) rfl (Nat.le_of_ble_eq_true rfl) rfl rfl rfl (c_T_fail (by decide) (by have := tp_ok.p (by assumption); omega)) ?_
      refine hy_return (i := 18) rfl rfl ?_
      refine ⟨rfl, ?_⟩
      simp at zc1
      unfold rd_line
      first | (rw [if_neg (show ¬ (48 ≤ tp_next t ∧ tp_next t ≤ 57) by omega)]; done) | (rw [if_pos (show 48 ≤ tp_next t ∧ tp_next t ≤ 57 by omega), if_neg (by omega)]; done)
  · refine hy_aload (i := 5) rfl rfl ?_
    refine hy_getr (i := 6) rfl rfl ?_
    refine hy_const (i := 7) rfl (by decide) ?_
    refine hy_cV1v (i := 8) rfl mj_T_fail (by decide) rfl (Nat.le_of_ble_eq_true rfl) rfl rfl rfl (c_T_fail (by decide) (by have := tp_ok.p (by assumption); omega)) ?_
    refine hy_return (i := 9) rfl rfl ?_
    refine ⟨rfl, ?_⟩
    simp at zc1
    unfold rd_line
    first | (rw [if_neg (show ¬ (48 ≤ tp_next t ∧ tp_next t ≤ 57) by omega)]; done) | (rw [if_pos (show 48 ≤ tp_next t ∧ tp_next t ≤ 57 by omega), if_neg (by omega)]; done)
theorem c_N_read {n : Int} (h : tp_ok t) : hy_Ct sc hm_N_read 4 [.inr (some 27), .inl n] t (hy_e (some (rd_lines t n 3 4)) (rd_lines t n)) := by
  refine hy_mk_ct ok_N_read ck_N_read (Nat.le_of_ble_eq_true rfl) ?_
  have loop : ∀ (m : Nat), ∀ (k : Nat) (t1 : hy_T), m + k = 8 → tp_ok t1 → (0 ≤ t1 27 6 ∧ t1 27 6 ≤ 8) → tp_finish (rd_linesN m t1) = rd_lines t n → hy_W sc hm_N_read 4 11 [.inr (some 27), .inl n, .inl (k : Int)] [] t1 (hy_e (some (rd_lines t n 3 4)) (rd_lines t n)) := by
    intro m
    induction m with
    | zero =>
      intro k t1 hn h1 hl1 he
      obtain rfl : k = 8 := by omega
      rw [← he]
      refine hy_iload (i := 11) rfl rfl ?_
      refine hy_const (i := 12) rfl (by decide) ?_
      refine hy_ic_ge (i := 13) (tt := 26) rfl (fun zc1 => ?_) (fun zc1 => ?_)
      · refine hy_aload (i := 26) rfl rfl ?_
        refine hy_getr (i := 27) rfl rfl ?_
        refine hy_cV0v (i := 28) rfl mj_T_finish (by decide) rfl (Nat.le_of_ble_eq_true rfl) rfl rfl rfl (c_T_finish (by have := tp_ok.p (by assumption); omega)) ?_
        refine hy_aload (i := 29) rfl rfl ?_
        refine hy_getr (i := 30) rfl rfl ?_
        refine hy_cV0e (i := 31) rfl mj_T_fault (by decide) rfl (Nat.le_of_ble_eq_true rfl) rfl rfl rfl (c_T_fault) ?_
        refine hy_ireturn (i := 32) rfl rfl ?_
        exact ⟨rfl, rfl⟩
      · omega
    | succ m ih =>
      intro k t1 hn h1 hl1 he
      by_cases hd : tp_next t1 = 44
      · obtain ⟨a1, a2, a3⟩ := rd_line_s (tp_step_ok h1 (by omega)) (show 0 ≤ tp_step t1 27 6 ∧ tp_step t1 27 6 ≤ 8 from hl1)
        have e : rd_linesN (m + 1) t1 = rd_linesN m (rd_line (tp_step t1)) := by simp only [rd_linesN]; rw [if_pos hd]
        rw [e] at he
        refine hy_iload (i := 11) rfl rfl ?_
        refine hy_const (i := 12) rfl (by decide) ?_
        refine hy_ic_ge (i := 13) (tt := 26) rfl (fun zc1 => ?_) (fun zc1 => ?_)
        · omega
        · refine hy_aload (i := 14) rfl rfl ?_
          refine hy_getr (i := 15) rfl rfl ?_
          refine hy_cV0e (i := 16) rfl mj_T_next (by decide) rfl (Nat.le_of_ble_eq_true rfl) rfl rfl rfl (c_T_next (tp_ok.e (by assumption))) ?_
          refine hy_const (i := 17) rfl (by decide) ?_
          refine hy_ic_ne (i := 18) (tt := 26) rfl (fun zc2 => ?_) (fun zc2 => ?_)
          · omega
          · refine hy_aload (i := 19) rfl rfl ?_
            refine hy_getr (i := 20) rfl rfl ?_
            refine hy_cV0v (i := 21) rfl mj_T_step (by decide) rfl (Nat.le_of_ble_eq_true rfl) rfl rfl rfl (c_T_step (by have := tp_ok.p (by assumption); omega)) ?_
            refine hy_aload (i := 22) rfl rfl ?_
            refine hy_cV0v (i := 23) rfl mj_N_readLine (by decide) rfl (Nat.le_of_ble_eq_true rfl) rfl rfl rfl (c_N_readLine (tp_step_ok h1 (by omega)) hl1) ?_
            refine hy_iinc (i := 24) rfl rfl (by omega) ?_
            refine hy_goto (i := 25) (tt := 11) rfl ?_
            exact ih (k + 1) _ (by omega) a1 a3 he
      · have e : rd_linesN (m + 1) t1 = t1 := by simp only [rd_linesN]; rw [if_neg hd]
        rw [e] at he
        rw [← he]
        refine hy_iload (i := 11) rfl rfl ?_
        refine hy_const (i := 12) rfl (by decide) ?_
        refine hy_ic_ge (i := 13) (tt := 26) rfl (fun zc1 => ?_) (fun zc1 => ?_)
        · omega
        · refine hy_aload (i := 14) rfl rfl ?_
          refine hy_getr (i := 15) rfl rfl ?_
          refine hy_cV0e (i := 16) rfl mj_T_next (by decide) rfl (Nat.le_of_ble_eq_true rfl) rfl rfl rfl (c_T_next (tp_ok.e (by assumption))) ?_
          refine hy_const (i := 17) rfl (by decide) ?_
          refine hy_ic_ne (i := 18) (tt := 26) rfl (fun zc2 => ?_) (fun zc2 => ?_)
          · refine hy_aload (i := 26) rfl rfl ?_
            refine hy_getr (i := 27) rfl rfl ?_
            refine hy_cV0v (i := 28) rfl mj_T_finish (by decide) rfl (Nat.le_of_ble_eq_true rfl) rfl rfl rfl (c_T_finish (by have := tp_ok.p (by assumption); omega)) ?_
            refine hy_aload (i := 29) rfl rfl ?_
            refine hy_getr (i := 30) rfl rfl ?_
            refine hy_cV0e (i := 31) rfl mj_T_fault (by decide) rfl (Nat.le_of_ble_eq_true rfl) rfl rfl rfl (c_T_fault) ?_
            refine hy_ireturn (i := 32) rfl rfl ?_
            exact ⟨rfl, rfl⟩
          · omega
  have h0 : tp_ok (hy_up (tp_start t n) 27 6 0) := tp_ok_up (tp_start_ok h n) rfl
  obtain ⟨a1, a2, a3⟩ := rd_line_s h0 hz_08
  refine hy_aload (i := 0) rfl rfl ?_
  refine hy_getr (i := 1) rfl rfl ?_
  refine hy_iload (i := 2) rfl rfl ?_
  refine hy_cV1v (i := 3) rfl mj_T_start (by decide) rfl (Nat.le_of_ble_eq_true rfl) rfl rfl rfl (c_T_start) ?_
  refine hy_aload (i := 4) rfl rfl ?_
  refine hy_const (i := 5) rfl (by decide) ?_
  refine hy_put (i := 6) (fk := 6) rfl rfl rfl rfl ?_
  refine hy_aload (i := 7) rfl rfl ?_
  refine hy_cV0v (i := 8) rfl mj_N_readLine (by decide) rfl (Nat.le_of_ble_eq_true rfl) rfl rfl rfl (c_N_readLine h0 hz_08) ?_
  refine hy_const (i := 9) rfl (by decide) ?_
  refine hy_istore (i := 10) rfl ?_
  exact loop 8 0 _ rfl a1 a3 rfl
end RM
/-! the class's ground, as it is read -/
def gd_col (s : Int) : Int := if s = 46 then 12 else if 97 ≤ s ∧ s ≤ 108 then s - 97 else -1
theorem gd_col_in (s : Int) : -1 ≤ gd_col s ∧ gd_col s ≤ 12 := by
  unfold gd_col
  split
  · omega
  · split <;> omega
theorem gd_col_p {s : Int} (h : 0 ≤ gd_col s) : 0 ≤ s := by
  unfold gd_col at h
  split at h
  · omega
  · split at h <;> omega
def gd_fillN (t : hy_T) (y x c : Int) : Nat → hy_T
  | 0 => t
  | n + 1 => hy_up (gd_fillN t y x c n) 10 (8 * y + x + n).toNat c
abbrev gdX : Nat → Nat → Bool := fun r j => (r == 3 && (j == 2 || j == 3 || j == 4)) || r == 10
theorem gdX_tp {t t1 : hy_T} (h : hy_F tpX t t1) : hy_F gdX t t1 := h.w (fun r j q => by revert q; simp [tpX, gdX]; omega)
theorem gd_fillN_F (t : hy_T) (y x c : Int) : ∀ n, hy_F (fun r _ => r == 10) t (gd_fillN t y x c n)
  | 0 => hy_F.rf
  | n + 1 => (gd_fillN_F t y x c n).up rfl
def gd_tail (t : hy_T) (y x m : Int) : hy_T × Int :=
  if gd_col (tp_next t) < 0 then (tp_fail t 1 (t 3 3), 0)
  else if 8 < x + m then (tp_fail t 6 (t 3 3), 0)
  else if gd_col (tp_next t) ≠ 12 ∧ sp_told (t 5 2) (gd_col (tp_next t)) = false then (tp_fail t 7 (t 3 3), 0)
  else (gd_fillN (tp_step t) y x (gd_col (tp_next t)) m.toNat, m)
def gd_fields (t : hy_T) (y x : Int) : hy_T × Int :=
  if 48 ≤ tp_next t ∧ tp_next t ≤ 57 then
    (if 8 < x + (tp_next t - 48) then (tp_fail t 6 (t 3 3), 0) else gd_tail (tp_step t) y x (tp_next t - 48))
  else gd_tail t y x 1
theorem gd_tail_s {t : hy_T} (h : tp_ok t) {y x m : Int} (hx : 0 ≤ x ∧ x ≤ 8) (hm : 0 ≤ m) : tp_ok (gd_tail t y x m).1 ∧ hy_F gdX t (gd_tail t y x m).1 ∧ 0 ≤ (gd_tail t y x m).2 ∧ x + (gd_tail t y x m).2 ≤ 8 := by
  unfold gd_tail
  split
  · exact ⟨tp_fail_ok h _ _, gdX_tp (tp_fail_G _ _ _), by dsimp only; omega, by dsimp only; omega⟩
  · split
    · exact ⟨tp_fail_ok h _ _, gdX_tp (tp_fail_G _ _ _), by dsimp only; omega, by dsimp only; omega⟩
    · split
      · exact ⟨tp_fail_ok h _ _, gdX_tp (tp_fail_G _ _ _), by dsimp only; omega, by dsimp only; omega⟩
      · next hc _ _ =>
        have f := gd_fillN_F (tp_step t) y x (gd_col (tp_next t)) m.toNat
        exact ⟨tp_ok_F f (fun _ => rfl) (fun _ => rfl) (tp_step_ok h (gd_col_p (by omega))), (gdX_tp (tp_step_F t)).tr' (f.w (fun r j q => by revert q; simp +contextual [gdX])), hm, by dsimp only; omega⟩
theorem gd_fields_s {t : hy_T} (h : tp_ok t) {y x : Int} (hx : 0 ≤ x ∧ x ≤ 8) : tp_ok (gd_fields t y x).1 ∧ hy_F gdX t (gd_fields t y x).1 ∧ 0 ≤ (gd_fields t y x).2 ∧ x + (gd_fields t y x).2 ≤ 8 := by
  unfold gd_fields
  split
  · split
    · exact ⟨tp_fail_ok h _ _, gdX_tp (tp_fail_G _ _ _), by dsimp only; omega, by dsimp only; omega⟩
    · obtain ⟨a1, a2, a3⟩ := gd_tail_s (tp_step_ok h (by omega)) (y := y) hx (m := tp_next t - 48) (by omega)
      exact ⟨a1, (gdX_tp (tp_step_F t)).tr' a2, a3⟩
  · exact gd_tail_s h hx (by decide)
section GD
variable {sc : List Int32} {t : hy_T}
theorem c_G_colourOf {s : Int} : hy_Ct sc hm_G_colourOf 0 [.inl s] t (hy_e (some (gd_col s)) t) := by
  refine hy_mk_ct ok_G_colourOf ck_G_colourOf (Nat.le_of_ble_eq_true rfl) ?_
  refine hy_iload (i := 0) rfl rfl ?_
  refine hy_const (i := 1) rfl (by decide) ?_
  refine hy_ic_ne (i := 2) (tt := 5) rfl (fun zc1 => ?_) (fun zc1 => ?_)
  · refine hy_iload (i := 5) rfl rfl ?_
    refine hy_const (i := 6) rfl (by decide) ?_
    refine hy_ic_lt (i := 7) (tt := 15) rfl (fun zc2 => ?_) (fun zc2 => ?_)
    · refine hy_const (i := 15) rfl (by decide) ?_
      refine hy_ireturn (i := 16) rfl rfl ?_
      exact ⟨congrArg some (by unfold gd_col; first | (rw [if_pos (by omega)]; done) | (rw [if_neg (by omega)]; first | (rw [if_pos (by omega)]; done) | (rw [if_neg (by omega)]; done))), rfl⟩
    · refine hy_iload (i := 8) rfl rfl ?_
      refine hy_const (i := 9) rfl (by decide) ?_
      refine hy_ic_gt (i := 10) (tt := 15) rfl (fun zc3 => ?_) (fun zc3 => ?_)
      · refine hy_const (i := 15) rfl (by decide) ?_
        refine hy_ireturn (i := 16) rfl rfl ?_
        exact ⟨congrArg some (by unfold gd_col; first | (rw [if_pos (by omega)]; done) | (rw [if_neg (by omega)]; first | (rw [if_pos (by omega)]; done) | (rw [if_neg (by omega)]; done))), rfl⟩
      · refine hy_iload (i := 11) rfl rfl ?_
        refine hy_const (i := 12) rfl (by decide) ?_
        refine hy_isub (i := 13) rfl (by omega) ?_
        refine hy_goto (i := 14) (tt := 16) rfl ?_
        refine hy_ireturn (i := 16) rfl rfl ?_
        exact ⟨congrArg some (by unfold gd_col; first | (rw [if_pos (by omega)]; done) | (rw [if_neg (by omega)]; first | (rw [if_pos (by omega)]; done) | (rw [if_neg (by omega)]; done))), rfl⟩
  · refine hy_const (i := 3) rfl (by decide) ?_
    refine hy_ireturn (i := 4) rfl rfl ?_
    exact ⟨congrArg some (by unfold gd_col; first | (rw [if_pos (by omega)]; done) | (rw [if_neg (by omega)]; first | (rw [if_pos (by omega)]; done) | (rw [if_neg (by omega)]; done))), rfl⟩
theorem c_G_isFieldsStart {s : Int} : hy_Ct sc hm_G_isFieldsStart 1 [.inl s] t (hy_e (some (hy_b (decide ((49 ≤ s ∧ s ≤ 56) ∨ 0 ≤ gd_col s)))) t) := by
  refine hy_mk_ct ok_G_isFieldsStart ck_G_isFieldsStart (Nat.le_of_ble_eq_true rfl) ?_
  refine hy_iload (i := 0) rfl rfl ?_
  refine hy_const (i := 1) rfl (by decide) ?_
  refine hy_ic_lt (i := 2) (tt := 6) rfl (fun zc1 => ?_) (fun zc1 => ?_)
  · refine hy_iload (i := 6) rfl rfl ?_
    refine hy_cS1e (i := 7) rfl (by decide) mj_G_colourOf (by decide) rfl (Nat.le_of_ble_eq_true rfl) (c_G_colourOf) ?_
    refine hy_if_lt (i := 8) (tt := 11) rfl (fun zc2 => ?_) (fun zc2 => ?_)
    · refine hy_const (i := 11) rfl (by decide) ?_
      refine hy_zreturn (i := 12) rfl rfl (by first | decide | exact hy_b01 _) ?_
      exact ⟨congrArg some (by first | (rw [decide_eq_true (by omega)]; rfl) | (rw [decide_eq_false (by omega)]; rfl)), rfl⟩
    · refine hy_const (i := 9) rfl (by decide) ?_
      refine hy_goto (i := 10) (tt := 12) rfl ?_
      refine hy_zreturn (i := 12) rfl rfl (by first | decide | exact hy_b01 _) ?_
      exact ⟨congrArg some (by first | (rw [decide_eq_true (by omega)]; rfl) | (rw [decide_eq_false (by omega)]; rfl)), rfl⟩
  · refine hy_iload (i := 3) rfl rfl ?_
    refine hy_const (i := 4) rfl (by decide) ?_
    refine hy_ic_le (i := 5) (tt := 9) rfl (fun zc2 => ?_) (fun zc2 => ?_)
    · refine hy_const (i := 9) rfl (by decide) ?_
      refine hy_goto (i := 10) (tt := 12) rfl ?_
      refine hy_zreturn (i := 12) rfl rfl (by first | decide | exact hy_b01 _) ?_
      exact ⟨congrArg some (by first | (rw [decide_eq_true (by omega)]; rfl) | (rw [decide_eq_false (by omega)]; rfl)), rfl⟩
    · refine hy_iload (i := 6) rfl rfl ?_
      refine hy_cS1e (i := 7) rfl (by decide) mj_G_colourOf (by decide) rfl (Nat.le_of_ble_eq_true rfl) (c_G_colourOf) ?_
      refine hy_if_lt (i := 8) (tt := 11) rfl (fun zc3 => ?_) (fun zc3 => ?_)
      · refine hy_const (i := 11) rfl (by decide) ?_
        refine hy_zreturn (i := 12) rfl rfl (by first | decide | exact hy_b01 _) ?_
        exact ⟨congrArg some (by first | (rw [decide_eq_true (by omega)]; rfl) | (rw [decide_eq_false (by omega)]; rfl)), rfl⟩
      · refine hy_const (i := 9) rfl (by decide) ?_
        refine hy_goto (i := 10) (tt := 12) rfl ?_
        refine hy_zreturn (i := 12) rfl rfl (by first | decide | exact hy_b01 _) ?_
        exact ⟨congrArg some (by first | (rw [decide_eq_true (by omega)]; rfl) | (rw [decide_eq_false (by omega)]; rfl)), rfl⟩
theorem c_G_readFields {y x : Int} (h : tp_ok t) (hy : 0 ≤ y ∧ y < 8) (hx : 0 ≤ x ∧ x ≤ 8) : hy_Ct sc hm_G_readFields 2 [.inr (some 8), .inl y, .inl x] t (hy_e (some (gd_fields t y x).2) (gd_fields t y x).1) := by
  refine hy_mk_ct ok_G_readFields ck_G_readFields (Nat.le_of_ble_eq_true rfl) ?_
  have loop : ∀ (m : Int) (c : Int) (t0 : hy_T), x + m ≤ 8 → ∀ (n : Nat), ∀ (k : Nat) (t1 : hy_T), n + k = m.toNat → 0 ≤ m → t1 = gd_fillN t0 y x c k → hy_W sc hm_G_readFields 2 70 [.inr (some 8), .inl y, .inl x, .inl m, .inl c, .inl (k : Int)] [] t1 (hy_e (some m) (gd_fillN t0 y x c m.toNat)) := by
    intro m c t0 hm n
    induction n with
    | zero =>
      intro k t1 hn h0 ht
      obtain rfl : k = m.toNat := by omega
      refine hy_iload (i := 70) rfl rfl ?_
      refine hy_iload (i := 71) rfl rfl ?_
      refine hy_ic_ge (i := 72) (tt := 86) rfl (fun zc1 => ?_) (fun zc1 => ?_)
      · refine hy_iload (i := 86) rfl rfl ?_
        refine hy_ireturn (i := 87) rfl rfl ?_
        exact ⟨rfl, ht⟩
      · omega
    | succ n ih =>
      intro k t1 hn h0 ht
      refine hy_iload (i := 70) rfl rfl ?_
      refine hy_iload (i := 71) rfl rfl ?_
      refine hy_ic_ge (i := 72) (tt := 86) rfl (fun zc1 => ?_) (fun zc1 => ?_)
      · omega
      · refine hy_aload (i := 73) rfl rfl ?_
        refine hy_getr (i := 74) rfl rfl ?_
        refine hy_const (i := 75) rfl (by decide) ?_
        refine hy_iload (i := 76) rfl rfl ?_
        refine hy_imul (i := 77) rfl (by omega) ?_
        refine hy_iload (i := 78) rfl rfl ?_
        refine hy_iadd (i := 79) rfl (by omega) ?_
        refine hy_iload (i := 80) rfl rfl ?_
        refine hy_iadd (i := 81) rfl (by omega) ?_
        refine hy_iload (i := 82) rfl rfl ?_
        refine hy_iast (i := 83) rfl rfl (by omega) rfl ?_
        refine hy_iinc (i := 84) rfl rfl (by omega) ?_
        refine hy_goto (i := 85) (tt := 70) rfl ?_
        exact ih (k + 1) _ (by omega) h0 (by rw [ht]; rfl)
  have tail : ∀ (m : Int) (t1 : hy_T) (v4 v5 : hy_V), (0 ≤ m ∧ m ≤ 9) → tp_ok t1 → gd_tail t1 y x m = gd_fields t y x → hy_W sc hm_G_readFields 2 27 [.inr (some 8), .inl y, .inl x, .inl m, v4, v5] [] t1 (hy_e (some (gd_fields t y x).2) (gd_fields t y x).1) := by
    intro m t1 v4 v5 hm h1 he
    have hn := tp_next_in h1
    have hc := gd_col_in (tp_next t1)
    rw [← he]
    by_cases q1 : gd_col (tp_next t1) < 0
    · have e : gd_tail t1 y x m = (tp_fail t1 1 (t1 3 3), 0) := by unfold gd_tail; rw [if_pos q1]
      rw [e]
      refine hy_aload (i := 27) rfl rfl ?_
      refine hy_getr (i := 28) rfl rfl ?_
      refine hy_cV0e (i := 29) rfl mj_T_next (by decide) rfl (Nat.le_of_ble_eq_true rfl) rfl rfl rfl (c_T_next (tp_ok.e (by assumption))) ?_
      refine hy_cS1e (i := 30) rfl (by decide) mj_G_colourOf (by decide) rfl (Nat.le_of_ble_eq_true rfl) (c_G_colourOf) ?_
      refine hy_istore (i := 31) rfl ?_
      refine hy_iload (i := 32) rfl rfl ?_
      refine hy_if_ge (i := 33) (tt := 40) rfl (fun zc1 => ?_) (fun zc1 => ?_)
      · omega
      · refine hy_aload (i := 34) rfl rfl ?_
        refine hy_getr (i := 35) rfl rfl ?_
        refine hy_const (i := 36) rfl (by decide) ?_
        refine hy_cV1v (i := 37) rfl mj_T_fail (by decide) rfl (Nat.le_of_ble_eq_true rfl) rfl rfl rfl (c_T_fail (by decide) (by have := tp_ok.p (by assumption); omega)) ?_
        refine hy_const (i := 38) rfl (by decide) ?_
        refine hy_ireturn (i := 39) rfl rfl ?_
        exact ⟨rfl, rfl⟩
    · by_cases q2 : 8 < x + m
      · have e : gd_tail t1 y x m = (tp_fail t1 6 (t1 3 3), 0) := by unfold gd_tail; rw [if_neg q1, if_pos q2]
        rw [e]
        refine hy_aload (i := 27) rfl rfl ?_
        refine hy_getr (i := 28) rfl rfl ?_
        refine hy_cV0e (i := 29) rfl mj_T_next (by decide) rfl (Nat.le_of_ble_eq_true rfl) rfl rfl rfl (c_T_next (tp_ok.e (by assumption))) ?_
        refine hy_cS1e (i := 30) rfl (by decide) mj_G_colourOf (by decide) rfl (Nat.le_of_ble_eq_true rfl) (c_G_colourOf) ?_
        refine hy_istore (i := 31) rfl ?_
        refine hy_iload (i := 32) rfl rfl ?_
        refine hy_if_ge (i := 33) (tt := 40) rfl (fun zc1 => ?_) (fun zc1 => ?_)
        · refine hy_iload (i := 40) rfl rfl ?_
          refine hy_iload (i := 41) rfl rfl ?_
          refine hy_iadd (i := 42) rfl (by omega) ?_
          refine hy_const (i := 43) rfl (by decide) ?_
          refine hy_ic_le (i := 44) (tt := 51) rfl (fun zc2 => ?_) (fun zc2 => ?_)
          · omega
          · refine hy_aload (i := 45) rfl rfl ?_
            refine hy_getr (i := 46) rfl rfl ?_
            refine hy_const (i := 47) rfl (by decide) ?_
            refine hy_cV1v (i := 48) rfl mj_T_fail (by decide) rfl (Nat.le_of_ble_eq_true rfl) rfl rfl rfl (c_T_fail (by decide) (by have := tp_ok.p (by assumption); omega)) ?_
            refine hy_const (i := 49) rfl (by decide) ?_
            refine hy_ireturn (i := 50) rfl rfl ?_
            exact ⟨rfl, rfl⟩
        · omega
      · by_cases q3 : gd_col (tp_next t1) ≠ 12 ∧ sp_told (t1 5 2) (gd_col (tp_next t1)) = false
        · have e : gd_tail t1 y x m = (tp_fail t1 7 (t1 3 3), 0) := by unfold gd_tail; rw [if_neg q1, if_neg q2, if_pos q3]
          rw [e]
          refine hy_aload (i := 27) rfl rfl ?_
          refine hy_getr (i := 28) rfl rfl ?_
          refine hy_cV0e (i := 29) rfl mj_T_next (by decide) rfl (Nat.le_of_ble_eq_true rfl) rfl rfl rfl (c_T_next (tp_ok.e (by assumption))) ?_
          refine hy_cS1e (i := 30) rfl (by decide) mj_G_colourOf (by decide) rfl (Nat.le_of_ble_eq_true rfl) (c_G_colourOf) ?_
          refine hy_istore (i := 31) rfl ?_
          refine hy_iload (i := 32) rfl rfl ?_
          refine hy_if_ge (i := 33) (tt := 40) rfl (fun zc1 => ?_) (fun zc1 => ?_)
          · refine hy_iload (i := 40) rfl rfl ?_
            refine hy_iload (i := 41) rfl rfl ?_
            refine hy_iadd (i := 42) rfl (by omega) ?_
            refine hy_const (i := 43) rfl (by decide) ?_
            refine hy_ic_le (i := 44) (tt := 51) rfl (fun zc2 => ?_) (fun zc2 => ?_)
            · refine hy_iload (i := 51) rfl rfl ?_
              refine hy_const (i := 52) rfl (by decide) ?_
              refine hy_ic_eq (i := 53) (tt := 65) rfl (fun zc3 => ?_) (fun zc3 => ?_)
              · omega
              · refine hy_aload (i := 54) rfl rfl ?_
                refine hy_getr (i := 55) rfl rfl ?_
                refine hy_iload (i := 56) rfl rfl ?_
                refine hy_cV1e (i := 57) rfl mj_P_isTold (by decide) rfl (Nat.le_of_ble_eq_true rfl) rfl rfl rfl (c_P_isTold) ?_
                refine hy_ib_ne (i := 58) (tt := 65) rfl (fun zc4 => ?_) (fun zc4 => ?_)
                · simp_all
                · refine hy_aload (i := 59) rfl rfl ?_
                  refine hy_getr (i := 60) rfl rfl ?_
                  refine hy_const (i := 61) rfl (by decide) ?_
                  refine hy_cV1v (i := 62) rfl mj_T_fail (by decide) rfl (Nat.le_of_ble_eq_true rfl) rfl rfl rfl (c_T_fail (by decide) (by have := tp_ok.p (by assumption); omega)) ?_
                  refine hy_const (i := 63) rfl (by decide) ?_
                  refine hy_ireturn (i := 64) rfl rfl ?_
                  exact ⟨rfl, rfl⟩
            · omega
          · omega
        · have e : gd_tail t1 y x m = (gd_fillN (tp_step t1) y x (gd_col (tp_next t1)) m.toNat, m) := by unfold gd_tail; rw [if_neg q1, if_neg q2, if_neg q3]
          rw [e]
          refine hy_aload (i := 27) rfl rfl ?_
          refine hy_getr (i := 28) rfl rfl ?_
          refine hy_cV0e (i := 29) rfl mj_T_next (by decide) rfl (Nat.le_of_ble_eq_true rfl) rfl rfl rfl (c_T_next (tp_ok.e (by assumption))) ?_
          refine hy_cS1e (i := 30) rfl (by decide) mj_G_colourOf (by decide) rfl (Nat.le_of_ble_eq_true rfl) (c_G_colourOf) ?_
          refine hy_istore (i := 31) rfl ?_
          refine hy_iload (i := 32) rfl rfl ?_
          refine hy_if_ge (i := 33) (tt := 40) rfl (fun zc1 => ?_) (fun zc1 => ?_)
          · refine hy_iload (i := 40) rfl rfl ?_
            refine hy_iload (i := 41) rfl rfl ?_
            refine hy_iadd (i := 42) rfl (by omega) ?_
            refine hy_const (i := 43) rfl (by decide) ?_
            refine hy_ic_le (i := 44) (tt := 51) rfl (fun zc2 => ?_) (fun zc2 => ?_)
            · refine hy_iload (i := 51) rfl rfl ?_
              refine hy_const (i := 52) rfl (by decide) ?_
              refine hy_ic_eq (i := 53) (tt := 65) rfl (fun zc3 => ?_) (fun zc3 => ?_)
              · refine hy_aload (i := 65) rfl rfl ?_
                refine hy_getr (i := 66) rfl rfl ?_
                refine hy_cV0v (i := 67) rfl mj_T_step (by decide) rfl (Nat.le_of_ble_eq_true rfl) rfl rfl rfl (c_T_step (by have := tp_ok.p (by assumption); omega)) ?_
                refine hy_const (i := 68) rfl (by decide) ?_
                refine hy_istore (i := 69) rfl ?_
                exact loop m _ (tp_step t1) (by omega) m.toNat 0 _ (by omega) hm.1 rfl
              · refine hy_aload (i := 54) rfl rfl ?_
                refine hy_getr (i := 55) rfl rfl ?_
                refine hy_iload (i := 56) rfl rfl ?_
                refine hy_cV1e (i := 57) rfl mj_P_isTold (by decide) rfl (Nat.le_of_ble_eq_true rfl) rfl rfl rfl (c_P_isTold) ?_
                refine hy_ib_ne (i := 58) (tt := 65) rfl (fun zc4 => ?_) (fun zc4 => ?_)
                · refine hy_aload (i := 65) rfl rfl ?_
                  refine hy_getr (i := 66) rfl rfl ?_
                  refine hy_cV0v (i := 67) rfl mj_T_step (by decide) rfl (Nat.le_of_ble_eq_true rfl) rfl rfl rfl (c_T_step (by have := tp_ok.p (by assumption); omega)) ?_
                  refine hy_const (i := 68) rfl (by decide) ?_
                  refine hy_istore (i := 69) rfl ?_
                  exact loop m _ (tp_step t1) (by omega) m.toNat 0 _ (by omega) hm.1 rfl
                · simp_all
            · omega
          · omega
  have hn := tp_next_in h
  by_cases hd : 48 ≤ tp_next t ∧ tp_next t ≤ 57
  · by_cases q : 8 < x + (tp_next t - 48)
    · have e : gd_fields t y x = (tp_fail t 6 (t 3 3), 0) := by unfold gd_fields; rw [if_pos hd, if_pos q]
      rw [e]
      refine hy_const (i := 0) rfl (by decide) ?_
      refine hy_istore (i := 1) rfl ?_
      refine hy_aload (i := 2) rfl rfl ?_
      refine hy_getr (i := 3) rfl rfl ?_
      refine hy_cV0e (i := 4) rfl mj_T_next (by decide) rfl (Nat.le_of_ble_eq_true rfl) rfl rfl rfl (c_T_next (tp_ok.e (by assumption))) ?_
      refine hy_cS1e (i := 5) rfl (by decide) mj_W_isDigit (by decide) rfl (Nat.le_of_ble_eq_true rfl) (c_W_isDigit) ?_
      refine hy_ib_eq (i := 6) (tt := 27) rfl (fun zc1 => ?_) (fun zc1 => ?_)
      · simp at zc1; omega
      · refine hy_aload (i := 7) rfl rfl ?_
        refine hy_getr (i := 8) rfl rfl ?_
        refine hy_cV0e (i := 9) rfl mj_T_next (by decide) rfl (Nat.le_of_ble_eq_true rfl) rfl rfl rfl (c_T_next (tp_ok.e (by assumption))) ?_
        refine hy_const (i := 10) rfl (by decide) ?_
        refine hy_isub (i := 11) rfl (by omega) ?_
        refine hy_istore (i := 12) rfl ?_
        refine hy_iload (i := 13) rfl rfl ?_
        refine hy_iload (i := 14) rfl rfl ?_
        refine hy_iadd (i := 15) rfl (by omega) ?_
        refine hy_const (i := 16) rfl (by decide) ?_
        refine hy_ic_le (i := 17) (tt := 24) rfl (fun zc2 => ?_) (fun zc2 => ?_)
        · omega
        · refine hy_aload (i := 18) rfl rfl ?_
          refine hy_getr (i := 19) rfl rfl ?_
          refine hy_const (i := 20) rfl (by decide) ?_
          refine hy_cV1v (i := 21) rfl mj_T_fail (by decide) rfl (Nat.le_of_ble_eq_true rfl) rfl rfl rfl (c_T_fail (by decide) (by have := tp_ok.p (by assumption); omega)) ?_
          refine hy_const (i := 22) rfl (by decide) ?_
          refine hy_ireturn (i := 23) rfl rfl ?_
          exact ⟨rfl, rfl⟩
    · skip
      refine hy_const (i := 0) rfl (by decide) ?_
      refine hy_istore (i := 1) rfl ?_
      refine hy_aload (i := 2) rfl rfl ?_
      refine hy_getr (i := 3) rfl rfl ?_
      refine hy_cV0e (i := 4) rfl mj_T_next (by decide) rfl (Nat.le_of_ble_eq_true rfl) rfl rfl rfl (c_T_next (tp_ok.e (by assumption))) ?_
      refine hy_cS1e (i := 5) rfl (by decide) mj_W_isDigit (by decide) rfl (Nat.le_of_ble_eq_true rfl) (c_W_isDigit) ?_
      refine hy_ib_eq (i := 6) (tt := 27) rfl (fun zc1 => ?_) (fun zc1 => ?_)
      · simp at zc1; omega
      · refine hy_aload (i := 7) rfl rfl ?_
        refine hy_getr (i := 8) rfl rfl ?_
        refine hy_cV0e (i := 9) rfl mj_T_next (by decide) rfl (Nat.le_of_ble_eq_true rfl) rfl rfl rfl (c_T_next (tp_ok.e (by assumption))) ?_
        refine hy_const (i := 10) rfl (by decide) ?_
        refine hy_isub (i := 11) rfl (by omega) ?_
        refine hy_istore (i := 12) rfl ?_
        refine hy_iload (i := 13) rfl rfl ?_
        refine hy_iload (i := 14) rfl rfl ?_
        refine hy_iadd (i := 15) rfl (by omega) ?_
        refine hy_const (i := 16) rfl (by decide) ?_
        refine hy_ic_le (i := 17) (tt := 24) rfl (fun zc2 => ?_) (fun zc2 => ?_)
        · refine hy_aload (i := 24) rfl rfl ?_
          refine hy_getr (i := 25) rfl rfl ?_
          refine hy_cV0v (i := 26) rfl mj_T_step (by decide) rfl (Nat.le_of_ble_eq_true rfl) rfl rfl rfl (c_T_step (by have := tp_ok.p (by assumption); omega)) ?_
          exact tail _ _ _ _ (by omega) (tp_step_ok h (by omega)) (by unfold gd_fields; rw [if_pos hd, if_neg q]; rfl)
        · omega
  · skip
    refine hy_const (i := 0) rfl (by decide) ?_
    refine hy_istore (i := 1) rfl ?_
    refine hy_aload (i := 2) rfl rfl ?_
    refine hy_getr (i := 3) rfl rfl ?_
    refine hy_cV0e (i := 4) rfl mj_T_next (by decide) rfl (Nat.le_of_ble_eq_true rfl) rfl rfl rfl (c_T_next (tp_ok.e (by assumption))) ?_
    refine hy_cS1e (i := 5) rfl (by decide) mj_W_isDigit (by decide) rfl (Nat.le_of_ble_eq_true rfl) (c_W_isDigit) ?_
    refine hy_ib_eq (i := 6) (tt := 27) rfl (fun zc1 => ?_) (fun zc1 => ?_)
    · exact tail _ _ _ _ (by omega) h (by unfold gd_fields; rw [if_neg hd])
    · simp at zc1; omega
end GD
/-! the class's ground: a row, and all of them -/
def gd_rowE (t : hy_T) (x : Int) : hy_T := if x < 8 then tp_fail t 1 (t 3 3) else t
def gd_rowN (y : Int) : Nat → hy_T → Int → hy_T
  | 0, t, x => gd_rowE t x
  | n + 1, t, x => if (49 ≤ tp_next t ∧ tp_next t ≤ 56) ∨ 0 ≤ gd_col (tp_next t) then gd_rowN y n (gd_fields t y x).1 (x + (gd_fields t y x).2) else gd_rowE t x
def gd_row (t : hy_T) (y : Int) : hy_T := gd_rowN y 9 t 0
theorem gd_rowE_s {t : hy_T} (h : tp_ok t) (x : Int) : tp_ok (gd_rowE t x) ∧ hy_F gdX t (gd_rowE t x) := by
  unfold gd_rowE
  split
  · exact ⟨tp_fail_ok h _ _, gdX_tp (tp_fail_G _ _ _)⟩
  · exact ⟨h, hy_F.rf⟩
theorem gd_rowN_s (y : Int) : ∀ (n : Nat) {t : hy_T} {x : Int}, tp_ok t → (0 ≤ x ∧ x ≤ 8) → tp_ok (gd_rowN y n t x) ∧ hy_F gdX t (gd_rowN y n t x)
  | 0, t, x, h, hx => gd_rowE_s h x
  | n + 1, t, x, h, hx => by
    simp only [gd_rowN]
    split
    · obtain ⟨a1, a2, a3, a4⟩ := gd_fields_s h (y := y) hx
      obtain ⟨b1, b2⟩ := gd_rowN_s y n a1 (x := x + (gd_fields t y x).2) (by omega)
      exact ⟨b1, a2.tr' b2⟩
    · exact gd_rowE_s h x
def gd_sep (t : hy_T) (k : Nat) : hy_T := if 0 < k then tp_take t 47 else t
def gd_rowsN (t : hy_T) (n : Int) : Nat → hy_T
  | 0 => tp_start t n
  | k + 1 => gd_row (gd_sep (gd_rowsN t n k) k) k
theorem gd_sep_s {t : hy_T} (h : tp_ok t) (k : Nat) : tp_ok (gd_sep t k) ∧ hy_F gdX t (gd_sep t k) := by
  unfold gd_sep
  split
  · exact ⟨tp_take_ok h (by decide), gdX_tp (tp_take_F _ _)⟩
  · exact ⟨h, hy_F.rf⟩
theorem gd_rowsN_s {t : hy_T} (h : tp_ok t) (n : Int) : ∀ k : Nat, tp_ok (gd_rowsN t n k) ∧ hy_F gdX t (gd_rowsN t n k)
  | 0 => ⟨tp_start_ok h n, ((hy_F.rf.up rfl).up rfl).up rfl⟩
  | k + 1 => by
    obtain ⟨a1, a2⟩ := gd_rowsN_s h n k
    obtain ⟨b1, b2⟩ := gd_sep_s a1 k
    obtain ⟨c1, c2⟩ := gd_rowN_s k 9 b1 (x := 0) (by decide)
    exact ⟨c1, (a2.tr' b2).tr' c2⟩
def gd_read (t : hy_T) (n : Int) : hy_T := if tp_finish (gd_rowsN t n 8) 3 4 = 0 then hy_cp (tp_finish (gd_rowsN t n 8)) 10 9 64 else tp_finish (gd_rowsN t n 8)
section GE
variable {sc : List Int32} {t : hy_T}
theorem c_G_readRow {y : Int} (h : tp_ok t) (hy : 0 ≤ y ∧ y < 8) : hy_Ct sc hm_G_readRow 3 [.inr (some 8), .inl y] t (hy_e none (gd_row t y)) := by
  refine hy_mk_ct ok_G_readRow ck_G_readRow (Nat.le_of_ble_eq_true rfl) ?_
  have fin : ∀ (x : Int) (t1 : hy_T) (v3 : hy_V), tp_ok t1 → hy_W sc hm_G_readRow 3 21 [.inr (some 8), .inl y, .inl x, v3] [] t1 (hy_e none (gd_rowE t1 x)) := by
    intro x t1 v3 h1
    unfold gd_rowE
    refine hy_iload (i := 21) rfl rfl ?_
    refine hy_const (i := 22) rfl (by decide) ?_
    refine hy_ic_ge (i := 23) (tt := 28) rfl (fun zc1 => ?_) (fun zc1 => ?_)
    · refine hy_return (i := 28) rfl rfl ?_
      first | (rw [if_pos (by omega)]; exact ⟨rfl, rfl⟩) | (rw [if_neg (by omega)]; exact ⟨rfl, rfl⟩)
    · refine hy_aload (i := 24) rfl rfl ?_
      refine hy_getr (i := 25) rfl rfl ?_
      refine hy_const (i := 26) rfl (by decide) ?_
      refine hy_cV1v (i := 27) rfl mj_T_fail (by decide) rfl (Nat.le_of_ble_eq_true rfl) rfl rfl rfl (c_T_fail (by decide) (by have := tp_ok.p (by assumption); omega)) ?_
      refine hy_return (i := 28) rfl rfl ?_
      first | (rw [if_pos (by omega)]; exact ⟨rfl, rfl⟩) | (rw [if_neg (by omega)]; exact ⟨rfl, rfl⟩)
  have loop : ∀ (n : Nat), ∀ (k : Nat) (x : Int) (t1 : hy_T), n + k = 9 → tp_ok t1 → (0 ≤ x ∧ x ≤ 8) → gd_rowN y n t1 x = gd_row t y → hy_W sc hm_G_readRow 3 4 [.inr (some 8), .inl y, .inl x, .inl (k : Int)] [] t1 (hy_e none (gd_row t y)) := by
    intro n
    induction n with
    | zero =>
      intro k x t1 hn h1 hx he
      obtain rfl : k = 9 := by omega
      rw [← he]
      refine hy_iload (i := 4) rfl rfl ?_
      refine hy_const (i := 5) rfl (by decide) ?_
      refine hy_ic_gt (i := 6) (tt := 21) rfl (fun zc1 => ?_) (fun zc1 => ?_)
      · exact fin x t1 _ h1
      · omega
    | succ n ih =>
      intro k x t1 hn h1 hx he
      by_cases hd : (49 ≤ tp_next t1 ∧ tp_next t1 ≤ 56) ∨ 0 ≤ gd_col (tp_next t1)
      · obtain ⟨a1, a2, a3, a4⟩ := gd_fields_s h1 (y := y) hx
        have e : gd_rowN y (n + 1) t1 x = gd_rowN y n (gd_fields t1 y x).1 (x + (gd_fields t1 y x).2) := by simp only [gd_rowN]; rw [if_pos hd]
        rw [e] at he
        refine hy_iload (i := 4) rfl rfl ?_
        refine hy_const (i := 5) rfl (by decide) ?_
        refine hy_ic_gt (i := 6) (tt := 21) rfl (fun zc1 => ?_) (fun zc1 => ?_)
        · omega
        · refine hy_aload (i := 7) rfl rfl ?_
          refine hy_getr (i := 8) rfl rfl ?_
          refine hy_cV0e (i := 9) rfl mj_T_next (by decide) rfl (Nat.le_of_ble_eq_true rfl) rfl rfl rfl (c_T_next (tp_ok.e (by assumption))) ?_
          refine hy_cS1e (i := 10) rfl (by decide) mj_G_isFieldsStart (by decide) rfl (Nat.le_of_ble_eq_true rfl) (c_G_isFieldsStart) ?_
          refine hy_ib_eq (i := 11) (tt := 21) rfl (fun zc2 => ?_) (fun zc2 => ?_)
          · simp at zc2; omega
          · refine hy_iload (i := 12) rfl rfl ?_
            refine hy_aload (i := 13) rfl rfl ?_
            refine hy_iload (i := 14) rfl rfl ?_
            refine hy_iload (i := 15) rfl rfl ?_
            refine hy_cV2e (i := 16) rfl mj_G_readFields (by decide) rfl (Nat.le_of_ble_eq_true rfl) rfl rfl rfl (c_G_readFields (by assumption) (by omega) (by omega)) ?_
            refine hy_iadd (i := 17) rfl (by omega) ?_
            refine hy_istore (i := 18) rfl ?_
            refine hy_iinc (i := 19) rfl rfl (by omega) ?_
            refine hy_goto (i := 20) (tt := 4) rfl ?_
            exact ih (k + 1) _ _ (by omega) a1 (by omega) he
      · have e : gd_rowN y (n + 1) t1 x = gd_rowE t1 x := by simp only [gd_rowN]; rw [if_neg hd]
        rw [e] at he
        rw [← he]
        refine hy_iload (i := 4) rfl rfl ?_
        refine hy_const (i := 5) rfl (by decide) ?_
        refine hy_ic_gt (i := 6) (tt := 21) rfl (fun zc1 => ?_) (fun zc1 => ?_)
        · omega
        · refine hy_aload (i := 7) rfl rfl ?_
          refine hy_getr (i := 8) rfl rfl ?_
          refine hy_cV0e (i := 9) rfl mj_T_next (by decide) rfl (Nat.le_of_ble_eq_true rfl) rfl rfl rfl (c_T_next (tp_ok.e (by assumption))) ?_
          refine hy_cS1e (i := 10) rfl (by decide) mj_G_isFieldsStart (by decide) rfl (Nat.le_of_ble_eq_true rfl) (c_G_isFieldsStart) ?_
          refine hy_ib_eq (i := 11) (tt := 21) rfl (fun zc2 => ?_) (fun zc2 => ?_)
          · exact fin x t1 _ h1
          · simp at zc2; omega
  refine hy_const (i := 0) rfl (by decide) ?_
  refine hy_istore (i := 1) rfl ?_
  refine hy_const (i := 2) rfl (by decide) ?_
  refine hy_istore (i := 3) rfl ?_
  exact loop 9 0 0 _ rfl h (by decide) rfl
theorem c_G_read {n : Int} (h : tp_ok t) : hy_Ct sc hm_G_read 4 [.inr (some 8), .inl n] t (hy_e (some (gd_read t n 3 4)) (gd_read t n)) := by
  refine hy_mk_ct ok_G_read ck_G_read (Nat.le_of_ble_eq_true rfl) ?_
  have loop : ∀ (m : Nat), ∀ (k : Nat) (t1 : hy_T), m + k = 8 → t1 = gd_rowsN t n k → hy_W sc hm_G_read 4 6 [.inr (some 8), .inl n, .inl (k : Int)] [] t1 (hy_e (some (gd_read t n 3 4)) (gd_read t n)) := by
    intro m
    induction m with
    | zero =>
      intro k t1 hn ht
      obtain rfl : k = 8 := by omega
      have h1 : tp_ok t1 := by rw [ht]; exact (gd_rowsN_s h n 8).1
      unfold gd_read
      rw [← ht]
      refine hy_iload (i := 6) rfl rfl ?_
      refine hy_const (i := 7) rfl (by decide) ?_
      refine hy_ic_ge (i := 8) (tt := 20) rfl (fun zc1 => ?_) (fun zc1 => ?_)
      · refine hy_aload (i := 20) rfl rfl ?_
        refine hy_getr (i := 21) rfl rfl ?_
        refine hy_cV0v (i := 22) rfl mj_T_finish (by decide) rfl (Nat.le_of_ble_eq_true rfl) rfl rfl rfl (c_T_finish (by have := tp_ok.p (by assumption); omega)) ?_
        refine hy_aload (i := 23) rfl rfl ?_
        refine hy_getr (i := 24) rfl rfl ?_
        refine hy_cV0e (i := 25) rfl mj_T_fault (by decide) rfl (Nat.le_of_ble_eq_true rfl) rfl rfl rfl (c_T_fault) ?_
        refine hy_if_ne (i := 26) (tt := 35) rfl (fun zc2 => ?_) (fun zc2 => ?_)
        · refine hy_aload (i := 35) rfl rfl ?_
          refine hy_getr (i := 36) rfl rfl ?_
          refine hy_cV0e (i := 37) rfl mj_T_fault (by decide) rfl (Nat.le_of_ble_eq_true rfl) rfl rfl rfl (c_T_fault) ?_
          refine hy_ireturn (i := 38) rfl rfl ?_
          first | (rw [if_pos (by omega)]; exact ⟨rfl, rfl⟩) | (rw [if_neg (by omega)]; exact ⟨rfl, rfl⟩)
        · refine hy_aload (i := 27) rfl rfl ?_
          refine hy_getr (i := 28) rfl rfl ?_
          refine hy_const (i := 29) rfl (by decide) ?_
          refine hy_aload (i := 30) rfl rfl ?_
          refine hy_getr (i := 31) rfl rfl ?_
          refine hy_const (i := 32) rfl (by decide) ?_
          refine hy_const (i := 33) rfl (by decide) ?_
          refine hy_copy (i := 34) rfl (Nat.le_of_ble_eq_true rfl) rfl rfl (by omega) ?_
          refine hy_aload (i := 35) rfl rfl ?_
          refine hy_getr (i := 36) rfl rfl ?_
          refine hy_cV0e (i := 37) rfl mj_T_fault (by decide) rfl (Nat.le_of_ble_eq_true rfl) rfl rfl rfl (c_T_fault) ?_
          refine hy_ireturn (i := 38) rfl rfl ?_
          first | (rw [if_pos (by omega)]; exact ⟨rfl, rfl⟩) | (rw [if_neg (by omega)]; exact ⟨rfl, rfl⟩)
      · omega
    | succ m ih =>
      intro k t1 hn ht
      have h1 : tp_ok t1 := by rw [ht]; exact (gd_rowsN_s h n k).1
      have h2 := (gd_sep_s h1 k).1
      by_cases hk : 0 < k
      · have e : gd_sep t1 k = tp_take t1 47 := by unfold gd_sep; rw [if_pos hk]
        rw [e] at h2
        refine hy_iload (i := 6) rfl rfl ?_
        refine hy_const (i := 7) rfl (by decide) ?_
        refine hy_ic_ge (i := 8) (tt := 20) rfl (fun zc1 => ?_) (fun zc1 => ?_)
        · omega
        · refine hy_iload (i := 9) rfl rfl ?_
          refine hy_if_le (i := 10) (tt := 15) rfl (fun zc2 => ?_) (fun zc2 => ?_)
          · omega
          · refine hy_aload (i := 11) rfl rfl ?_
            refine hy_getr (i := 12) rfl rfl ?_
            refine hy_const (i := 13) rfl (by decide) ?_
            refine hy_cV1v (i := 14) rfl mj_T_take (by decide) rfl (Nat.le_of_ble_eq_true rfl) rfl rfl rfl (c_T_take (tp_ok.e (by assumption)) (by have := tp_ok.p (by assumption); omega)) ?_
            refine hy_aload (i := 15) rfl rfl ?_
            refine hy_iload (i := 16) rfl rfl ?_
            refine hy_cV1v (i := 17) rfl mj_G_readRow (by decide) rfl (Nat.le_of_ble_eq_true rfl) rfl rfl rfl (c_G_readRow h2 (by omega)) ?_
            refine hy_iinc (i := 18) rfl rfl (by omega) ?_
            refine hy_goto (i := 19) (tt := 6) rfl ?_
            exact ih (k + 1) _ (by omega) (by rw [← e, ht]; rfl)
      · have e : gd_sep t1 k = t1 := by unfold gd_sep; rw [if_neg hk]
        refine hy_iload (i := 6) rfl rfl ?_
        refine hy_const (i := 7) rfl (by decide) ?_
        refine hy_ic_ge (i := 8) (tt := 20) rfl (fun zc1 => ?_) (fun zc1 => ?_)
        · omega
        · refine hy_iload (i := 9) rfl rfl ?_
          refine hy_if_le (i := 10) (tt := 15) rfl (fun zc2 => ?_) (fun zc2 => ?_)
          · refine hy_aload (i := 15) rfl rfl ?_
            refine hy_iload (i := 16) rfl rfl ?_
            refine hy_cV1v (i := 17) rfl mj_G_readRow (by decide) rfl (Nat.le_of_ble_eq_true rfl) rfl rfl rfl (c_G_readRow (by assumption) (by omega)) ?_
            refine hy_iinc (i := 18) rfl rfl (by omega) ?_
            refine hy_goto (i := 19) (tt := 6) rfl ?_
            exact ih (k + 1) _ (by omega) (by show _ = gd_row (gd_sep (gd_rowsN t n k) k) k; rw [← ht, e])
          · omega
  refine hy_aload (i := 0) rfl rfl ?_
  refine hy_getr (i := 1) rfl rfl ?_
  refine hy_iload (i := 2) rfl rfl ?_
  refine hy_cV1v (i := 3) rfl mj_T_start (by decide) rfl (Nat.le_of_ble_eq_true rfl) rfl rfl rfl (c_T_start) ?_
  refine hy_const (i := 4) rfl (by decide) ?_
  refine hy_istore (i := 5) rfl ?_
  exact loop 8 0 _ rfl rfl
end GE
/-! the class's law: steps as they are drafted -/
def lp_times (s : Int) : Bool := decide (s = 42 ∨ s = 47 ∨ s = 37)
def lp_letter (s : Int) : Int :=
  if s = 101 then 0 else if s = 99 then 1 else if s = 113 then 2 else if s = 100 then 3 else if s = 109 then 4 else if s = 97 then 5
  else if s = 98 then 6 else if s = 110 then 7 else if s = 103 then 8 else if s = 111 then 9 else -1
def lp_emit (t : hy_T) (op arg : Int) : hy_T := if t 19 3 < 241 then hy_up (hy_up (hy_up t 20 (t 19 3).toNat op) 21 (t 19 3).toNat arg) 19 3 (t 19 3 + 1) else t
def lp_lead (t : hy_T) (l : Int) : hy_T := if 0 ≤ l ∧ l < 241 then hy_up t 21 l.toNat (t 19 3) else t
abbrev lp_ok (t : hy_T) : Prop := tp_ok t ∧ (0 ≤ t 19 3 ∧ t 19 3 ≤ 241) ∧ (0 ≤ t 19 7 ∧ t 19 7 ≤ 16)
abbrev lpX : Nat → Nat → Bool := fun r j => (r == 3 && (j == 2 || j == 3 || j == 4)) || r == 20 || r == 21 || (r == 19 && j == 3)
theorem lpX_tp {t t1 : hy_T} (h : hy_F tpX t t1) : hy_F lpX t t1 := h.w (fun r j q => by revert q; simp [tpX, lpX]; omega)
theorem lp_ok_tp {t t1 : hy_T} (h : hy_F tpX t t1) (hk : lp_ok t) (h1 : tp_ok t1) : lp_ok t1 := ⟨h1, by rw [h 19 3 rfl]; exact hk.2.1, by rw [h 19 7 rfl]; exact hk.2.2⟩
theorem lp_emit_s {t : hy_T} (h : lp_ok t) (op arg : Int) : lp_ok (lp_emit t op arg) ∧ hy_F lpX t (lp_emit t op arg) := by
  have h2 := h.2.1
  unfold lp_emit
  split
  · refine ⟨⟨tp_ok_up (tp_ok_up (tp_ok_up h.1 rfl) rfl) rfl, ?_, h.2.2⟩, ((hy_F.rf.up rfl).up rfl).up rfl⟩
    show 0 ≤ t 19 3 + 1 ∧ t 19 3 + 1 ≤ 241
    omega
  · exact ⟨h, hy_F.rf⟩
theorem lp_lead_s {t : hy_T} (h : lp_ok t) (l : Int) : lp_ok (lp_lead t l) ∧ hy_F lpX t (lp_lead t l) := by
  unfold lp_lead
  split
  · exact ⟨⟨tp_ok_up h.1 rfl, h.2⟩, hy_F.rf.up rfl⟩
  · exact ⟨h, hy_F.rf⟩
def lp_lawcp (t : hy_T) : hy_T :=
  let t1 := hy_cp (hy_cp (hy_cp (hy_cp (hy_cp t 20 12 241) 21 13 241) 22 14 16) 23 15 16) 24 16 16
  hy_up (hy_up t1 11 3 (t 19 3)) 11 7 (t 19 7)
section LP
variable {sc : List Int32} {t : hy_T}
theorem c_L_isTimes {s : Int} : hy_Ct sc hm_L_isTimes 0 [.inl s] t (hy_e (some (hy_b (lp_times s))) t) := by
  refine hy_mk_ct ok_L_isTimes ck_L_isTimes (Nat.le_of_ble_eq_true rfl) ?_
  refine hy_iload (i := 0) rfl rfl ?_
  refine hy_const (i := 1) rfl (by decide) ?_
  refine hy_ic_eq (i := 2) (tt := 9) rfl (fun zc1 => ?_) (fun zc1 => ?_)
  · refine hy_const (i := 9) rfl (by decide) ?_
    refine hy_goto (i := 10) (tt := 12) rfl ?_
    refine hy_zreturn (i := 12) rfl rfl (by first | decide | exact hy_b01 _) ?_
    exact ⟨congrArg some (by unfold lp_times; first | (rw [decide_eq_true (by omega)]; rfl) | (rw [decide_eq_false (by omega)]; rfl)), rfl⟩
  · refine hy_iload (i := 3) rfl rfl ?_
    refine hy_const (i := 4) rfl (by decide) ?_
    refine hy_ic_eq (i := 5) (tt := 9) rfl (fun zc2 => ?_) (fun zc2 => ?_)
    · refine hy_const (i := 9) rfl (by decide) ?_
      refine hy_goto (i := 10) (tt := 12) rfl ?_
      refine hy_zreturn (i := 12) rfl rfl (by first | decide | exact hy_b01 _) ?_
      exact ⟨congrArg some (by unfold lp_times; first | (rw [decide_eq_true (by omega)]; rfl) | (rw [decide_eq_false (by omega)]; rfl)), rfl⟩
    · refine hy_iload (i := 6) rfl rfl ?_
      refine hy_const (i := 7) rfl (by decide) ?_
      refine hy_ic_ne (i := 8) (tt := 11) rfl (fun zc3 => ?_) (fun zc3 => ?_)
      · refine hy_const (i := 11) rfl (by decide) ?_
        refine hy_zreturn (i := 12) rfl rfl (by first | decide | exact hy_b01 _) ?_
        exact ⟨congrArg some (by unfold lp_times; first | (rw [decide_eq_true (by omega)]; rfl) | (rw [decide_eq_false (by omega)]; rfl)), rfl⟩
      · refine hy_const (i := 9) rfl (by decide) ?_
        refine hy_goto (i := 10) (tt := 12) rfl ?_
        refine hy_zreturn (i := 12) rfl rfl (by first | decide | exact hy_b01 _) ?_
        exact ⟨congrArg some (by unfold lp_times; first | (rw [decide_eq_true (by omega)]; rfl) | (rw [decide_eq_false (by omega)]; rfl)), rfl⟩
theorem c_L_letterOf {s : Int} : hy_Ct sc hm_L_letterOf 0 [.inl s] t (hy_e (some (lp_letter s)) t) := by
  refine hy_mk_ct ok_L_letterOf ck_L_letterOf (Nat.le_of_ble_eq_true rfl) ?_
  refine hy_iload (i := 0) rfl rfl ?_
  by_cases zq1 : s = 97
  · refine hy_tsw (i := 1) (tt := 12) rfl (by rw [zq1]; rfl) ?_
    refine hy_const (i := 12) rfl (by decide) ?_
    refine hy_ireturn (i := 13) rfl rfl ?_
    exact ⟨congrArg some (by unfold lp_letter; repeat (first | rw [if_pos (by omega)] | rw [if_neg (by omega)])), rfl⟩
  · skip
    by_cases zq1 : s = 98
    · refine hy_tsw (i := 1) (tt := 14) rfl (by rw [zq1]; rfl) ?_
      refine hy_const (i := 14) rfl (by decide) ?_
      refine hy_ireturn (i := 15) rfl rfl ?_
      exact ⟨congrArg some (by unfold lp_letter; repeat (first | rw [if_pos (by omega)] | rw [if_neg (by omega)])), rfl⟩
    · skip
      by_cases zq1 : s = 99
      · refine hy_tsw (i := 1) (tt := 4) rfl (by rw [zq1]; rfl) ?_
        refine hy_const (i := 4) rfl (by decide) ?_
        refine hy_ireturn (i := 5) rfl rfl ?_
        exact ⟨congrArg some (by unfold lp_letter; repeat (first | rw [if_pos (by omega)] | rw [if_neg (by omega)])), rfl⟩
      · skip
        by_cases zq1 : s = 100
        · refine hy_tsw (i := 1) (tt := 8) rfl (by rw [zq1]; rfl) ?_
          refine hy_const (i := 8) rfl (by decide) ?_
          refine hy_ireturn (i := 9) rfl rfl ?_
          exact ⟨congrArg some (by unfold lp_letter; repeat (first | rw [if_pos (by omega)] | rw [if_neg (by omega)])), rfl⟩
        · skip
          by_cases zq1 : s = 101
          · refine hy_tsw (i := 1) (tt := 2) rfl (by rw [zq1]; rfl) ?_
            refine hy_const (i := 2) rfl (by decide) ?_
            refine hy_ireturn (i := 3) rfl rfl ?_
            exact ⟨congrArg some (by unfold lp_letter; repeat (first | rw [if_pos (by omega)] | rw [if_neg (by omega)])), rfl⟩
          · skip
            by_cases zq1 : s = 103
            · refine hy_tsw (i := 1) (tt := 18) rfl (by rw [zq1]; rfl) ?_
              refine hy_const (i := 18) rfl (by decide) ?_
              refine hy_ireturn (i := 19) rfl rfl ?_
              exact ⟨congrArg some (by unfold lp_letter; repeat (first | rw [if_pos (by omega)] | rw [if_neg (by omega)])), rfl⟩
            · skip
              by_cases zq1 : s = 109
              · refine hy_tsw (i := 1) (tt := 10) rfl (by rw [zq1]; rfl) ?_
                refine hy_const (i := 10) rfl (by decide) ?_
                refine hy_ireturn (i := 11) rfl rfl ?_
                exact ⟨congrArg some (by unfold lp_letter; repeat (first | rw [if_pos (by omega)] | rw [if_neg (by omega)])), rfl⟩
              · skip
                by_cases zq1 : s = 110
                · refine hy_tsw (i := 1) (tt := 16) rfl (by rw [zq1]; rfl) ?_
                  refine hy_const (i := 16) rfl (by decide) ?_
                  refine hy_ireturn (i := 17) rfl rfl ?_
                  exact ⟨congrArg some (by unfold lp_letter; repeat (first | rw [if_pos (by omega)] | rw [if_neg (by omega)])), rfl⟩
                · skip
                  by_cases zq1 : s = 111
                  · refine hy_tsw (i := 1) (tt := 20) rfl (by rw [zq1]; rfl) ?_
                    refine hy_const (i := 20) rfl (by decide) ?_
                    refine hy_ireturn (i := 21) rfl rfl ?_
                    exact ⟨congrArg some (by unfold lp_letter; repeat (first | rw [if_pos (by omega)] | rw [if_neg (by omega)])), rfl⟩
                  · skip
                    by_cases zq1 : s = 113
                    · refine hy_tsw (i := 1) (tt := 6) rfl (by rw [zq1]; rfl) ?_
                      refine hy_const (i := 6) rfl (by decide) ?_
                      refine hy_ireturn (i := 7) rfl rfl ?_
                      exact ⟨congrArg some (by unfold lp_letter; repeat (first | rw [if_pos (by omega)] | rw [if_neg (by omega)])), rfl⟩
                    · skip
                      refine hy_tsw (i := 1) (tt := 22) rfl (by rcases (show s < 97 ∨ 113 < s ∨ s = 102 ∨ s = 104 ∨ s = 105 ∨ s = 106 ∨ s = 107 ∨ s = 108 ∨ s = 112 by omega) with hh | hh | hh | hh | hh | hh | hh | hh | hh <;> first | (rw [if_pos (by omega)]; rfl) | (rw [hh]; rfl)) ?_
                      refine hy_const (i := 22) rfl (by decide) ?_
                      refine hy_ireturn (i := 23) rfl rfl ?_
                      exact ⟨congrArg some (by unfold lp_letter; repeat (first | rw [if_pos (by omega)] | rw [if_neg (by omega)])), rfl⟩
theorem c_L_emit {op arg : Int} (h : 0 ≤ t 19 3 ∧ t 19 3 ≤ 241) : hy_Ct sc hm_L_emit 0 [.inr (some 19), .inl op, .inl arg] t (hy_e (some (t 19 3)) (lp_emit t op arg)) := by
  refine hy_mk_ct ok_L_emit ck_L_emit (Nat.le_of_ble_eq_true rfl) ?_
  refine hy_aload (i := 0) rfl rfl ?_
  refine hy_get (i := 1) (fk := 3) rfl rfl rfl ?_
  refine hy_istore (i := 2) rfl ?_
  refine hy_iload (i := 3) rfl rfl ?_
  refine hy_aload (i := 4) rfl rfl ?_
  refine hy_getr (i := 5) rfl rfl ?_
  refine hy_alen (i := 6) rfl rfl (by decide) (by decide) ?_
  refine hy_ic_ge (i := 7) (tt := 24) rfl (fun zc1 => ?_) (fun zc1 => ?_)
  · refine hy_iload (i := 24) rfl rfl ?_
    refine hy_ireturn (i := 25) rfl rfl ?_
    refine ⟨rfl, ?_⟩
    unfold lp_emit
    first | (rw [if_pos (by omega)]; done) | (rw [if_pos (by omega)]; rfl) | (rw [if_neg (by omega)]; done)
  · refine hy_aload (i := 8) rfl rfl ?_
    refine hy_getr (i := 9) rfl rfl ?_
    refine hy_iload (i := 10) rfl rfl ?_
    refine hy_iload (i := 11) rfl rfl ?_
    refine hy_iast (i := 12) rfl rfl (by omega) rfl ?_
    refine hy_aload (i := 13) rfl rfl ?_
    refine hy_getr (i := 14) rfl rfl ?_
    refine hy_iload (i := 15) rfl rfl ?_
    refine hy_iload (i := 16) rfl rfl ?_
    refine hy_iast (i := 17) rfl rfl (by omega) rfl ?_
    refine hy_aload (i := 18) rfl rfl ?_
    refine hy_dup (i := 19) rfl ?_
    refine hy_get (i := 20) (fk := 3) rfl rfl rfl ?_
    refine hy_const (i := 21) rfl (by decide) ?_
    rw [show hy_up (hy_up t 20 (t 19 3).toNat op) 21 (t 19 3).toNat arg 19 3 = t 19 3 from rfl]
    refine hy_iadd (i := 22) rfl (by omega) ?_
    refine hy_put (i := 23) (fk := 3) rfl rfl rfl rfl ?_
    refine hy_iload (i := 24) rfl rfl ?_
    refine hy_ireturn (i := 25) rfl rfl ?_
    refine ⟨rfl, ?_⟩
    unfold lp_emit
    first | (rw [if_pos (by omega)]; done) | (rw [if_pos (by omega)]; rfl) | (rw [if_neg (by omega)]; done)
theorem c_L_leadHere {l : Int} : hy_Ct sc hm_L_leadHere 0 [.inr (some 19), .inl l] t (hy_e none (lp_lead t l)) := by
  refine hy_mk_ct ok_L_leadHere ck_L_leadHere (Nat.le_of_ble_eq_true rfl) ?_
  refine hy_iload (i := 0) rfl rfl ?_
  refine hy_if_lt (i := 1) (tt := 13) rfl (fun zc1 => ?_) (fun zc1 => ?_)
  · refine hy_return (i := 13) rfl rfl ?_
    refine ⟨rfl, ?_⟩
    unfold lp_lead
    first | (rw [if_pos (by omega)]; done) | (rw [if_neg (by omega)]; done)
  · refine hy_iload (i := 2) rfl rfl ?_
    refine hy_aload (i := 3) rfl rfl ?_
    refine hy_getr (i := 4) rfl rfl ?_
    refine hy_alen (i := 5) rfl rfl (by decide) (by decide) ?_
    refine hy_ic_ge (i := 6) (tt := 13) rfl (fun zc2 => ?_) (fun zc2 => ?_)
    · refine hy_return (i := 13) rfl rfl ?_
      refine ⟨rfl, ?_⟩
      unfold lp_lead
      first | (rw [if_pos (by omega)]; done) | (rw [if_neg (by omega)]; done)
    · refine hy_aload (i := 7) rfl rfl ?_
      refine hy_getr (i := 8) rfl rfl ?_
      refine hy_iload (i := 9) rfl rfl ?_
      refine hy_aload (i := 10) rfl rfl ?_
      refine hy_get (i := 11) (fk := 3) rfl rfl rfl ?_
      refine hy_iast (i := 12) rfl rfl (by omega) rfl ?_
      refine hy_return (i := 13) rfl rfl ?_
      refine ⟨rfl, ?_⟩
      unfold lp_lead
      first | (rw [if_pos (by omega)]; done) | (rw [if_neg (by omega)]; done)
theorem c_L_copyFrom : hy_Ct sc hm_L_copyFrom 0 [.inr (some 11), .inr (some 19)] t (hy_e none (lp_lawcp t)) := by
  refine hy_mk_ct ok_L_copyFrom ck_L_copyFrom (Nat.le_of_ble_eq_true rfl) ?_
  refine hy_aload (i := 0) rfl rfl ?_
  refine hy_getr (i := 1) rfl rfl ?_
  refine hy_const (i := 2) rfl (by decide) ?_
  refine hy_aload (i := 3) rfl rfl ?_
  refine hy_getr (i := 4) rfl rfl ?_
  refine hy_const (i := 5) rfl (by decide) ?_
  refine hy_aload (i := 6) rfl rfl ?_
  refine hy_getr (i := 7) rfl rfl ?_
  refine hy_alen (i := 8) rfl rfl (by decide) (by decide) ?_
  refine hy_copy (i := 9) rfl (Nat.le_of_ble_eq_true rfl) rfl rfl (by decide) ?_
  refine hy_aload (i := 10) rfl rfl ?_
  refine hy_getr (i := 11) rfl rfl ?_
  refine hy_const (i := 12) rfl (by decide) ?_
  refine hy_aload (i := 13) rfl rfl ?_
  refine hy_getr (i := 14) rfl rfl ?_
  refine hy_const (i := 15) rfl (by decide) ?_
  refine hy_aload (i := 16) rfl rfl ?_
  refine hy_getr (i := 17) rfl rfl ?_
  refine hy_alen (i := 18) rfl rfl (by decide) (by decide) ?_
  refine hy_copy (i := 19) rfl (Nat.le_of_ble_eq_true rfl) rfl rfl (by decide) ?_
  refine hy_aload (i := 20) rfl rfl ?_
  refine hy_getr (i := 21) rfl rfl ?_
  refine hy_const (i := 22) rfl (by decide) ?_
  refine hy_aload (i := 23) rfl rfl ?_
  refine hy_getr (i := 24) rfl rfl ?_
  refine hy_const (i := 25) rfl (by decide) ?_
  refine hy_const (i := 26) rfl (by decide) ?_
  refine hy_copy (i := 27) rfl (Nat.le_of_ble_eq_true rfl) rfl rfl (by decide) ?_
  refine hy_aload (i := 28) rfl rfl ?_
  refine hy_getr (i := 29) rfl rfl ?_
  refine hy_const (i := 30) rfl (by decide) ?_
  refine hy_aload (i := 31) rfl rfl ?_
  refine hy_getr (i := 32) rfl rfl ?_
  refine hy_const (i := 33) rfl (by decide) ?_
  refine hy_const (i := 34) rfl (by decide) ?_
  refine hy_copy (i := 35) rfl (Nat.le_of_ble_eq_true rfl) rfl rfl (by decide) ?_
  refine hy_aload (i := 36) rfl rfl ?_
  refine hy_getr (i := 37) rfl rfl ?_
  refine hy_const (i := 38) rfl (by decide) ?_
  refine hy_aload (i := 39) rfl rfl ?_
  refine hy_getr (i := 40) rfl rfl ?_
  refine hy_const (i := 41) rfl (by decide) ?_
  refine hy_const (i := 42) rfl (by decide) ?_
  refine hy_copy (i := 43) rfl (Nat.le_of_ble_eq_true rfl) rfl rfl (by decide) ?_
  refine hy_aload (i := 44) rfl rfl ?_
  refine hy_aload (i := 45) rfl rfl ?_
  refine hy_get (i := 46) (fk := 3) rfl rfl rfl ?_
  refine hy_put (i := 47) (fk := 3) rfl rfl rfl rfl ?_
  refine hy_aload (i := 48) rfl rfl ?_
  refine hy_aload (i := 49) rfl rfl ?_
  refine hy_get (i := 50) (fk := 7) rfl rfl rfl ?_
  refine hy_put (i := 51) (fk := 7) rfl rfl rfl rfl ?_
  refine hy_return (i := 52) rfl rfl ?_
  exact ⟨rfl, rfl⟩
end LP
