/-! the model's eyes -/
theorem bb_abs {p : Bool} {P : Prop} (h1 : p = true) (h2 : p = false) : P := by rw [h1] at h2; cases h2
theorem hy_up_ne {t : hy_T} {r j r' j' : Nat} {v : Int} (h : r' ≠ r) : hy_up t r j v r' j' = t r' j' := by
  unfold hy_up
  rw [if_neg (fun q => h q.1)]
theorem hy_up_up {t : hy_T} {r j : Nat} {v w : Int} : hy_up (hy_up t r j v) r j w = hy_up t r j w := by
  funext r' j'
  unfold hy_up
  split
  · rfl
  · rfl
def mq_V (t : hy_T) (e c q a b n o : Int) : Nat → Int := LV e c q (t 59 2) (hy_b (mf_mixed t c)) a b n (if mf_mixed t c = true then 0 else mf_bitsN (t 62 (4 * c + q).toNat) 12) o
def mq_isSeen (t : hy_T) (e c q s : Int) : Bool :=
  if mf_mixed t c = true then mb_holds t (mq_V t e c q (hy_b (hz_b s (t 60 c.toNat))) (hy_b (hz_b s (t 61 c.toNat))) 0 0) 115 (hz_b s (t 60 c.toNat) && hz_b s (t 61 c.toNat))
  else (sp_told (t 59 0) c && decide (t 60 c.toNat = -1)) && hz_b (t 62 (4 * c + q).toNat) e
def mq_seenN (t : hy_T) (e q : Int) : Nat → Int
  | 0 => 0
  | n + 1 => if mq_isSeen t e n q (mq_seenN t e q n) = true then hz_ior (mq_seenN t e q n) (hz_ishl 1 n) else mq_seenN t e q n
def mq_asR (t : hy_T) (s : Int) : Nat → Nat → Int
  | 0 => fun _ => 12
  | n + 1 => su (mq_asR t s n) n (if hz_b s n = true then (n : Int) else if mf_mixed t n = true then (if mq_asR t s n (t 60 n).toNat = 12 then mq_asR t s n (t 61 n).toNat else mq_asR t s n (t 60 n).toNat) else 12)
def mq_as (t : hy_T) (e q : Int) : Nat → Int := mq_asR t (mq_seenN t e q 12) 12
/-- the model's colours are mixed of lower ones -/
def me_pal (t : hy_T) : Prop := ∀ j : Nat, j < 12 → ((-1 ≤ t 60 j ∧ t 60 j < 12) ∧ -1 ≤ t 61 j ∧ t 61 j < 12) ∧ (mf_mixed t j = true → (0 ≤ t 60 j ∧ t 60 j < j) ∧ 0 ≤ t 61 j ∧ t 61 j < j)
abbrev meX : Nat → Nat → Bool := fun r _ => r == 77 || r == 78 || r == 79
/-- what is seen rests on these -/
abbrev meqX : Nat → Nat → Bool := fun r j => mlawX r j || r == 60 || r == 61 || r == 62 || (r == 59 && (j == 0 || j == 2))
theorem mf_mixed_F {X : Nat → Nat → Bool} {t t1 : hy_T} (h : hy_F X t t1) (h0 : X 59 0 = false) (h6 : ∀ j, X 60 j = false) (c : Int) : mf_mixed t1 c = mf_mixed t c := by
  unfold mf_mixed
  rw [h 59 0 h0, h 60 _ (h6 _)]
theorem me_pal_F {X : Nat → Nat → Bool} {t t1 : hy_T} (h : hy_F X t t1) (h0 : X 59 0 = false) (h6 : ∀ j, X 60 j = false) (h61 : ∀ j, X 61 j = false) (hk : me_pal t) : me_pal t1 := fun j hj => by
  rw [mf_mixed_F h h0 h6, h 60 j (h6 j), h 61 j (h61 j)]
  exact hk j hj
theorem meq_law {X : Nat → Nat → Bool} (hX : ∀ r j, meqX r j = true → X r j = false) : ∀ r j, mlawX r j = true → X r j = false := fun r j h => hX r j (by simp only [meqX, h, Bool.true_or])
theorem mq_V_F {X : Nat → Nat → Bool} {t t1 : hy_T} (h : hy_F X t t1) (hX : ∀ r j, meqX r j = true → X r j = false) (e c q a b n o : Int) : mq_V t1 e c q a b n o = mq_V t e c q a b n o := by
  unfold mq_V
  rw [mf_mixed_F h (hX 59 0 rfl) (fun j => hX 60 j rfl), h 59 2 (hX 59 2 rfl), h 62 _ (hX 62 _ rfl)]
theorem mq_isSeen_F {X : Nat → Nat → Bool} {t t1 : hy_T} (h : hy_F X t t1) (hX : ∀ r j, meqX r j = true → X r j = false) (e c q s : Int) : mq_isSeen t1 e c q s = mq_isSeen t e c q s := by
  unfold mq_isSeen
  rw [mf_mixed_F h (hX 59 0 rfl) (fun j => hX 60 j rfl), mq_V_F h hX, mb_holds_F h (meq_law hX), h 60 _ (hX 60 _ rfl), h 61 _ (hX 61 _ rfl), h 62 _ (hX 62 _ rfl), h 59 0 (hX 59 0 rfl)]
theorem mq_seenN_F {X : Nat → Nat → Bool} {t t1 : hy_T} (h : hy_F X t t1) (hX : ∀ r j, meqX r j = true → X r j = false) (e q : Int) : ∀ n, mq_seenN t1 e q n = mq_seenN t e q n
  | 0 => rfl
  | n + 1 => by simp only [mq_seenN, mq_seenN_F h hX e q n, mq_isSeen_F h hX]
theorem mq_asR_F {X : Nat → Nat → Bool} {t t1 : hy_T} (h : hy_F X t t1) (hX : ∀ r j, meqX r j = true → X r j = false) (s : Int) : ∀ n, mq_asR t1 s n = mq_asR t s n
  | 0 => rfl
  | n + 1 => by simp only [mq_asR, mq_asR_F h hX s n, mf_mixed_F h (hX 59 0 rfl) (fun j => hX 60 j rfl), h 60 _ (hX 60 _ rfl), h 61 _ (hX 61 _ rfl)]
theorem mq_as_F {X : Nat → Nat → Bool} {t t1 : hy_T} (h : hy_F X t t1) (hX : ∀ r j, meqX r j = true → X r j = false) (e q : Int) : mq_as t1 e q = mq_as t e q := by
  unfold mq_as
  rw [mq_seenN_F h hX, mq_asR_F h hX]
theorem mvX_meq : ∀ r j, meqX r j = true → mvX r j = false := fun r j h => by revert h; simp [meqX, mlawX, mvX]; omega
theorem meX_meq : ∀ r j, meqX r j = true → meX r j = false := fun r j h => by revert h; simp [meqX, mlawX, meX]; omega
theorem mv_me {t t1 : hy_T} (h : hy_F mvX t t1) : hy_F meX t t1 := h.w (fun r j q => by revert q; simp [mvX, meX]; omega)
theorem ml_mv {t t1 : hy_T} (h : hy_F mlX t t1) : hy_F mvX t t1 := h.w (fun r j q => by revert q; simp [mlX, mvX]; omega)
theorem mv_78 {t t1 : hy_T} (h : hy_F (fun r _ => r == 78) t t1) : hy_F mvX t t1 := h.w (fun r j q => by revert q; simp [mvX])
theorem mq_asR_in (t : hy_T) (s : Int) : ∀ (n : Nat) (j : Nat), n ≤ 12 → 0 ≤ mq_asR t s n j ∧ mq_asR t s n j ≤ 12
  | 0, j, _ => by simp [mq_asR]
  | n + 1, j, hn => by
    have ih := fun j => mq_asR_in t s n j (by omega)
    simp only [mq_asR, su]
    split
    · split
      · omega
      · split
        · split
          · exact ih _
          · exact ih _
        · decide
    · exact ih j
theorem mq_as_in (t : hy_T) (e q : Int) (j : Nat) : 0 ≤ mq_as t e q j ∧ mq_as t e q j ≤ 12 := mq_asR_in t _ 12 j (Nat.le_refl _)
theorem mq_c10 {j : Nat} (h : j < 10) : j = 0 ∨ j = 1 ∨ j = 2 ∨ j = 3 ∨ j = 4 ∨ j = 5 ∨ j = 6 ∨ j = 7 ∨ j = 8 ∨ j = 9 := by omega
theorem mq_tell {t t2 : hy_T} {e c q : Int} (hk : ml_ok t) (hF : hy_F (fun r _ => r == 78) t t2) (hV : ∀ j, j < 10 → t2 78 j = mq_V t e c q 0 0 0 0 j) (a b k : Int) (s : Bool) : mb_holds (hy_up (hy_up t2 78 5 a) 78 6 b) ((hy_up (hy_up t2 78 5 a) 78 6 b) 78) k s = mb_holds t (mq_V t e c q a b 0 0) k s := by
  rw [mb_holds_F ((hF.up (r := 78) (j := 5) (v := a) rfl).up (r := 78) (j := 6) (v := b) rfl) (fun r j h => by revert h; simp [mlawX]; omega)]
  refine mb_holds_V hk (fun j hj => ?_) k s
  have h := hV j hj
  rcases mq_c10 hj with rfl | rfl | rfl | rfl | rfl | rfl | rfl | rfl | rfl | rfl
  · exact h
  · exact h
  · exact h
  · exact h
  · exact h
  · rfl
  · rfl
  · exact h
  · exact h
  · exact h
theorem mq_tellN {t t2 : hy_T} {e c q : Int} (hk : ml_ok t) (hF : hy_F (fun r _ => r == 78) t t2) (hV : ∀ j, j < 10 → t2 78 j = mq_V t e c q 0 0 0 0 j) (n k m : Int) (hk2 : k = 98 ∨ k = 118) : mb_amt (hy_up t2 78 7 n) ((hy_up t2 78 7 n) 78) k m = mb_amt t (mq_V t e c q 0 0 n 0) k m := by
  rw [mb_amt_F (hF.up (r := 78) (j := 7) (v := n) rfl) (fun r j h => by revert h; simp [mlawX]; omega)]
  refine mb_amt_V hk (fun j hj => ?_) hk2 m
  have h := hV j hj
  rcases mq_c10 hj with rfl | rfl | rfl | rfl | rfl | rfl | rfl | rfl | rfl | rfl
  · exact h
  · exact h
  · exact h
  · exact h
  · exact h
  · exact h
  · exact h
  · rfl
  · exact h
  · exact h
theorem mq_tellO {t t2 : hy_T} {e c q : Int} (hk : ml_ok t) (hF : hy_F (fun r _ => r == 78) t t2) (hV : ∀ j, j < 10 → t2 78 j = mq_V t e c q 0 0 0 0 j) (o k m : Int) (hk2 : k = 98 ∨ k = 118) : mb_amt (hy_up t2 78 9 o) ((hy_up t2 78 9 o) 78) k m = mb_amt t (mq_V t e c q 0 0 0 o) k m := by
  rw [mb_amt_F (hF.up (r := 78) (j := 9) (v := o) rfl) (fun r j h => by revert h; simp [mlawX]; omega)]
  refine mb_amt_V hk (fun j hj => ?_) hk2 m
  have h := hV j hj
  rcases mq_c10 hj with rfl | rfl | rfl | rfl | rfl | rfl | rfl | rfl | rfl | rfl
  · exact h
  · exact h
  · exact h
  · exact h
  · exact h
  · exact h
  · exact h
  · exact h
  · exact h
  · rfl
theorem mq_as_st {t t2 : hy_T} {s : Int} {k : Nat} (hk : k < 12) (hi : ∀ j : Nat, j < k ∨ j = 12 → t2 79 j = mq_asR t s k j) {x : Int} (hx : x = if hz_b s k = true then (k : Int) else if mf_mixed t k = true then (if mq_asR t s k (t 60 k).toNat = 12 then mq_asR t s k (t 61 k).toNat else mq_asR t s k (t 60 k).toNat) else 12) : ∀ j : Nat, j < k + 1 ∨ j = 12 → hy_up t2 79 k x 79 j = mq_asR t s (k + 1) j := fun j hj => by
  simp only [hy_up, mq_asR, su]
  by_cases h : j = k
  · rw [if_pos ⟨trivial, h⟩, if_pos h, hx]
  · rw [if_neg (fun q => h q.2), if_neg h]
    exact hi j (by omega)
section MQ
variable {sc : List Int32} {t : hy_T}
theorem c_M_isMixed_as {t0 : hy_T} {c : Int} (h0 : t 59 0 = t0 59 0) (h6 : t 60 = t0 60) : hy_Ct sc hm_M_isMixed 2 [.inr (some 59), .inl c] t (hy_e (some (hy_b (mf_mixed t0 c))) t) := by
  have h := c_M_isMixed (sc := sc) (t := t) (c := c)
  rw [h0, h6] at h
  exact h
theorem c_M_holdsI {k s : Int} (hs : s = 0 ∨ s = 1) (hk : ml_ok t) : hy_Ct sc hm_M_holds 2 [.inr (some 59), .inl k, .inl s] t (fun r t' => r = some (hy_b (mb_holds t (t 78) k (decide (s = 1)))) ∧ hy_F mlX t t') := by
  rcases hs with rfl | rfl
  · exact c_M_holds (s := false) hk
  · exact c_M_holds (s := true) hk
theorem c_M_feels {e c q : Int} (hc : 0 ≤ c ∧ c < 12) (hq : 0 ≤ q ∧ q < 4) : hy_Ct sc hm_M_feels 3 [.inr (some 59), .inl e, .inl c, .inl q] t (fun r t' => r = none ∧ hy_F (fun r _ => r == 78) t t' ∧ ∀ j, j < 10 → t' 78 j = mq_V t e c q 0 0 0 0 j) := by
  refine hy_mk_ct ok_M_feels ck_M_feels (Nat.le_of_ble_eq_true rfl) ?_
  have fin : ∀ (t1 : hy_T) (v4 : hy_V), hy_F (fun r _ => r == 78) t t1 → (∀ j, j < 10 → t1 78 j = 0) → hy_W sc hm_M_feels 3 12 [.inr (some 59), .inl e, .inl c, .inl q, v4] [] t1 (fun r t' => r = none ∧ hy_F (fun r _ => r == 78) t t' ∧ ∀ j, j < 10 → t' 78 j = mq_V t e c q 0 0 0 0 j) := by
    intro t1 v4 hF hz
    have e0 : t1 59 0 = t 59 0 := hF 59 0 rfl
    have e2 : t1 59 2 = t 59 2 := hF 59 2 rfl
    have e6 : t1 60 = t 60 := funext fun j => hF 60 j rfl
    have e62 : t1 62 (4 * c + q).toNat = t 62 (4 * c + q).toNat := hF 62 _ rfl
    by_cases hm : mf_mixed t c = true
    · skip
      refine hy_aload (i := 12) rfl rfl ?_
      refine hy_getr (i := 13) rfl rfl ?_
      refine hy_const (i := 14) rfl (by decide) ?_
      refine hy_iload (i := 15) rfl rfl ?_
      refine hy_iast (i := 16) rfl rfl (by omega) (show _ = 0 from rfl) ?_
      refine hy_aload (i := 17) rfl rfl ?_
      refine hy_getr (i := 18) rfl rfl ?_
      refine hy_const (i := 19) rfl (by decide) ?_
      refine hy_iload (i := 20) rfl rfl ?_
      refine hy_iast (i := 21) rfl rfl (by omega) (show _ = 1 from rfl) ?_
      refine hy_aload (i := 22) rfl rfl ?_
      refine hy_getr (i := 23) rfl rfl ?_
      refine hy_const (i := 24) rfl (by decide) ?_
      refine hy_iload (i := 25) rfl rfl ?_
      refine hy_iast (i := 26) rfl rfl (by omega) (show _ = 2 from rfl) ?_
      refine hy_aload (i := 27) rfl rfl ?_
      refine hy_getr (i := 28) rfl rfl ?_
      refine hy_const (i := 29) rfl (by decide) ?_
      refine hy_aload (i := 30) rfl rfl ?_
      refine hy_get (i := 31) (fk := 2) rfl rfl rfl ?_
      refine hy_iast (i := 32) rfl rfl (by omega) (show _ = 3 from rfl) ?_
      refine hy_aload (i := 33) rfl rfl ?_
      refine hy_getr (i := 34) rfl rfl ?_
      refine hy_const (i := 35) rfl (by decide) ?_
      refine hy_aload (i := 36) rfl rfl ?_
      refine hy_iload (i := 37) rfl rfl ?_
      refine hy_cV1e (i := 38) rfl mj_M_isMixed (by decide) rfl (Nat.le_of_ble_eq_true rfl) rfl rfl rfl (c_M_isMixed_as (t0 := t) (by exact e0) (by exact e6)) ?_
      refine hy_ib_eq (i := 39) (tt := 42) rfl (fun zc1 => ?_) (fun zc1 => ?_)
      · exact absurd (hm.symm.trans zc1) (by decide)
      · refine hy_const (i := 40) rfl (by decide) ?_
        refine hy_goto (i := 41) (tt := 43) rfl ?_
        refine hy_iast (i := 43) rfl rfl (by omega) (show _ = 4 from rfl) ?_
        refine hy_aload (i := 44) rfl rfl ?_
        refine hy_getr (i := 45) rfl rfl ?_
        refine hy_const (i := 46) rfl (by decide) ?_
        refine hy_aload (i := 47) rfl rfl ?_
        refine hy_iload (i := 48) rfl rfl ?_
        refine hy_cV1e (i := 49) rfl mj_M_isMixed (by decide) rfl (Nat.le_of_ble_eq_true rfl) rfl rfl rfl (c_M_isMixed_as (t0 := t) (by exact e0) (by exact e6)) ?_
        refine hy_ib_eq (i := 50) (tt := 53) rfl (fun zc2 => ?_) (fun zc2 => ?_)
        · exact absurd (hm.symm.trans zc2) (by decide)
        · refine hy_const (i := 51) rfl (by decide) ?_
          refine hy_goto (i := 52) (tt := 62) rfl ?_
          refine hy_iast (i := 62) rfl rfl (by omega) (show _ = 8 from rfl) ?_
          refine hy_return (i := 63) rfl rfl ?_
          refine ⟨rfl, (((((hF.up rfl).up rfl).up rfl).up rfl).up rfl).up rfl, fun j hj => ?_⟩
          have h := hz j hj
          unfold mq_V
          rw [if_pos hm, hm]
          rcases mq_c10 hj with rfl | rfl | rfl | rfl | rfl | rfl | rfl | rfl | rfl | rfl
          · rfl
          · rfl
          · rfl
          · exact e2
          · rfl
          · exact h
          · exact h
          · exact h
          · rfl
          · exact h
    · skip
      refine hy_aload (i := 12) rfl rfl ?_
      refine hy_getr (i := 13) rfl rfl ?_
      refine hy_const (i := 14) rfl (by decide) ?_
      refine hy_iload (i := 15) rfl rfl ?_
      refine hy_iast (i := 16) rfl rfl (by omega) (show _ = 0 from rfl) ?_
      refine hy_aload (i := 17) rfl rfl ?_
      refine hy_getr (i := 18) rfl rfl ?_
      refine hy_const (i := 19) rfl (by decide) ?_
      refine hy_iload (i := 20) rfl rfl ?_
      refine hy_iast (i := 21) rfl rfl (by omega) (show _ = 1 from rfl) ?_
      refine hy_aload (i := 22) rfl rfl ?_
      refine hy_getr (i := 23) rfl rfl ?_
      refine hy_const (i := 24) rfl (by decide) ?_
      refine hy_iload (i := 25) rfl rfl ?_
      refine hy_iast (i := 26) rfl rfl (by omega) (show _ = 2 from rfl) ?_
      refine hy_aload (i := 27) rfl rfl ?_
      refine hy_getr (i := 28) rfl rfl ?_
      refine hy_const (i := 29) rfl (by decide) ?_
      refine hy_aload (i := 30) rfl rfl ?_
      refine hy_get (i := 31) (fk := 2) rfl rfl rfl ?_
      refine hy_iast (i := 32) rfl rfl (by omega) (show _ = 3 from rfl) ?_
      refine hy_aload (i := 33) rfl rfl ?_
      refine hy_getr (i := 34) rfl rfl ?_
      refine hy_const (i := 35) rfl (by decide) ?_
      refine hy_aload (i := 36) rfl rfl ?_
      refine hy_iload (i := 37) rfl rfl ?_
      refine hy_cV1e (i := 38) rfl mj_M_isMixed (by decide) rfl (Nat.le_of_ble_eq_true rfl) rfl rfl rfl (c_M_isMixed_as (t0 := t) (by exact e0) (by exact e6)) ?_
      refine hy_ib_eq (i := 39) (tt := 42) rfl (fun zc1 => ?_) (fun zc1 => ?_)
      · refine hy_const (i := 42) rfl (by decide) ?_
        refine hy_iast (i := 43) rfl rfl (by omega) (show _ = 4 from rfl) ?_
        refine hy_aload (i := 44) rfl rfl ?_
        refine hy_getr (i := 45) rfl rfl ?_
        refine hy_const (i := 46) rfl (by decide) ?_
        refine hy_aload (i := 47) rfl rfl ?_
        refine hy_iload (i := 48) rfl rfl ?_
        refine hy_cV1e (i := 49) rfl mj_M_isMixed (by decide) rfl (Nat.le_of_ble_eq_true rfl) rfl rfl rfl (c_M_isMixed_as (t0 := t) (by exact e0) (by exact e6)) ?_
        refine hy_ib_eq (i := 50) (tt := 53) rfl (fun zc2 => ?_) (fun zc2 => ?_)
        · refine hy_aload (i := 53) rfl rfl ?_
          refine hy_getr (i := 54) rfl rfl ?_
          refine hy_const (i := 55) rfl (by decide) ?_
          refine hy_iload (i := 56) rfl rfl ?_
          refine hy_imul (i := 57) rfl (by omega) ?_
          refine hy_iload (i := 58) rfl rfl ?_
          refine hy_iadd (i := 59) rfl (by omega) ?_
          refine hy_iald (i := 60) rfl rfl (by omega) rfl ?_
          refine hy_cS1e (i := 61) rfl (by decide) mj_M_bits (by decide) rfl (Nat.le_of_ble_eq_true rfl) (c_M_bits) ?_
          refine hy_iast (i := 62) rfl rfl (by omega) (show _ = 8 from rfl) ?_
          refine hy_return (i := 63) rfl rfl ?_
          refine ⟨rfl, (((((hF.up rfl).up rfl).up rfl).up rfl).up rfl).up rfl, fun j hj => ?_⟩
          have h := hz j hj
          have hm2 : mf_mixed t c = false := by cases hx : mf_mixed t c; rfl; exact absurd hx hm
          unfold mq_V
          rw [if_neg hm, hm2]
          rcases mq_c10 hj with rfl | rfl | rfl | rfl | rfl | rfl | rfl | rfl | rfl | rfl
          · rfl
          · rfl
          · rfl
          · exact e2
          · rfl
          · exact h
          · exact h
          · exact h
          · exact congrArg (fun x => mf_bitsN x 12) e62
          · exact h
        · exact absurd zc2 hm
      · exact absurd zc1 hm
  have loop : ∀ (m : Nat), ∀ (k : Nat) (t1 : hy_T), m + k = 10 → hy_F (fun r _ => r == 78) t t1 → (∀ j, j < k → t1 78 j = 0) → hy_W sc hm_M_feels 3 2 [.inr (some 59), .inl e, .inl c, .inl q, .inl (k : Int)] [] t1 (fun r t' => r = none ∧ hy_F (fun r _ => r == 78) t t' ∧ ∀ j, j < 10 → t' 78 j = mq_V t e c q 0 0 0 0 j) := by
    intro m
    induction m with
    | zero =>
      intro k t1 hm hF hz
      refine hy_iload (i := 2) rfl rfl ?_
      refine hy_const (i := 3) rfl (by decide) ?_
      refine hy_ic_ge (i := 4) (tt := 12) rfl (fun zc1 => ?_) (fun zc1 => ?_)
      · exact fin t1 _ hF (fun j hj => hz j (by omega))
      · omega
    | succ m ih =>
      intro k t1 hm hF hz
      refine hy_iload (i := 2) rfl rfl ?_
      refine hy_const (i := 3) rfl (by decide) ?_
      refine hy_ic_ge (i := 4) (tt := 12) rfl (fun zc1 => ?_) (fun zc1 => ?_)
      · omega
      · refine hy_aload (i := 5) rfl rfl ?_
        refine hy_getr (i := 6) rfl rfl ?_
        refine hy_iload (i := 7) rfl rfl ?_
        refine hy_const (i := 8) rfl (by decide) ?_
        refine hy_iast (i := 9) rfl rfl (by omega) (k := k) (by omega) ?_
        refine hy_iinc (i := 10) rfl rfl (by omega) ?_
        refine hy_goto (i := 11) (tt := 2) rfl ?_
        refine ih (k + 1) _ (by omega) (hF.up rfl) (fun j hj => ?_)
        by_cases hjk : j = k
        · simp [hy_up, hjk]
        · rw [show hy_up t1 78 k 0 78 j = t1 78 j by simp [hy_up, hjk]]; exact hz j (by omega)
  refine hy_const (i := 0) rfl (by decide) ?_
  refine hy_istore (i := 1) rfl ?_
  exact loop 10 0 t rfl hy_F.rf (fun j hj => absurd hj (by omega))
theorem c_M_isSeen {e c q s : Int} (hk : ml_ok t) (hc : 0 ≤ c ∧ c < 12) (hq : 0 ≤ q ∧ q < 4) : hy_Ct sc hm_M_isSeen 4 [.inr (some 59), .inl e, .inl c, .inl q, .inl s] t (fun r t' => r = some (hy_b (mq_isSeen t e c q s)) ∧ hy_F mvX t t') := by
  refine hy_mk_ct ok_M_isSeen ck_M_isSeen (Nat.le_of_ble_eq_true rfl) ?_
  by_cases hm : mf_mixed t c = true
  · have e1 : mq_isSeen t e c q s = mb_holds t (mq_V t e c q (hy_b (hz_b s (t 60 c.toNat))) (hy_b (hz_b s (t 61 c.toNat))) 0 0) 115 (hz_b s (t 60 c.toNat) && hz_b s (t 61 c.toNat)) := by unfold mq_isSeen; rw [if_pos hm]
    rw [e1]
    refine hy_aload (i := 0) rfl rfl ?_
    refine hy_iload (i := 1) rfl rfl ?_
    refine hy_cV1e (i := 2) rfl mj_M_isMixed (by decide) rfl (Nat.le_of_ble_eq_true rfl) rfl rfl rfl (c_M_isMixed) ?_
    refine hy_ib_ne (i := 3) (tt := 23) rfl (fun zc1 => ?_) (fun zc1 => ?_)
    · refine hy_aload (i := 23) rfl rfl ?_
      refine hy_iload (i := 24) rfl rfl ?_
      refine hy_iload (i := 25) rfl rfl ?_
      refine hy_iload (i := 26) rfl rfl ?_
      refine hy_cV3 (i := 27) rfl mj_M_feels (by decide) rfl (Nat.le_of_ble_eq_true rfl) rfl rfl rfl (c_M_feels (by omega) (by omega)) (fun r2_ t2_ h2 => ?_)
      obtain ⟨rfl, hF2, hV2⟩ := h2
      dsimp only [hy_st, List.nil_append]
      have g60 : t2_ 60 c.toNat = t 60 c.toNat := hF2 60 _ rfl
      have g61 : t2_ 61 c.toNat = t 61 c.toNat := hF2 61 _ rfl
      have hk2 := fun a b => ml_ok_F ((hF2.up (r := 78) (j := 5) (v := a) rfl).up (r := 78) (j := 6) (v := b) rfl) (fun r j h => by revert h; simp [mlawX]; omega) hk
      refine hy_aload (i := 28) rfl rfl ?_
      refine hy_getr (i := 29) rfl rfl ?_
      refine hy_const (i := 30) rfl (by decide) ?_
      refine hy_iload (i := 31) rfl rfl ?_
      refine hy_aload (i := 32) rfl rfl ?_
      refine hy_getr (i := 33) rfl rfl ?_
      refine hy_iload (i := 34) rfl rfl ?_
      refine hy_iald (i := 35) rfl rfl (by omega) rfl ?_
      rw [g60]
      refine hy_cS2e (i := 36) rfl (by decide) mj_M_has (by decide) rfl (Nat.le_of_ble_eq_true rfl) (c_M_has) ?_
      refine hy_ib_eq (i := 37) (tt := 40) rfl (fun zc2 => ?_) (fun zc2 => ?_)
      · refine hy_const (i := 40) rfl (by decide) ?_
        refine hy_iast (i := 41) rfl rfl (by omega) (show _ = 5 from rfl) ?_
        refine hy_aload (i := 42) rfl rfl ?_
        refine hy_getr (i := 43) rfl rfl ?_
        refine hy_const (i := 44) rfl (by decide) ?_
        refine hy_iload (i := 45) rfl rfl ?_
        refine hy_aload (i := 46) rfl rfl ?_
        refine hy_getr (i := 47) rfl rfl ?_
        refine hy_iload (i := 48) rfl rfl ?_
        refine hy_iald (i := 49) rfl rfl (by omega) rfl ?_
        rw [hy_up_ne (by decide), g61]
        refine hy_cS2e (i := 50) rfl (by decide) mj_M_has (by decide) rfl (Nat.le_of_ble_eq_true rfl) (c_M_has) ?_
        refine hy_ib_eq (i := 51) (tt := 54) rfl (fun zc3 => ?_) (fun zc3 => ?_)
        · refine hy_const (i := 54) rfl (by decide) ?_
          refine hy_iast (i := 55) rfl rfl (by omega) (show _ = 6 from rfl) ?_
          refine hy_aload (i := 56) rfl rfl ?_
          refine hy_const (i := 57) rfl (by decide) ?_
          refine hy_iload (i := 58) rfl rfl ?_
          refine hy_aload (i := 59) rfl rfl ?_
          refine hy_getr (i := 60) rfl rfl ?_
          refine hy_iload (i := 61) rfl rfl ?_
          refine hy_iald (i := 62) rfl rfl (by omega) rfl ?_
          rw [hy_up_ne (by decide), hy_up_ne (by decide), g60]
          refine hy_cS2e (i := 63) rfl (by decide) mj_M_has (by decide) rfl (Nat.le_of_ble_eq_true rfl) (c_M_has) ?_
          refine hy_ib_eq (i := 64) (tt := 74) rfl (fun zc4 => ?_) (fun zc4 => ?_)
          · refine hy_const (i := 74) rfl (by decide) ?_
            refine hy_cV2 (i := 75) rfl mj_M_holds (by decide) rfl (Nat.le_of_ble_eq_true rfl) rfl rfl rfl (c_M_holdsI (by first | exact .inr rfl | exact .inl rfl) (hk2 _ _)) (fun r6_ t6_ h6 => ?_)
            obtain ⟨rfl, hF6⟩ := h6
            dsimp only [hy_st, List.cons_append, List.nil_append]
            refine hy_zreturn (i := 76) rfl rfl (by first | decide | exact hy_b01 _) ?_
            refine ⟨congrArg (fun b => some (hy_b b)) ?_, mv_78 ((hF2.up rfl).up rfl) |>.tr' (ml_mv (by assumption))⟩
            rw [mq_tell hk hF2 hV2]
            first | exact bb_abs (p := hz_b s (t 60 c.toNat)) (by assumption) (by assumption) | exact bb_abs (p := hz_b s (t 61 c.toNat)) (by assumption) (by assumption) | (rw [show hz_b s (t 60 c.toNat) = _ by assumption, show hz_b s (t 61 c.toNat) = _ by assumption]; rfl)
          · refine hy_iload (i := 65) rfl rfl ?_
            refine hy_aload (i := 66) rfl rfl ?_
            refine hy_getr (i := 67) rfl rfl ?_
            refine hy_iload (i := 68) rfl rfl ?_
            refine hy_iald (i := 69) rfl rfl (by omega) rfl ?_
            rw [hy_up_ne (by decide), hy_up_ne (by decide), g61]
            refine hy_cS2e (i := 70) rfl (by decide) mj_M_has (by decide) rfl (Nat.le_of_ble_eq_true rfl) (c_M_has) ?_
            refine hy_ib_eq (i := 71) (tt := 74) rfl (fun zc5 => ?_) (fun zc5 => ?_)
            · refine hy_const (i := 74) rfl (by decide) ?_
              refine hy_cV2 (i := 75) rfl mj_M_holds (by decide) rfl (Nat.le_of_ble_eq_true rfl) rfl rfl rfl (c_M_holdsI (by first | exact .inr rfl | exact .inl rfl) (hk2 _ _)) (fun r7_ t7_ h7 => ?_)
              obtain ⟨rfl, hF7⟩ := h7
              dsimp only [hy_st, List.cons_append, List.nil_append]
              refine hy_zreturn (i := 76) rfl rfl (by first | decide | exact hy_b01 _) ?_
              refine ⟨congrArg (fun b => some (hy_b b)) ?_, mv_78 ((hF2.up rfl).up rfl) |>.tr' (ml_mv (by assumption))⟩
              rw [mq_tell hk hF2 hV2]
              first | exact bb_abs (p := hz_b s (t 60 c.toNat)) (by assumption) (by assumption) | exact bb_abs (p := hz_b s (t 61 c.toNat)) (by assumption) (by assumption) | (rw [show hz_b s (t 60 c.toNat) = _ by assumption, show hz_b s (t 61 c.toNat) = _ by assumption]; rfl)
            · refine hy_const (i := 72) rfl (by decide) ?_
              refine hy_goto (i := 73) (tt := 75) rfl ?_
              refine hy_cV2 (i := 75) rfl mj_M_holds (by decide) rfl (Nat.le_of_ble_eq_true rfl) rfl rfl rfl (c_M_holdsI (by first | exact .inr rfl | exact .inl rfl) (hk2 _ _)) (fun r7_ t7_ h7 => ?_)
              obtain ⟨rfl, hF7⟩ := h7
              dsimp only [hy_st, List.cons_append, List.nil_append]
              refine hy_zreturn (i := 76) rfl rfl (by first | decide | exact hy_b01 _) ?_
              refine ⟨congrArg (fun b => some (hy_b b)) ?_, mv_78 ((hF2.up rfl).up rfl) |>.tr' (ml_mv (by assumption))⟩
              rw [mq_tell hk hF2 hV2]
              first | exact bb_abs (p := hz_b s (t 60 c.toNat)) (by assumption) (by assumption) | exact bb_abs (p := hz_b s (t 61 c.toNat)) (by assumption) (by assumption) | (rw [show hz_b s (t 60 c.toNat) = _ by assumption, show hz_b s (t 61 c.toNat) = _ by assumption]; rfl)
        · refine hy_const (i := 52) rfl (by decide) ?_
          refine hy_goto (i := 53) (tt := 55) rfl ?_
          refine hy_iast (i := 55) rfl rfl (by omega) (show _ = 6 from rfl) ?_
          refine hy_aload (i := 56) rfl rfl ?_
          refine hy_const (i := 57) rfl (by decide) ?_
          refine hy_iload (i := 58) rfl rfl ?_
          refine hy_aload (i := 59) rfl rfl ?_
          refine hy_getr (i := 60) rfl rfl ?_
          refine hy_iload (i := 61) rfl rfl ?_
          refine hy_iald (i := 62) rfl rfl (by omega) rfl ?_
          rw [hy_up_ne (by decide), hy_up_ne (by decide), g60]
          refine hy_cS2e (i := 63) rfl (by decide) mj_M_has (by decide) rfl (Nat.le_of_ble_eq_true rfl) (c_M_has) ?_
          refine hy_ib_eq (i := 64) (tt := 74) rfl (fun zc4 => ?_) (fun zc4 => ?_)
          · refine hy_const (i := 74) rfl (by decide) ?_
            refine hy_cV2 (i := 75) rfl mj_M_holds (by decide) rfl (Nat.le_of_ble_eq_true rfl) rfl rfl rfl (c_M_holdsI (by first | exact .inr rfl | exact .inl rfl) (hk2 _ _)) (fun r6_ t6_ h6 => ?_)
            obtain ⟨rfl, hF6⟩ := h6
            dsimp only [hy_st, List.cons_append, List.nil_append]
            refine hy_zreturn (i := 76) rfl rfl (by first | decide | exact hy_b01 _) ?_
            refine ⟨congrArg (fun b => some (hy_b b)) ?_, mv_78 ((hF2.up rfl).up rfl) |>.tr' (ml_mv (by assumption))⟩
            rw [mq_tell hk hF2 hV2]
            first | exact bb_abs (p := hz_b s (t 60 c.toNat)) (by assumption) (by assumption) | exact bb_abs (p := hz_b s (t 61 c.toNat)) (by assumption) (by assumption) | (rw [show hz_b s (t 60 c.toNat) = _ by assumption, show hz_b s (t 61 c.toNat) = _ by assumption]; rfl)
          · refine hy_iload (i := 65) rfl rfl ?_
            refine hy_aload (i := 66) rfl rfl ?_
            refine hy_getr (i := 67) rfl rfl ?_
            refine hy_iload (i := 68) rfl rfl ?_
            refine hy_iald (i := 69) rfl rfl (by omega) rfl ?_
            rw [hy_up_ne (by decide), hy_up_ne (by decide), g61]
            refine hy_cS2e (i := 70) rfl (by decide) mj_M_has (by decide) rfl (Nat.le_of_ble_eq_true rfl) (c_M_has) ?_
            refine hy_ib_eq (i := 71) (tt := 74) rfl (fun zc5 => ?_) (fun zc5 => ?_)
            · refine hy_const (i := 74) rfl (by decide) ?_
              refine hy_cV2 (i := 75) rfl mj_M_holds (by decide) rfl (Nat.le_of_ble_eq_true rfl) rfl rfl rfl (c_M_holdsI (by first | exact .inr rfl | exact .inl rfl) (hk2 _ _)) (fun r7_ t7_ h7 => ?_)
              obtain ⟨rfl, hF7⟩ := h7
              dsimp only [hy_st, List.cons_append, List.nil_append]
              refine hy_zreturn (i := 76) rfl rfl (by first | decide | exact hy_b01 _) ?_
              refine ⟨congrArg (fun b => some (hy_b b)) ?_, mv_78 ((hF2.up rfl).up rfl) |>.tr' (ml_mv (by assumption))⟩
              rw [mq_tell hk hF2 hV2]
              first | exact bb_abs (p := hz_b s (t 60 c.toNat)) (by assumption) (by assumption) | exact bb_abs (p := hz_b s (t 61 c.toNat)) (by assumption) (by assumption) | (rw [show hz_b s (t 60 c.toNat) = _ by assumption, show hz_b s (t 61 c.toNat) = _ by assumption]; rfl)
            · refine hy_const (i := 72) rfl (by decide) ?_
              refine hy_goto (i := 73) (tt := 75) rfl ?_
              refine hy_cV2 (i := 75) rfl mj_M_holds (by decide) rfl (Nat.le_of_ble_eq_true rfl) rfl rfl rfl (c_M_holdsI (by first | exact .inr rfl | exact .inl rfl) (hk2 _ _)) (fun r7_ t7_ h7 => ?_)
              obtain ⟨rfl, hF7⟩ := h7
              dsimp only [hy_st, List.cons_append, List.nil_append]
              refine hy_zreturn (i := 76) rfl rfl (by first | decide | exact hy_b01 _) ?_
              refine ⟨congrArg (fun b => some (hy_b b)) ?_, mv_78 ((hF2.up rfl).up rfl) |>.tr' (ml_mv (by assumption))⟩
              rw [mq_tell hk hF2 hV2]
              first | exact bb_abs (p := hz_b s (t 60 c.toNat)) (by assumption) (by assumption) | exact bb_abs (p := hz_b s (t 61 c.toNat)) (by assumption) (by assumption) | (rw [show hz_b s (t 60 c.toNat) = _ by assumption, show hz_b s (t 61 c.toNat) = _ by assumption]; rfl)
      · refine hy_const (i := 38) rfl (by decide) ?_
        refine hy_goto (i := 39) (tt := 41) rfl ?_
        refine hy_iast (i := 41) rfl rfl (by omega) (show _ = 5 from rfl) ?_
        refine hy_aload (i := 42) rfl rfl ?_
        refine hy_getr (i := 43) rfl rfl ?_
        refine hy_const (i := 44) rfl (by decide) ?_
        refine hy_iload (i := 45) rfl rfl ?_
        refine hy_aload (i := 46) rfl rfl ?_
        refine hy_getr (i := 47) rfl rfl ?_
        refine hy_iload (i := 48) rfl rfl ?_
        refine hy_iald (i := 49) rfl rfl (by omega) rfl ?_
        rw [hy_up_ne (by decide), g61]
        refine hy_cS2e (i := 50) rfl (by decide) mj_M_has (by decide) rfl (Nat.le_of_ble_eq_true rfl) (c_M_has) ?_
        refine hy_ib_eq (i := 51) (tt := 54) rfl (fun zc3 => ?_) (fun zc3 => ?_)
        · refine hy_const (i := 54) rfl (by decide) ?_
          refine hy_iast (i := 55) rfl rfl (by omega) (show _ = 6 from rfl) ?_
          refine hy_aload (i := 56) rfl rfl ?_
          refine hy_const (i := 57) rfl (by decide) ?_
          refine hy_iload (i := 58) rfl rfl ?_
          refine hy_aload (i := 59) rfl rfl ?_
          refine hy_getr (i := 60) rfl rfl ?_
          refine hy_iload (i := 61) rfl rfl ?_
          refine hy_iald (i := 62) rfl rfl (by omega) rfl ?_
          rw [hy_up_ne (by decide), hy_up_ne (by decide), g60]
          refine hy_cS2e (i := 63) rfl (by decide) mj_M_has (by decide) rfl (Nat.le_of_ble_eq_true rfl) (c_M_has) ?_
          refine hy_ib_eq (i := 64) (tt := 74) rfl (fun zc4 => ?_) (fun zc4 => ?_)
          · refine hy_const (i := 74) rfl (by decide) ?_
            refine hy_cV2 (i := 75) rfl mj_M_holds (by decide) rfl (Nat.le_of_ble_eq_true rfl) rfl rfl rfl (c_M_holdsI (by first | exact .inr rfl | exact .inl rfl) (hk2 _ _)) (fun r6_ t6_ h6 => ?_)
            obtain ⟨rfl, hF6⟩ := h6
            dsimp only [hy_st, List.cons_append, List.nil_append]
            refine hy_zreturn (i := 76) rfl rfl (by first | decide | exact hy_b01 _) ?_
            refine ⟨congrArg (fun b => some (hy_b b)) ?_, mv_78 ((hF2.up rfl).up rfl) |>.tr' (ml_mv (by assumption))⟩
            rw [mq_tell hk hF2 hV2]
            first | exact bb_abs (p := hz_b s (t 60 c.toNat)) (by assumption) (by assumption) | exact bb_abs (p := hz_b s (t 61 c.toNat)) (by assumption) (by assumption) | (rw [show hz_b s (t 60 c.toNat) = _ by assumption, show hz_b s (t 61 c.toNat) = _ by assumption]; rfl)
          · refine hy_iload (i := 65) rfl rfl ?_
            refine hy_aload (i := 66) rfl rfl ?_
            refine hy_getr (i := 67) rfl rfl ?_
            refine hy_iload (i := 68) rfl rfl ?_
            refine hy_iald (i := 69) rfl rfl (by omega) rfl ?_
            rw [hy_up_ne (by decide), hy_up_ne (by decide), g61]
            refine hy_cS2e (i := 70) rfl (by decide) mj_M_has (by decide) rfl (Nat.le_of_ble_eq_true rfl) (c_M_has) ?_
            refine hy_ib_eq (i := 71) (tt := 74) rfl (fun zc5 => ?_) (fun zc5 => ?_)
            · refine hy_const (i := 74) rfl (by decide) ?_
              refine hy_cV2 (i := 75) rfl mj_M_holds (by decide) rfl (Nat.le_of_ble_eq_true rfl) rfl rfl rfl (c_M_holdsI (by first | exact .inr rfl | exact .inl rfl) (hk2 _ _)) (fun r7_ t7_ h7 => ?_)
              obtain ⟨rfl, hF7⟩ := h7
              dsimp only [hy_st, List.cons_append, List.nil_append]
              refine hy_zreturn (i := 76) rfl rfl (by first | decide | exact hy_b01 _) ?_
              refine ⟨congrArg (fun b => some (hy_b b)) ?_, mv_78 ((hF2.up rfl).up rfl) |>.tr' (ml_mv (by assumption))⟩
              rw [mq_tell hk hF2 hV2]
              first | exact bb_abs (p := hz_b s (t 60 c.toNat)) (by assumption) (by assumption) | exact bb_abs (p := hz_b s (t 61 c.toNat)) (by assumption) (by assumption) | (rw [show hz_b s (t 60 c.toNat) = _ by assumption, show hz_b s (t 61 c.toNat) = _ by assumption]; rfl)
            · refine hy_const (i := 72) rfl (by decide) ?_
              refine hy_goto (i := 73) (tt := 75) rfl ?_
              refine hy_cV2 (i := 75) rfl mj_M_holds (by decide) rfl (Nat.le_of_ble_eq_true rfl) rfl rfl rfl (c_M_holdsI (by first | exact .inr rfl | exact .inl rfl) (hk2 _ _)) (fun r7_ t7_ h7 => ?_)
              obtain ⟨rfl, hF7⟩ := h7
              dsimp only [hy_st, List.cons_append, List.nil_append]
              refine hy_zreturn (i := 76) rfl rfl (by first | decide | exact hy_b01 _) ?_
              refine ⟨congrArg (fun b => some (hy_b b)) ?_, mv_78 ((hF2.up rfl).up rfl) |>.tr' (ml_mv (by assumption))⟩
              rw [mq_tell hk hF2 hV2]
              first | exact bb_abs (p := hz_b s (t 60 c.toNat)) (by assumption) (by assumption) | exact bb_abs (p := hz_b s (t 61 c.toNat)) (by assumption) (by assumption) | (rw [show hz_b s (t 60 c.toNat) = _ by assumption, show hz_b s (t 61 c.toNat) = _ by assumption]; rfl)
        · refine hy_const (i := 52) rfl (by decide) ?_
          refine hy_goto (i := 53) (tt := 55) rfl ?_
          refine hy_iast (i := 55) rfl rfl (by omega) (show _ = 6 from rfl) ?_
          refine hy_aload (i := 56) rfl rfl ?_
          refine hy_const (i := 57) rfl (by decide) ?_
          refine hy_iload (i := 58) rfl rfl ?_
          refine hy_aload (i := 59) rfl rfl ?_
          refine hy_getr (i := 60) rfl rfl ?_
          refine hy_iload (i := 61) rfl rfl ?_
          refine hy_iald (i := 62) rfl rfl (by omega) rfl ?_
          rw [hy_up_ne (by decide), hy_up_ne (by decide), g60]
          refine hy_cS2e (i := 63) rfl (by decide) mj_M_has (by decide) rfl (Nat.le_of_ble_eq_true rfl) (c_M_has) ?_
          refine hy_ib_eq (i := 64) (tt := 74) rfl (fun zc4 => ?_) (fun zc4 => ?_)
          · refine hy_const (i := 74) rfl (by decide) ?_
            refine hy_cV2 (i := 75) rfl mj_M_holds (by decide) rfl (Nat.le_of_ble_eq_true rfl) rfl rfl rfl (c_M_holdsI (by first | exact .inr rfl | exact .inl rfl) (hk2 _ _)) (fun r6_ t6_ h6 => ?_)
            obtain ⟨rfl, hF6⟩ := h6
            dsimp only [hy_st, List.cons_append, List.nil_append]
            refine hy_zreturn (i := 76) rfl rfl (by first | decide | exact hy_b01 _) ?_
            refine ⟨congrArg (fun b => some (hy_b b)) ?_, mv_78 ((hF2.up rfl).up rfl) |>.tr' (ml_mv (by assumption))⟩
            rw [mq_tell hk hF2 hV2]
            first | exact bb_abs (p := hz_b s (t 60 c.toNat)) (by assumption) (by assumption) | exact bb_abs (p := hz_b s (t 61 c.toNat)) (by assumption) (by assumption) | (rw [show hz_b s (t 60 c.toNat) = _ by assumption, show hz_b s (t 61 c.toNat) = _ by assumption]; rfl)
          · refine hy_iload (i := 65) rfl rfl ?_
            refine hy_aload (i := 66) rfl rfl ?_
            refine hy_getr (i := 67) rfl rfl ?_
            refine hy_iload (i := 68) rfl rfl ?_
            refine hy_iald (i := 69) rfl rfl (by omega) rfl ?_
            rw [hy_up_ne (by decide), hy_up_ne (by decide), g61]
            refine hy_cS2e (i := 70) rfl (by decide) mj_M_has (by decide) rfl (Nat.le_of_ble_eq_true rfl) (c_M_has) ?_
            refine hy_ib_eq (i := 71) (tt := 74) rfl (fun zc5 => ?_) (fun zc5 => ?_)
            · refine hy_const (i := 74) rfl (by decide) ?_
              refine hy_cV2 (i := 75) rfl mj_M_holds (by decide) rfl (Nat.le_of_ble_eq_true rfl) rfl rfl rfl (c_M_holdsI (by first | exact .inr rfl | exact .inl rfl) (hk2 _ _)) (fun r7_ t7_ h7 => ?_)
              obtain ⟨rfl, hF7⟩ := h7
              dsimp only [hy_st, List.cons_append, List.nil_append]
              refine hy_zreturn (i := 76) rfl rfl (by first | decide | exact hy_b01 _) ?_
              refine ⟨congrArg (fun b => some (hy_b b)) ?_, mv_78 ((hF2.up rfl).up rfl) |>.tr' (ml_mv (by assumption))⟩
              rw [mq_tell hk hF2 hV2]
              first | exact bb_abs (p := hz_b s (t 60 c.toNat)) (by assumption) (by assumption) | exact bb_abs (p := hz_b s (t 61 c.toNat)) (by assumption) (by assumption) | (rw [show hz_b s (t 60 c.toNat) = _ by assumption, show hz_b s (t 61 c.toNat) = _ by assumption]; rfl)
            · refine hy_const (i := 72) rfl (by decide) ?_
              refine hy_goto (i := 73) (tt := 75) rfl ?_
              refine hy_cV2 (i := 75) rfl mj_M_holds (by decide) rfl (Nat.le_of_ble_eq_true rfl) rfl rfl rfl (c_M_holdsI (by first | exact .inr rfl | exact .inl rfl) (hk2 _ _)) (fun r7_ t7_ h7 => ?_)
              obtain ⟨rfl, hF7⟩ := h7
              dsimp only [hy_st, List.cons_append, List.nil_append]
              refine hy_zreturn (i := 76) rfl rfl (by first | decide | exact hy_b01 _) ?_
              refine ⟨congrArg (fun b => some (hy_b b)) ?_, mv_78 ((hF2.up rfl).up rfl) |>.tr' (ml_mv (by assumption))⟩
              rw [mq_tell hk hF2 hV2]
              first | exact bb_abs (p := hz_b s (t 60 c.toNat)) (by assumption) (by assumption) | exact bb_abs (p := hz_b s (t 61 c.toNat)) (by assumption) (by assumption) | (rw [show hz_b s (t 60 c.toNat) = _ by assumption, show hz_b s (t 61 c.toNat) = _ by assumption]; rfl)
    · exact absurd (hm.symm.trans zc1) (by decide)
  · have e1 : mq_isSeen t e c q s = ((sp_told (t 59 0) c && decide (t 60 c.toNat = -1)) && hz_b (t 62 (4 * c + q).toNat) e) := by unfold mq_isSeen; rw [if_neg hm]
    rw [e1]
    refine hy_aload (i := 0) rfl rfl ?_
    refine hy_iload (i := 1) rfl rfl ?_
    refine hy_cV1e (i := 2) rfl mj_M_isMixed (by decide) rfl (Nat.le_of_ble_eq_true rfl) rfl rfl rfl (c_M_isMixed) ?_
    refine hy_ib_ne (i := 3) (tt := 23) rfl (fun zc1 => ?_) (fun zc1 => ?_)
    · exact absurd zc1 hm
    · refine hy_aload (i := 4) rfl rfl ?_
      refine hy_iload (i := 5) rfl rfl ?_
      refine hy_cV1e (i := 6) rfl mj_M_isPlain (by decide) rfl (Nat.le_of_ble_eq_true rfl) rfl rfl rfl (c_M_isPlain) ?_
      refine hy_ib_eq (i := 7) (tt := 21) rfl (fun zc2 => ?_) (fun zc2 => ?_)
      · refine hy_const (i := 21) rfl (by decide) ?_
        refine hy_zreturn (i := 22) rfl rfl (by first | decide | exact hy_b01 _) ?_
        refine ⟨congrArg some ?_, hy_F.rf⟩
        first | (rw [show (sp_told (t 59 0) c && decide (t 60 c.toNat = -1)) = true by assumption, show hz_b (t 62 (4 * c + q).toNat) e = true by assumption]; rfl) | (rw [show (sp_told (t 59 0) c && decide (t 60 c.toNat = -1)) = true by assumption, show hz_b (t 62 (4 * c + q).toNat) e = false by assumption]; rfl) | (rw [show (sp_told (t 59 0) c && decide (t 60 c.toNat = -1)) = false by assumption]; rfl)
      · refine hy_aload (i := 8) rfl rfl ?_
        refine hy_getr (i := 9) rfl rfl ?_
        refine hy_const (i := 10) rfl (by decide) ?_
        refine hy_iload (i := 11) rfl rfl ?_
        refine hy_imul (i := 12) rfl (by omega) ?_
        refine hy_iload (i := 13) rfl rfl ?_
        refine hy_iadd (i := 14) rfl (by omega) ?_
        refine hy_iald (i := 15) rfl rfl (by omega) rfl ?_
        refine hy_iload (i := 16) rfl rfl ?_
        refine hy_cS2e (i := 17) rfl (by decide) mj_M_has (by decide) rfl (Nat.le_of_ble_eq_true rfl) (c_M_has) ?_
        refine hy_ib_eq (i := 18) (tt := 21) rfl (fun zc3 => ?_) (fun zc3 => ?_)
        · refine hy_const (i := 21) rfl (by decide) ?_
          refine hy_zreturn (i := 22) rfl rfl (by first | decide | exact hy_b01 _) ?_
          refine ⟨congrArg some ?_, hy_F.rf⟩
          first | (rw [show (sp_told (t 59 0) c && decide (t 60 c.toNat = -1)) = true by assumption, show hz_b (t 62 (4 * c + q).toNat) e = true by assumption]; rfl) | (rw [show (sp_told (t 59 0) c && decide (t 60 c.toNat = -1)) = true by assumption, show hz_b (t 62 (4 * c + q).toNat) e = false by assumption]; rfl) | (rw [show (sp_told (t 59 0) c && decide (t 60 c.toNat = -1)) = false by assumption]; rfl)
        · refine hy_const (i := 19) rfl (by decide) ?_
          refine hy_goto (i := 20) (tt := 22) rfl ?_
          refine hy_zreturn (i := 22) rfl rfl (by first | decide | exact hy_b01 _) ?_
          refine ⟨congrArg some ?_, hy_F.rf⟩
          first | (rw [show (sp_told (t 59 0) c && decide (t 60 c.toNat = -1)) = true by assumption, show hz_b (t 62 (4 * c + q).toNat) e = true by assumption]; rfl) | (rw [show (sp_told (t 59 0) c && decide (t 60 c.toNat = -1)) = true by assumption, show hz_b (t 62 (4 * c + q).toNat) e = false by assumption]; rfl) | (rw [show (sp_told (t 59 0) c && decide (t 60 c.toNat = -1)) = false by assumption]; rfl)
theorem c_M_seenBy {e q : Int} (hk : ml_ok t) (hq : 0 ≤ q ∧ q < 4) : hy_Ct sc hm_M_seenBy 5 [.inr (some 59), .inl e, .inl q] t (fun r t' => r = some (mq_seenN t e q 12) ∧ hy_F mvX t t') := by
  refine hy_mk_ct ok_M_seenBy ck_M_seenBy (Nat.le_of_ble_eq_true rfl) ?_
  have loop : ∀ (m : Nat), ∀ (k : Nat) (t1 : hy_T), m + k = 12 → hy_F mvX t t1 → hy_W sc hm_M_seenBy 5 4 [.inr (some 59), .inl e, .inl q, .inl (mq_seenN t e q k), .inl (k : Int)] [] t1 (fun r t' => r = some (mq_seenN t e q 12) ∧ hy_F mvX t t') := by
    intro m
    induction m with
    | zero =>
      intro k t1 hm hF
      obtain rfl : k = 12 := by omega
      refine hy_iload (i := 4) rfl rfl ?_
      refine hy_const (i := 5) rfl (by decide) ?_
      refine hy_ic_ge (i := 6) (tt := 22) rfl (fun zc1 => ?_) (fun zc1 => ?_)
      · refine hy_iload (i := 22) rfl rfl ?_
        refine hy_ireturn (i := 23) rfl rfl ?_
        exact ⟨rfl, hF⟩
      · omega
    | succ m ih =>
      intro k t1 hm hF
      have hk1 := ml_ok_F hF (meq_law mvX_meq) hk
      have e1 : mq_seenN t e q (k + 1) = if mq_isSeen t e k q (mq_seenN t e q k) = true then hz_ior (mq_seenN t e q k) (hz_ishl 1 k) else mq_seenN t e q k := rfl
      refine hy_iload (i := 4) rfl rfl ?_
      refine hy_const (i := 5) rfl (by decide) ?_
      refine hy_ic_ge (i := 6) (tt := 22) rfl (fun zc1 => ?_) (fun zc1 => ?_)
      · omega
      · refine hy_aload (i := 7) rfl rfl ?_
        refine hy_iload (i := 8) rfl rfl ?_
        refine hy_iload (i := 9) rfl rfl ?_
        refine hy_iload (i := 10) rfl rfl ?_
        refine hy_iload (i := 11) rfl rfl ?_
        refine hy_cV4 (i := 12) rfl mj_M_isSeen (by decide) rfl (Nat.le_of_ble_eq_true rfl) rfl rfl rfl (c_M_isSeen (by assumption) (by omega) (by omega)) (fun r1_ t1_ h1 => ?_)
        obtain ⟨rfl, hF1⟩ := h1
        dsimp only [hy_st, List.cons_append, List.nil_append]
        rw [mq_isSeen_F hF mvX_meq]
        refine hy_ib_eq (i := 13) (tt := 20) rfl (fun zc2 => ?_) (fun zc2 => ?_)
        · refine hy_iinc (i := 20) rfl rfl (by omega) ?_
          refine hy_goto (i := 21) (tt := 4) rfl ?_
          first | (rw [if_pos (show mq_isSeen t e k q (mq_seenN t e q k) = true by assumption)] at e1; rw [← e1]; exact ih (k + 1) _ (by omega) (hF.tr' hF1)) | (rw [if_neg (by rw [show mq_isSeen t e k q (mq_seenN t e q k) = false by assumption]; decide)] at e1; rw [← e1]; exact ih (k + 1) _ (by omega) (hF.tr' hF1))
        · refine hy_iload (i := 14) rfl rfl ?_
          refine hy_const (i := 15) rfl (by decide) ?_
          refine hy_iload (i := 16) rfl rfl ?_
          refine hy_ishl (i := 17) rfl ?_
          refine hy_ior (i := 18) rfl ?_
          refine hy_istore (i := 19) rfl ?_
          refine hy_iinc (i := 20) rfl rfl (by omega) ?_
          refine hy_goto (i := 21) (tt := 4) rfl ?_
          first | (rw [if_pos (show mq_isSeen t e k q (mq_seenN t e q k) = true by assumption)] at e1; rw [← e1]; exact ih (k + 1) _ (by omega) (hF.tr' hF1)) | (rw [if_neg (by rw [show mq_isSeen t e k q (mq_seenN t e q k) = false by assumption]; decide)] at e1; rw [← e1]; exact ih (k + 1) _ (by omega) (hF.tr' hF1))
  refine hy_const (i := 0) rfl (by decide) ?_
  refine hy_istore (i := 1) rfl ?_
  refine hy_const (i := 2) rfl (by decide) ?_
  refine hy_istore (i := 3) rfl ?_
  exact loop 12 0 t rfl hy_F.rf
theorem c_M_laysAs {e q : Int} (hk : ml_ok t) (hp : me_pal t) (hq : 0 ≤ q ∧ q < 4) : hy_Ct sc hm_M_laysAs 6 [.inr (some 59), .inl e, .inl q] t (fun r t' => r = none ∧ hy_F meX t t' ∧ ∀ j : Nat, j ≤ 12 → t' 79 j = mq_as t e q j) := by
  refine hy_mk_ct ok_M_laysAs ck_M_laysAs (Nat.le_of_ble_eq_true rfl) ?_
  have loop : ∀ (s : Int), s = mq_seenN t e q 12 → ∀ (m : Nat), ∀ (k : Nat) (t2 : hy_T), m + k = 12 → hy_F meX t t2 → (∀ j : Nat, j < k ∨ j = 12 → t2 79 j = mq_asR t s k j) → hy_W sc hm_M_laysAs 6 12 [.inr (some 59), .inl e, .inl q, .inl s, .inl (k : Int)] [] t2 (fun r t' => r = none ∧ hy_F meX t t' ∧ ∀ j : Nat, j ≤ 12 → t' 79 j = mq_as t e q j) := by
    intro s hs m
    induction m with
    | zero =>
      intro k t2 hm hF hi
      obtain rfl : k = 12 := by omega
      refine hy_iload (i := 12) rfl rfl ?_
      refine hy_const (i := 13) rfl (by decide) ?_
      refine hy_ic_ge (i := 14) (tt := 65) rfl (fun zc1 => ?_) (fun zc1 => ?_)
      · refine hy_return (i := 65) rfl rfl ?_
        exact ⟨rfl, hF, fun j hj => by rw [hi j (by omega), hs]; rfl⟩
      · omega
    | succ m ih =>
      intro k t2 hm hF hi
      have hpk := hp k (by omega)
      have e0 : t2 59 0 = t 59 0 := hF 59 0 rfl
      have e6 : t2 60 = t 60 := funext fun j => hF 60 j rfl
      have g60 : t2 60 k = t 60 k := hF 60 k rfl
      have g61 : t2 61 k = t 61 k := hF 61 k rfl
      by_cases hb : hz_b s k = true
      · skip
        refine hy_iload (i := 12) rfl rfl ?_
        refine hy_const (i := 13) rfl (by decide) ?_
        refine hy_ic_ge (i := 14) (tt := 65) rfl (fun zc1 => ?_) (fun zc1 => ?_)
        · omega
        · refine hy_aload (i := 15) rfl rfl ?_
          refine hy_getr (i := 16) rfl rfl ?_
          refine hy_iload (i := 17) rfl rfl ?_
          refine hy_iload (i := 18) rfl rfl ?_
          refine hy_iload (i := 19) rfl rfl ?_
          refine hy_cS2e (i := 20) rfl (by decide) mj_M_has (by decide) rfl (Nat.le_of_ble_eq_true rfl) (c_M_has) ?_
          refine hy_ib_eq (i := 21) (tt := 24) rfl (fun zc2 => ?_) (fun zc2 => ?_)
          · exact absurd (hb.symm.trans (by assumption)) (by decide)
          · refine hy_iload (i := 22) rfl rfl ?_
            refine hy_goto (i := 23) (tt := 25) rfl ?_
            refine hy_iast (i := 25) rfl rfl (by omega) (k := k) (by omega) ?_
            refine hy_iload (i := 26) rfl rfl ?_
            refine hy_iload (i := 27) rfl rfl ?_
            refine hy_cS2e (i := 28) rfl (by decide) mj_M_has (by decide) rfl (Nat.le_of_ble_eq_true rfl) (c_M_has) ?_
            refine hy_ib_ne (i := 29) (tt := 63) rfl (fun zc3 => ?_) (fun zc3 => ?_)
            · refine hy_iinc (i := 63) rfl rfl (by omega) ?_
              refine hy_goto (i := 64) (tt := 12) rfl ?_
              exact ih (k + 1) _ (by omega) (hF.up rfl) (mq_as_st (by omega) hi (by rw [if_pos hb]))
            · exact absurd (hb.symm.trans (by assumption)) (by decide)
      · by_cases hx : mf_mixed t k = true
        · obtain ⟨p1, p2⟩ := hpk.2 hx
          have v1 : hy_up t2 79 k 12 79 (t 60 k).toNat = mq_asR t s k (t 60 k).toNat := by
            simp only [hy_up]
            rw [if_neg (by omega)]
            exact hi _ (by omega)
          have v2 : hy_up t2 79 k 12 79 (t 61 k).toNat = mq_asR t s k (t 61 k).toNat := by
            simp only [hy_up]
            rw [if_neg (by omega)]
            exact hi _ (by omega)
          refine hy_iload (i := 12) rfl rfl ?_
          refine hy_const (i := 13) rfl (by decide) ?_
          refine hy_ic_ge (i := 14) (tt := 65) rfl (fun zc1 => ?_) (fun zc1 => ?_)
          · omega
          · refine hy_aload (i := 15) rfl rfl ?_
            refine hy_getr (i := 16) rfl rfl ?_
            refine hy_iload (i := 17) rfl rfl ?_
            refine hy_iload (i := 18) rfl rfl ?_
            refine hy_iload (i := 19) rfl rfl ?_
            refine hy_cS2e (i := 20) rfl (by decide) mj_M_has (by decide) rfl (Nat.le_of_ble_eq_true rfl) (c_M_has) ?_
            refine hy_ib_eq (i := 21) (tt := 24) rfl (fun zc2 => ?_) (fun zc2 => ?_)
            · refine hy_const (i := 24) rfl (by decide) ?_
              refine hy_iast (i := 25) rfl rfl (by omega) (k := k) (by omega) ?_
              refine hy_iload (i := 26) rfl rfl ?_
              refine hy_iload (i := 27) rfl rfl ?_
              refine hy_cS2e (i := 28) rfl (by decide) mj_M_has (by decide) rfl (Nat.le_of_ble_eq_true rfl) (c_M_has) ?_
              refine hy_ib_ne (i := 29) (tt := 63) rfl (fun zc3 => ?_) (fun zc3 => ?_)
              · exact absurd (by assumption) hb
              · refine hy_aload (i := 30) rfl rfl ?_
                refine hy_iload (i := 31) rfl rfl ?_
                refine hy_cV1e (i := 32) rfl mj_M_isMixed (by decide) rfl (Nat.le_of_ble_eq_true rfl) rfl rfl rfl (c_M_isMixed_as (t0 := t) (by exact e0) (by exact e6)) ?_
                refine hy_ib_ne (i := 33) (tt := 35) rfl (fun zc4 => ?_) (fun zc4 => ?_)
                · refine hy_aload (i := 35) rfl rfl ?_
                  refine hy_getr (i := 36) rfl rfl ?_
                  refine hy_iload (i := 37) rfl rfl ?_
                  refine hy_aload (i := 38) rfl rfl ?_
                  refine hy_getr (i := 39) rfl rfl ?_
                  refine hy_aload (i := 40) rfl rfl ?_
                  refine hy_getr (i := 41) rfl rfl ?_
                  refine hy_iload (i := 42) rfl rfl ?_
                  refine hy_iald (i := 43) rfl rfl (by omega) (k := k) (by omega) ?_
                  rw [hy_up_ne (by decide), g60]
                  refine hy_iald (i := 44) rfl rfl (by omega) rfl ?_
                  rw [v1]
                  refine hy_const (i := 45) rfl (by decide) ?_
                  refine hy_ic_eq (i := 46) (tt := 55) rfl (fun zc5 => ?_) (fun zc5 => ?_)
                  · refine hy_aload (i := 55) rfl rfl ?_
                    refine hy_getr (i := 56) rfl rfl ?_
                    refine hy_aload (i := 57) rfl rfl ?_
                    refine hy_getr (i := 58) rfl rfl ?_
                    refine hy_iload (i := 59) rfl rfl ?_
                    refine hy_iald (i := 60) rfl rfl (by omega) (k := k) (by omega) ?_
                    rw [hy_up_ne (by decide), g61]
                    refine hy_iald (i := 61) rfl rfl (by omega) rfl ?_
                    refine hy_iast (i := 62) rfl rfl (by omega) (k := k) (by omega) ?_
                    refine hy_iinc (i := 63) rfl rfl (by omega) ?_
                    refine hy_goto (i := 64) (tt := 12) rfl ?_
                    first | (rw [v2, hy_up_up]; exact ih (k + 1) _ (by omega) (hF.up rfl) (mq_as_st (by omega) hi (by rw [if_neg hb, if_pos hx, if_pos (by assumption)]))) | (rw [hy_up_up]; exact ih (k + 1) _ (by omega) (hF.up rfl) (mq_as_st (by omega) hi (by rw [if_neg hb, if_pos hx, if_neg (by assumption)])))
                  · refine hy_aload (i := 47) rfl rfl ?_
                    refine hy_getr (i := 48) rfl rfl ?_
                    refine hy_aload (i := 49) rfl rfl ?_
                    refine hy_getr (i := 50) rfl rfl ?_
                    refine hy_iload (i := 51) rfl rfl ?_
                    refine hy_iald (i := 52) rfl rfl (by omega) (k := k) (by omega) ?_
                    rw [hy_up_ne (by decide), g60]
                    refine hy_iald (i := 53) rfl rfl (by omega) rfl ?_
                    rw [v1]
                    refine hy_goto (i := 54) (tt := 62) rfl ?_
                    refine hy_iast (i := 62) rfl rfl (by omega) (k := k) (by omega) ?_
                    refine hy_iinc (i := 63) rfl rfl (by omega) ?_
                    refine hy_goto (i := 64) (tt := 12) rfl ?_
                    first | (rw [v2, hy_up_up]; exact ih (k + 1) _ (by omega) (hF.up rfl) (mq_as_st (by omega) hi (by rw [if_neg hb, if_pos hx, if_pos (by assumption)]))) | (rw [hy_up_up]; exact ih (k + 1) _ (by omega) (hF.up rfl) (mq_as_st (by omega) hi (by rw [if_neg hb, if_pos hx, if_neg (by assumption)])))
                · exact absurd (hx.symm.trans (by assumption)) (by decide)
            · exact absurd (by assumption) hb
        · skip
          refine hy_iload (i := 12) rfl rfl ?_
          refine hy_const (i := 13) rfl (by decide) ?_
          refine hy_ic_ge (i := 14) (tt := 65) rfl (fun zc1 => ?_) (fun zc1 => ?_)
          · omega
          · refine hy_aload (i := 15) rfl rfl ?_
            refine hy_getr (i := 16) rfl rfl ?_
            refine hy_iload (i := 17) rfl rfl ?_
            refine hy_iload (i := 18) rfl rfl ?_
            refine hy_iload (i := 19) rfl rfl ?_
            refine hy_cS2e (i := 20) rfl (by decide) mj_M_has (by decide) rfl (Nat.le_of_ble_eq_true rfl) (c_M_has) ?_
            refine hy_ib_eq (i := 21) (tt := 24) rfl (fun zc2 => ?_) (fun zc2 => ?_)
            · refine hy_const (i := 24) rfl (by decide) ?_
              refine hy_iast (i := 25) rfl rfl (by omega) (k := k) (by omega) ?_
              refine hy_iload (i := 26) rfl rfl ?_
              refine hy_iload (i := 27) rfl rfl ?_
              refine hy_cS2e (i := 28) rfl (by decide) mj_M_has (by decide) rfl (Nat.le_of_ble_eq_true rfl) (c_M_has) ?_
              refine hy_ib_ne (i := 29) (tt := 63) rfl (fun zc3 => ?_) (fun zc3 => ?_)
              · exact absurd (by assumption) hb
              · refine hy_aload (i := 30) rfl rfl ?_
                refine hy_iload (i := 31) rfl rfl ?_
                refine hy_cV1e (i := 32) rfl mj_M_isMixed (by decide) rfl (Nat.le_of_ble_eq_true rfl) rfl rfl rfl (c_M_isMixed_as (t0 := t) (by exact e0) (by exact e6)) ?_
                refine hy_ib_ne (i := 33) (tt := 35) rfl (fun zc4 => ?_) (fun zc4 => ?_)
                · exact absurd (by assumption) hx
                · refine hy_goto (i := 34) (tt := 63) rfl ?_
                  refine hy_iinc (i := 63) rfl rfl (by omega) ?_
                  refine hy_goto (i := 64) (tt := 12) rfl ?_
                  exact ih (k + 1) _ (by omega) (hF.up rfl) (mq_as_st (by omega) hi (by rw [if_neg hb, if_neg hx]))
            · exact absurd (by assumption) hb
  refine hy_aload (i := 0) rfl rfl ?_
  refine hy_iload (i := 1) rfl rfl ?_
  refine hy_iload (i := 2) rfl rfl ?_
  refine hy_cV2 (i := 3) rfl mj_M_seenBy (by decide) rfl (Nat.le_of_ble_eq_true rfl) rfl rfl rfl (c_M_seenBy (by assumption) (by omega)) (fun r1_ t1_ h1 => ?_)
  obtain ⟨rfl, hF1⟩ := h1
  dsimp only [hy_st, List.cons_append, List.nil_append]
  refine hy_istore (i := 4) rfl ?_
  refine hy_aload (i := 5) rfl rfl ?_
  refine hy_getr (i := 6) rfl rfl ?_
  refine hy_const (i := 7) rfl (by decide) ?_
  refine hy_const (i := 8) rfl (by decide) ?_
  refine hy_iast (i := 9) rfl rfl (by omega) (show _ = 12 from rfl) ?_
  refine hy_const (i := 10) rfl (by decide) ?_
  refine hy_istore (i := 11) rfl ?_
  exact loop _ rfl 12 0 _ rfl ((mv_me hF1).up rfl) (fun j hj => by obtain rfl : j = 12 := (by omega); rfl)
abbrev mq_ecq (t : hy_T) (e c q : Int) : Prop := (0 ≤ e ∧ e < 6) ∧ sp_told (t 59 0) c = true ∧ 0 ≤ q ∧ q < 4
theorem c_M_sees {e c q : Int} (hk : ml_ok t) : hy_Ct sc hm_M_sees 6 [.inr (some 59), .inl e, .inl c, .inl q] t (fun r t' => r = some (if mq_ecq t e c q then hy_b (hz_b (mq_seenN t e q 12) c) else -1) ∧ hy_F mvX t t') := by
  refine hy_mk_ct ok_M_sees ck_M_sees (Nat.le_of_ble_eq_true rfl) ?_
  by_cases hq : mq_ecq t e c q
  · rw [if_pos hq]
    refine hy_iload (i := 0) rfl rfl ?_
    refine hy_cS1e (i := 1) rfl (by decide) mj_M_isEmpire (by decide) rfl (Nat.le_of_ble_eq_true rfl) (c_M_isEmpire) ?_
    refine hy_ib_eq (i := 2) (tt := 10) rfl (fun zc1 => ?_) (fun zc1 => ?_)
    · simp only [decide_eq_false_iff_not] at zc1; omega
    · refine hy_aload (i := 3) rfl rfl ?_
      refine hy_iload (i := 4) rfl rfl ?_
      refine hy_cV1e (i := 5) rfl mj_M_isColour (by decide) rfl (Nat.le_of_ble_eq_true rfl) rfl rfl rfl (c_M_isColour) ?_
      refine hy_ib_eq (i := 6) (tt := 10) rfl (fun zc2 => ?_) (fun zc2 => ?_)
      · exact absurd (hq.2.1.symm.trans zc2) (by decide)
      · refine hy_iload (i := 7) rfl rfl ?_
        refine hy_cS1e (i := 8) rfl (by decide) mj_M_isQuarter (by decide) rfl (Nat.le_of_ble_eq_true rfl) (c_M_isQuarter) ?_
        refine hy_ib_ne (i := 9) (tt := 12) rfl (fun zc3 => ?_) (fun zc3 => ?_)
        · refine hy_aload (i := 12) rfl rfl ?_
          refine hy_iload (i := 13) rfl rfl ?_
          refine hy_iload (i := 14) rfl rfl ?_
          refine hy_cV2 (i := 15) rfl mj_M_seenBy (by decide) rfl (Nat.le_of_ble_eq_true rfl) rfl rfl rfl (c_M_seenBy (by assumption) (by omega)) (fun r4_ t4_ h4 => ?_)
          obtain ⟨rfl, hF4⟩ := h4
          dsimp only [hy_st, List.cons_append, List.nil_append]
          refine hy_iload (i := 16) rfl rfl ?_
          refine hy_cS2e (i := 17) rfl (by decide) mj_M_has (by decide) rfl (Nat.le_of_ble_eq_true rfl) (c_M_has) ?_
          refine hy_ib_eq (i := 18) (tt := 21) rfl (fun zc4 => ?_) (fun zc4 => ?_)
          · refine hy_const (i := 21) rfl (by decide) ?_
            refine hy_ireturn (i := 22) rfl rfl ?_
            exact ⟨congrArg some (by rw [show hz_b (mq_seenN t e q 12) c = _ by assumption]; rfl), hF4⟩
          · refine hy_const (i := 19) rfl (by decide) ?_
            refine hy_goto (i := 20) (tt := 22) rfl ?_
            refine hy_ireturn (i := 22) rfl rfl ?_
            exact ⟨congrArg some (by rw [show hz_b (mq_seenN t e q 12) c = _ by assumption]; rfl), hF4⟩
        · simp only [decide_eq_false_iff_not] at zc3; omega
  · rw [if_neg hq]
    refine hy_iload (i := 0) rfl rfl ?_
    refine hy_cS1e (i := 1) rfl (by decide) mj_M_isEmpire (by decide) rfl (Nat.le_of_ble_eq_true rfl) (c_M_isEmpire) ?_
    refine hy_ib_eq (i := 2) (tt := 10) rfl (fun zc1 => ?_) (fun zc1 => ?_)
    · refine hy_const (i := 10) rfl (by decide) ?_
      refine hy_ireturn (i := 11) rfl rfl ?_
      exact ⟨rfl, hy_F.rf⟩
    · refine hy_aload (i := 3) rfl rfl ?_
      refine hy_iload (i := 4) rfl rfl ?_
      refine hy_cV1e (i := 5) rfl mj_M_isColour (by decide) rfl (Nat.le_of_ble_eq_true rfl) rfl rfl rfl (c_M_isColour) ?_
      refine hy_ib_eq (i := 6) (tt := 10) rfl (fun zc2 => ?_) (fun zc2 => ?_)
      · refine hy_const (i := 10) rfl (by decide) ?_
        refine hy_ireturn (i := 11) rfl rfl ?_
        exact ⟨rfl, hy_F.rf⟩
      · refine hy_iload (i := 7) rfl rfl ?_
        refine hy_cS1e (i := 8) rfl (by decide) mj_M_isQuarter (by decide) rfl (Nat.le_of_ble_eq_true rfl) (c_M_isQuarter) ?_
        refine hy_ib_ne (i := 9) (tt := 12) rfl (fun zc3 => ?_) (fun zc3 => ?_)
        · exfalso; simp only [decide_eq_true_eq] at *; exact hq ⟨by assumption, by assumption, by assumption⟩
        · refine hy_const (i := 10) rfl (by decide) ?_
          refine hy_ireturn (i := 11) rfl rfl ?_
          exact ⟨rfl, hy_F.rf⟩
theorem c_M_appears {e c q : Int} (hk : ml_ok t) (hp : me_pal t) : hy_Ct sc hm_M_appears 7 [.inr (some 59), .inl e, .inl c, .inl q] t (fun r t' => r = some (if (0 ≤ e ∧ e < 6) ∧ (c = 12 ∨ sp_told (t 59 0) c = true) ∧ 0 ≤ q ∧ q < 4 then mq_as t e q c.toNat else -1) ∧ hy_F meX t t') := by
  refine hy_mk_ct ok_M_appears ck_M_appears (Nat.le_of_ble_eq_true rfl) ?_
  by_cases hq : (0 ≤ e ∧ e < 6) ∧ (c = 12 ∨ sp_told (t 59 0) c = true) ∧ 0 ≤ q ∧ q < 4
  · rw [if_pos hq]
    have hc : 0 ≤ c ∧ c ≤ 12 := by
      rcases hq.2.1 with h | h
      · omega
      · have := sp_told_in h; omega
    refine hy_iload (i := 0) rfl rfl ?_
    refine hy_cS1e (i := 1) rfl (by decide) mj_M_isEmpire (by decide) rfl (Nat.le_of_ble_eq_true rfl) (c_M_isEmpire) ?_
    refine hy_ib_eq (i := 2) (tt := 13) rfl (fun zc1 => ?_) (fun zc1 => ?_)
    · simp only [decide_eq_false_iff_not] at zc1; omega
    · refine hy_iload (i := 3) rfl rfl ?_
      refine hy_const (i := 4) rfl (by decide) ?_
      refine hy_ic_eq (i := 5) (tt := 10) rfl (fun zc2 => ?_) (fun zc2 => ?_)
      · refine hy_iload (i := 10) rfl rfl ?_
        refine hy_cS1e (i := 11) rfl (by decide) mj_M_isQuarter (by decide) rfl (Nat.le_of_ble_eq_true rfl) (c_M_isQuarter) ?_
        refine hy_ib_ne (i := 12) (tt := 15) rfl (fun zc3 => ?_) (fun zc3 => ?_)
        · refine hy_aload (i := 15) rfl rfl ?_
          refine hy_iload (i := 16) rfl rfl ?_
          refine hy_iload (i := 17) rfl rfl ?_
          refine hy_cV2 (i := 18) rfl mj_M_laysAs (by decide) rfl (Nat.le_of_ble_eq_true rfl) rfl rfl rfl (c_M_laysAs (by assumption) (by assumption) (by omega)) (fun r3_ t3_ h3 => ?_)
          obtain ⟨rfl, hF3, hA3⟩ := h3
          dsimp only [hy_st, List.nil_append]
          refine hy_aload (i := 19) rfl rfl ?_
          refine hy_getr (i := 20) rfl rfl ?_
          refine hy_iload (i := 21) rfl rfl ?_
          refine hy_iald (i := 22) rfl rfl (by omega) rfl ?_
          refine hy_ireturn (i := 23) rfl rfl ?_
          exact ⟨congrArg some ((show ∀ j : Nat, j ≤ 12 → _ = mq_as t e q j by assumption) _ (by omega)), by assumption⟩
        · simp only [decide_eq_false_iff_not] at *; omega
      · refine hy_aload (i := 6) rfl rfl ?_
        refine hy_iload (i := 7) rfl rfl ?_
        refine hy_cV1e (i := 8) rfl mj_M_isColour (by decide) rfl (Nat.le_of_ble_eq_true rfl) rfl rfl rfl (c_M_isColour) ?_
        refine hy_ib_eq (i := 9) (tt := 13) rfl (fun zc3 => ?_) (fun zc3 => ?_)
        · rcases hq.2.1 with h | h
          · omega
          · exact absurd (h.symm.trans zc3) (by decide)
        · refine hy_iload (i := 10) rfl rfl ?_
          refine hy_cS1e (i := 11) rfl (by decide) mj_M_isQuarter (by decide) rfl (Nat.le_of_ble_eq_true rfl) (c_M_isQuarter) ?_
          refine hy_ib_ne (i := 12) (tt := 15) rfl (fun zc4 => ?_) (fun zc4 => ?_)
          · refine hy_aload (i := 15) rfl rfl ?_
            refine hy_iload (i := 16) rfl rfl ?_
            refine hy_iload (i := 17) rfl rfl ?_
            refine hy_cV2 (i := 18) rfl mj_M_laysAs (by decide) rfl (Nat.le_of_ble_eq_true rfl) rfl rfl rfl (c_M_laysAs (by assumption) (by assumption) (by omega)) (fun r4_ t4_ h4 => ?_)
            obtain ⟨rfl, hF4, hA4⟩ := h4
            dsimp only [hy_st, List.nil_append]
            refine hy_aload (i := 19) rfl rfl ?_
            refine hy_getr (i := 20) rfl rfl ?_
            refine hy_iload (i := 21) rfl rfl ?_
            refine hy_iald (i := 22) rfl rfl (by omega) rfl ?_
            refine hy_ireturn (i := 23) rfl rfl ?_
            exact ⟨congrArg some ((show ∀ j : Nat, j ≤ 12 → _ = mq_as t e q j by assumption) _ (by omega)), by assumption⟩
          · simp only [decide_eq_false_iff_not] at *; omega
  · rw [if_neg hq]
    refine hy_iload (i := 0) rfl rfl ?_
    refine hy_cS1e (i := 1) rfl (by decide) mj_M_isEmpire (by decide) rfl (Nat.le_of_ble_eq_true rfl) (c_M_isEmpire) ?_
    refine hy_ib_eq (i := 2) (tt := 13) rfl (fun zc1 => ?_) (fun zc1 => ?_)
    · refine hy_const (i := 13) rfl (by decide) ?_
      refine hy_ireturn (i := 14) rfl rfl ?_
      exact ⟨rfl, hy_F.rf⟩
    · refine hy_iload (i := 3) rfl rfl ?_
      refine hy_const (i := 4) rfl (by decide) ?_
      refine hy_ic_eq (i := 5) (tt := 10) rfl (fun zc2 => ?_) (fun zc2 => ?_)
      · refine hy_iload (i := 10) rfl rfl ?_
        refine hy_cS1e (i := 11) rfl (by decide) mj_M_isQuarter (by decide) rfl (Nat.le_of_ble_eq_true rfl) (c_M_isQuarter) ?_
        refine hy_ib_ne (i := 12) (tt := 15) rfl (fun zc3 => ?_) (fun zc3 => ?_)
        · exfalso; simp only [decide_eq_true_eq] at *; first | exact hq ⟨by assumption, .inl (by assumption), by assumption⟩ | exact hq ⟨by assumption, .inr (by assumption), by assumption⟩
        · refine hy_const (i := 13) rfl (by decide) ?_
          refine hy_ireturn (i := 14) rfl rfl ?_
          exact ⟨rfl, hy_F.rf⟩
      · refine hy_aload (i := 6) rfl rfl ?_
        refine hy_iload (i := 7) rfl rfl ?_
        refine hy_cV1e (i := 8) rfl mj_M_isColour (by decide) rfl (Nat.le_of_ble_eq_true rfl) rfl rfl rfl (c_M_isColour) ?_
        refine hy_ib_eq (i := 9) (tt := 13) rfl (fun zc3 => ?_) (fun zc3 => ?_)
        · refine hy_const (i := 13) rfl (by decide) ?_
          refine hy_ireturn (i := 14) rfl rfl ?_
          exact ⟨rfl, hy_F.rf⟩
        · refine hy_iload (i := 10) rfl rfl ?_
          refine hy_cS1e (i := 11) rfl (by decide) mj_M_isQuarter (by decide) rfl (Nat.le_of_ble_eq_true rfl) (c_M_isQuarter) ?_
          refine hy_ib_ne (i := 12) (tt := 15) rfl (fun zc4 => ?_) (fun zc4 => ?_)
          · exfalso; simp only [decide_eq_true_eq] at *; first | exact hq ⟨by assumption, .inl (by assumption), by assumption⟩ | exact hq ⟨by assumption, .inr (by assumption), by assumption⟩
          · refine hy_const (i := 13) rfl (by decide) ?_
            refine hy_ireturn (i := 14) rfl rfl ?_
            exact ⟨rfl, hy_F.rf⟩
def mq_child (t : hy_T) (a b c q : Int) : Bool :=
  mb_holds t (mq_V t a c q (hy_b (hz_b (mq_seenN t a q 12) c)) (hy_b (hz_b (mq_seenN t b q 12) c)) 0 0) 107 (hz_b (mq_seenN t a q 12) c || hz_b (mq_seenN t b q 12) c)
theorem c_M_child {a b c q : Int} (hk : ml_ok t) : hy_Ct sc hm_M_child 6 [.inr (some 59), .inl a, .inl b, .inl c, .inl q] t (fun r t' => r = some (if (0 ≤ a ∧ a < 6) ∧ mq_ecq t b c q then hy_b (mq_child t a b c q) else -1) ∧ hy_F mvX t t') := by
  refine hy_mk_ct ok_M_child ck_M_child (Nat.le_of_ble_eq_true rfl) ?_
  by_cases hq : (0 ≤ a ∧ a < 6) ∧ mq_ecq t b c q
  · rw [if_pos hq]
    have hc := sp_told_in hq.2.2.1
    have hk1 : ∀ t1, hy_F mvX t t1 → ml_ok t1 := fun t1 h => ml_ok_F h (meq_law mvX_meq) hk
    have fin : ∀ (t2 t3 : hy_T), hy_F mvX t t2 → hy_F (fun r _ => r == 78) t2 t3 → (∀ j, j < 10 → t3 78 j = mq_V t2 a c q 0 0 0 0 j) → hy_W sc hm_M_child 6 34 [.inr (some 59), .inl a, .inl b, .inl c, .inl q, .inl (hy_b (hz_b (mq_seenN t a q 12) c)), .inl (hy_b (hz_b (mq_seenN t b q 12) c))] [] t3 (fun r t' => r = some (hy_b (mq_child t a b c q)) ∧ hy_F mvX t t') := by
      intro t2 t3 h2 h3 hV
      have hk3 := fun a b => ml_ok_F ((h3.up (r := 78) (j := 5) (v := a) rfl).up (r := 78) (j := 6) (v := b) rfl) (fun r j h => by revert h; simp [mlawX]; omega) (hk1 t2 h2)
      have ev : ∀ (x y : Int) (s : Bool), mb_holds (hy_up (hy_up t3 78 5 x) 78 6 y) ((hy_up (hy_up t3 78 5 x) 78 6 y) 78) 107 s = mb_holds t (mq_V t a c q x y 0 0) 107 s := fun x y s => by rw [mq_tell (hk1 t2 h2) h3 hV, mq_V_F h2 mvX_meq, mb_holds_F h2 (meq_law mvX_meq)]
      unfold mq_child
      generalize hz_b (mq_seenN t a q 12) c = x1
      generalize hz_b (mq_seenN t b q 12) c = x2
      refine hy_aload (i := 34) rfl rfl ?_
      refine hy_getr (i := 35) rfl rfl ?_
      refine hy_const (i := 36) rfl (by decide) ?_
      refine hy_iload (i := 37) rfl rfl ?_
      refine hy_ib_eq (i := 38) (tt := 41) rfl (fun zc1 => ?_) (fun zc1 => ?_)
      · refine hy_const (i := 41) rfl (by decide) ?_
        refine hy_iast (i := 42) rfl rfl (by omega) (show _ = 5 from rfl) ?_
        refine hy_aload (i := 43) rfl rfl ?_
        refine hy_getr (i := 44) rfl rfl ?_
        refine hy_const (i := 45) rfl (by decide) ?_
        refine hy_iload (i := 46) rfl rfl ?_
        refine hy_ib_eq (i := 47) (tt := 50) rfl (fun zc2 => ?_) (fun zc2 => ?_)
        · refine hy_const (i := 50) rfl (by decide) ?_
          refine hy_iast (i := 51) rfl rfl (by omega) (show _ = 6 from rfl) ?_
          refine hy_aload (i := 52) rfl rfl ?_
          refine hy_const (i := 53) rfl (by decide) ?_
          refine hy_iload (i := 54) rfl rfl ?_
          refine hy_ib_ne (i := 55) (tt := 58) rfl (fun zc3 => ?_) (fun zc3 => ?_)
          · refine hy_const (i := 58) rfl (by decide) ?_
            refine hy_goto (i := 59) (tt := 61) rfl ?_
            refine hy_cV2 (i := 61) rfl mj_M_holds (by decide) rfl (Nat.le_of_ble_eq_true rfl) rfl rfl rfl (c_M_holdsI (by first | exact .inr rfl | exact .inl rfl) (hk3 _ _)) (fun r1_ t1_ h1 => ?_)
            obtain ⟨rfl, hF1⟩ := h1
            dsimp only [hy_st, List.cons_append, List.nil_append]
            rw [ev]
            refine hy_ib_eq (i := 62) (tt := 65) rfl (fun zc4 => ?_) (fun zc4 => ?_)
            · refine hy_const (i := 65) rfl (by decide) ?_
              refine hy_ireturn (i := 66) rfl rfl ?_
              refine ⟨congrArg some ?_, h2.tr' ((mv_78 ((h3.up rfl).up rfl)).tr' (ml_mv (by assumption)))⟩
              first | exact bb_abs (p := x1) (by assumption) (by assumption) | exact bb_abs (p := x2) (by assumption) (by assumption) | (obtain rfl : x1 = true := (by assumption); obtain rfl : x2 = true := (by assumption); rw [show mb_holds t (mq_V t a c q (hy_b true) (hy_b true) 0 0) 107 (true || true) = _ by assumption]; rfl) | (obtain rfl : x1 = true := (by assumption); obtain rfl : x2 = false := (by assumption); rw [show mb_holds t (mq_V t a c q (hy_b true) (hy_b false) 0 0) 107 (true || false) = _ by assumption]; rfl) | (obtain rfl : x1 = false := (by assumption); obtain rfl : x2 = true := (by assumption); rw [show mb_holds t (mq_V t a c q (hy_b false) (hy_b true) 0 0) 107 (false || true) = _ by assumption]; rfl) | (obtain rfl : x1 = false := (by assumption); obtain rfl : x2 = false := (by assumption); rw [show mb_holds t (mq_V t a c q (hy_b false) (hy_b false) 0 0) 107 (false || false) = _ by assumption]; rfl)
            · refine hy_const (i := 63) rfl (by decide) ?_
              refine hy_goto (i := 64) (tt := 66) rfl ?_
              refine hy_ireturn (i := 66) rfl rfl ?_
              refine ⟨congrArg some ?_, h2.tr' ((mv_78 ((h3.up rfl).up rfl)).tr' (ml_mv (by assumption)))⟩
              first | exact bb_abs (p := x1) (by assumption) (by assumption) | exact bb_abs (p := x2) (by assumption) (by assumption) | (obtain rfl : x1 = true := (by assumption); obtain rfl : x2 = true := (by assumption); rw [show mb_holds t (mq_V t a c q (hy_b true) (hy_b true) 0 0) 107 (true || true) = _ by assumption]; rfl) | (obtain rfl : x1 = true := (by assumption); obtain rfl : x2 = false := (by assumption); rw [show mb_holds t (mq_V t a c q (hy_b true) (hy_b false) 0 0) 107 (true || false) = _ by assumption]; rfl) | (obtain rfl : x1 = false := (by assumption); obtain rfl : x2 = true := (by assumption); rw [show mb_holds t (mq_V t a c q (hy_b false) (hy_b true) 0 0) 107 (false || true) = _ by assumption]; rfl) | (obtain rfl : x1 = false := (by assumption); obtain rfl : x2 = false := (by assumption); rw [show mb_holds t (mq_V t a c q (hy_b false) (hy_b false) 0 0) 107 (false || false) = _ by assumption]; rfl)
          · refine hy_iload (i := 56) rfl rfl ?_
            refine hy_ib_eq (i := 57) (tt := 60) rfl (fun zc4 => ?_) (fun zc4 => ?_)
            · refine hy_const (i := 60) rfl (by decide) ?_
              refine hy_cV2 (i := 61) rfl mj_M_holds (by decide) rfl (Nat.le_of_ble_eq_true rfl) rfl rfl rfl (c_M_holdsI (by first | exact .inr rfl | exact .inl rfl) (hk3 _ _)) (fun r1_ t1_ h1 => ?_)
              obtain ⟨rfl, hF1⟩ := h1
              dsimp only [hy_st, List.cons_append, List.nil_append]
              rw [ev]
              refine hy_ib_eq (i := 62) (tt := 65) rfl (fun zc5 => ?_) (fun zc5 => ?_)
              · refine hy_const (i := 65) rfl (by decide) ?_
                refine hy_ireturn (i := 66) rfl rfl ?_
                refine ⟨congrArg some ?_, h2.tr' ((mv_78 ((h3.up rfl).up rfl)).tr' (ml_mv (by assumption)))⟩
                first | exact bb_abs (p := x1) (by assumption) (by assumption) | exact bb_abs (p := x2) (by assumption) (by assumption) | (obtain rfl : x1 = true := (by assumption); obtain rfl : x2 = true := (by assumption); rw [show mb_holds t (mq_V t a c q (hy_b true) (hy_b true) 0 0) 107 (true || true) = _ by assumption]; rfl) | (obtain rfl : x1 = true := (by assumption); obtain rfl : x2 = false := (by assumption); rw [show mb_holds t (mq_V t a c q (hy_b true) (hy_b false) 0 0) 107 (true || false) = _ by assumption]; rfl) | (obtain rfl : x1 = false := (by assumption); obtain rfl : x2 = true := (by assumption); rw [show mb_holds t (mq_V t a c q (hy_b false) (hy_b true) 0 0) 107 (false || true) = _ by assumption]; rfl) | (obtain rfl : x1 = false := (by assumption); obtain rfl : x2 = false := (by assumption); rw [show mb_holds t (mq_V t a c q (hy_b false) (hy_b false) 0 0) 107 (false || false) = _ by assumption]; rfl)
              · refine hy_const (i := 63) rfl (by decide) ?_
                refine hy_goto (i := 64) (tt := 66) rfl ?_
                refine hy_ireturn (i := 66) rfl rfl ?_
                refine ⟨congrArg some ?_, h2.tr' ((mv_78 ((h3.up rfl).up rfl)).tr' (ml_mv (by assumption)))⟩
                first | exact bb_abs (p := x1) (by assumption) (by assumption) | exact bb_abs (p := x2) (by assumption) (by assumption) | (obtain rfl : x1 = true := (by assumption); obtain rfl : x2 = true := (by assumption); rw [show mb_holds t (mq_V t a c q (hy_b true) (hy_b true) 0 0) 107 (true || true) = _ by assumption]; rfl) | (obtain rfl : x1 = true := (by assumption); obtain rfl : x2 = false := (by assumption); rw [show mb_holds t (mq_V t a c q (hy_b true) (hy_b false) 0 0) 107 (true || false) = _ by assumption]; rfl) | (obtain rfl : x1 = false := (by assumption); obtain rfl : x2 = true := (by assumption); rw [show mb_holds t (mq_V t a c q (hy_b false) (hy_b true) 0 0) 107 (false || true) = _ by assumption]; rfl) | (obtain rfl : x1 = false := (by assumption); obtain rfl : x2 = false := (by assumption); rw [show mb_holds t (mq_V t a c q (hy_b false) (hy_b false) 0 0) 107 (false || false) = _ by assumption]; rfl)
            · refine hy_const (i := 58) rfl (by decide) ?_
              refine hy_goto (i := 59) (tt := 61) rfl ?_
              refine hy_cV2 (i := 61) rfl mj_M_holds (by decide) rfl (Nat.le_of_ble_eq_true rfl) rfl rfl rfl (c_M_holdsI (by first | exact .inr rfl | exact .inl rfl) (hk3 _ _)) (fun r1_ t1_ h1 => ?_)
              obtain ⟨rfl, hF1⟩ := h1
              dsimp only [hy_st, List.cons_append, List.nil_append]
              rw [ev]
              refine hy_ib_eq (i := 62) (tt := 65) rfl (fun zc5 => ?_) (fun zc5 => ?_)
              · refine hy_const (i := 65) rfl (by decide) ?_
                refine hy_ireturn (i := 66) rfl rfl ?_
                refine ⟨congrArg some ?_, h2.tr' ((mv_78 ((h3.up rfl).up rfl)).tr' (ml_mv (by assumption)))⟩
                first | exact bb_abs (p := x1) (by assumption) (by assumption) | exact bb_abs (p := x2) (by assumption) (by assumption) | (obtain rfl : x1 = true := (by assumption); obtain rfl : x2 = true := (by assumption); rw [show mb_holds t (mq_V t a c q (hy_b true) (hy_b true) 0 0) 107 (true || true) = _ by assumption]; rfl) | (obtain rfl : x1 = true := (by assumption); obtain rfl : x2 = false := (by assumption); rw [show mb_holds t (mq_V t a c q (hy_b true) (hy_b false) 0 0) 107 (true || false) = _ by assumption]; rfl) | (obtain rfl : x1 = false := (by assumption); obtain rfl : x2 = true := (by assumption); rw [show mb_holds t (mq_V t a c q (hy_b false) (hy_b true) 0 0) 107 (false || true) = _ by assumption]; rfl) | (obtain rfl : x1 = false := (by assumption); obtain rfl : x2 = false := (by assumption); rw [show mb_holds t (mq_V t a c q (hy_b false) (hy_b false) 0 0) 107 (false || false) = _ by assumption]; rfl)
              · refine hy_const (i := 63) rfl (by decide) ?_
                refine hy_goto (i := 64) (tt := 66) rfl ?_
                refine hy_ireturn (i := 66) rfl rfl ?_
                refine ⟨congrArg some ?_, h2.tr' ((mv_78 ((h3.up rfl).up rfl)).tr' (ml_mv (by assumption)))⟩
                first | exact bb_abs (p := x1) (by assumption) (by assumption) | exact bb_abs (p := x2) (by assumption) (by assumption) | (obtain rfl : x1 = true := (by assumption); obtain rfl : x2 = true := (by assumption); rw [show mb_holds t (mq_V t a c q (hy_b true) (hy_b true) 0 0) 107 (true || true) = _ by assumption]; rfl) | (obtain rfl : x1 = true := (by assumption); obtain rfl : x2 = false := (by assumption); rw [show mb_holds t (mq_V t a c q (hy_b true) (hy_b false) 0 0) 107 (true || false) = _ by assumption]; rfl) | (obtain rfl : x1 = false := (by assumption); obtain rfl : x2 = true := (by assumption); rw [show mb_holds t (mq_V t a c q (hy_b false) (hy_b true) 0 0) 107 (false || true) = _ by assumption]; rfl) | (obtain rfl : x1 = false := (by assumption); obtain rfl : x2 = false := (by assumption); rw [show mb_holds t (mq_V t a c q (hy_b false) (hy_b false) 0 0) 107 (false || false) = _ by assumption]; rfl)
        · refine hy_const (i := 48) rfl (by decide) ?_
          refine hy_goto (i := 49) (tt := 51) rfl ?_
          refine hy_iast (i := 51) rfl rfl (by omega) (show _ = 6 from rfl) ?_
          refine hy_aload (i := 52) rfl rfl ?_
          refine hy_const (i := 53) rfl (by decide) ?_
          refine hy_iload (i := 54) rfl rfl ?_
          refine hy_ib_ne (i := 55) (tt := 58) rfl (fun zc3 => ?_) (fun zc3 => ?_)
          · refine hy_const (i := 58) rfl (by decide) ?_
            refine hy_goto (i := 59) (tt := 61) rfl ?_
            refine hy_cV2 (i := 61) rfl mj_M_holds (by decide) rfl (Nat.le_of_ble_eq_true rfl) rfl rfl rfl (c_M_holdsI (by first | exact .inr rfl | exact .inl rfl) (hk3 _ _)) (fun r1_ t1_ h1 => ?_)
            obtain ⟨rfl, hF1⟩ := h1
            dsimp only [hy_st, List.cons_append, List.nil_append]
            rw [ev]
            refine hy_ib_eq (i := 62) (tt := 65) rfl (fun zc4 => ?_) (fun zc4 => ?_)
            · refine hy_const (i := 65) rfl (by decide) ?_
              refine hy_ireturn (i := 66) rfl rfl ?_
              refine ⟨congrArg some ?_, h2.tr' ((mv_78 ((h3.up rfl).up rfl)).tr' (ml_mv (by assumption)))⟩
              first | exact bb_abs (p := x1) (by assumption) (by assumption) | exact bb_abs (p := x2) (by assumption) (by assumption) | (obtain rfl : x1 = true := (by assumption); obtain rfl : x2 = true := (by assumption); rw [show mb_holds t (mq_V t a c q (hy_b true) (hy_b true) 0 0) 107 (true || true) = _ by assumption]; rfl) | (obtain rfl : x1 = true := (by assumption); obtain rfl : x2 = false := (by assumption); rw [show mb_holds t (mq_V t a c q (hy_b true) (hy_b false) 0 0) 107 (true || false) = _ by assumption]; rfl) | (obtain rfl : x1 = false := (by assumption); obtain rfl : x2 = true := (by assumption); rw [show mb_holds t (mq_V t a c q (hy_b false) (hy_b true) 0 0) 107 (false || true) = _ by assumption]; rfl) | (obtain rfl : x1 = false := (by assumption); obtain rfl : x2 = false := (by assumption); rw [show mb_holds t (mq_V t a c q (hy_b false) (hy_b false) 0 0) 107 (false || false) = _ by assumption]; rfl)
            · refine hy_const (i := 63) rfl (by decide) ?_
              refine hy_goto (i := 64) (tt := 66) rfl ?_
              refine hy_ireturn (i := 66) rfl rfl ?_
              refine ⟨congrArg some ?_, h2.tr' ((mv_78 ((h3.up rfl).up rfl)).tr' (ml_mv (by assumption)))⟩
              first | exact bb_abs (p := x1) (by assumption) (by assumption) | exact bb_abs (p := x2) (by assumption) (by assumption) | (obtain rfl : x1 = true := (by assumption); obtain rfl : x2 = true := (by assumption); rw [show mb_holds t (mq_V t a c q (hy_b true) (hy_b true) 0 0) 107 (true || true) = _ by assumption]; rfl) | (obtain rfl : x1 = true := (by assumption); obtain rfl : x2 = false := (by assumption); rw [show mb_holds t (mq_V t a c q (hy_b true) (hy_b false) 0 0) 107 (true || false) = _ by assumption]; rfl) | (obtain rfl : x1 = false := (by assumption); obtain rfl : x2 = true := (by assumption); rw [show mb_holds t (mq_V t a c q (hy_b false) (hy_b true) 0 0) 107 (false || true) = _ by assumption]; rfl) | (obtain rfl : x1 = false := (by assumption); obtain rfl : x2 = false := (by assumption); rw [show mb_holds t (mq_V t a c q (hy_b false) (hy_b false) 0 0) 107 (false || false) = _ by assumption]; rfl)
          · refine hy_iload (i := 56) rfl rfl ?_
            refine hy_ib_eq (i := 57) (tt := 60) rfl (fun zc4 => ?_) (fun zc4 => ?_)
            · refine hy_const (i := 60) rfl (by decide) ?_
              refine hy_cV2 (i := 61) rfl mj_M_holds (by decide) rfl (Nat.le_of_ble_eq_true rfl) rfl rfl rfl (c_M_holdsI (by first | exact .inr rfl | exact .inl rfl) (hk3 _ _)) (fun r1_ t1_ h1 => ?_)
              obtain ⟨rfl, hF1⟩ := h1
              dsimp only [hy_st, List.cons_append, List.nil_append]
              rw [ev]
              refine hy_ib_eq (i := 62) (tt := 65) rfl (fun zc5 => ?_) (fun zc5 => ?_)
              · refine hy_const (i := 65) rfl (by decide) ?_
                refine hy_ireturn (i := 66) rfl rfl ?_
                refine ⟨congrArg some ?_, h2.tr' ((mv_78 ((h3.up rfl).up rfl)).tr' (ml_mv (by assumption)))⟩
                first | exact bb_abs (p := x1) (by assumption) (by assumption) | exact bb_abs (p := x2) (by assumption) (by assumption) | (obtain rfl : x1 = true := (by assumption); obtain rfl : x2 = true := (by assumption); rw [show mb_holds t (mq_V t a c q (hy_b true) (hy_b true) 0 0) 107 (true || true) = _ by assumption]; rfl) | (obtain rfl : x1 = true := (by assumption); obtain rfl : x2 = false := (by assumption); rw [show mb_holds t (mq_V t a c q (hy_b true) (hy_b false) 0 0) 107 (true || false) = _ by assumption]; rfl) | (obtain rfl : x1 = false := (by assumption); obtain rfl : x2 = true := (by assumption); rw [show mb_holds t (mq_V t a c q (hy_b false) (hy_b true) 0 0) 107 (false || true) = _ by assumption]; rfl) | (obtain rfl : x1 = false := (by assumption); obtain rfl : x2 = false := (by assumption); rw [show mb_holds t (mq_V t a c q (hy_b false) (hy_b false) 0 0) 107 (false || false) = _ by assumption]; rfl)
              · refine hy_const (i := 63) rfl (by decide) ?_
                refine hy_goto (i := 64) (tt := 66) rfl ?_
                refine hy_ireturn (i := 66) rfl rfl ?_
                refine ⟨congrArg some ?_, h2.tr' ((mv_78 ((h3.up rfl).up rfl)).tr' (ml_mv (by assumption)))⟩
                first | exact bb_abs (p := x1) (by assumption) (by assumption) | exact bb_abs (p := x2) (by assumption) (by assumption) | (obtain rfl : x1 = true := (by assumption); obtain rfl : x2 = true := (by assumption); rw [show mb_holds t (mq_V t a c q (hy_b true) (hy_b true) 0 0) 107 (true || true) = _ by assumption]; rfl) | (obtain rfl : x1 = true := (by assumption); obtain rfl : x2 = false := (by assumption); rw [show mb_holds t (mq_V t a c q (hy_b true) (hy_b false) 0 0) 107 (true || false) = _ by assumption]; rfl) | (obtain rfl : x1 = false := (by assumption); obtain rfl : x2 = true := (by assumption); rw [show mb_holds t (mq_V t a c q (hy_b false) (hy_b true) 0 0) 107 (false || true) = _ by assumption]; rfl) | (obtain rfl : x1 = false := (by assumption); obtain rfl : x2 = false := (by assumption); rw [show mb_holds t (mq_V t a c q (hy_b false) (hy_b false) 0 0) 107 (false || false) = _ by assumption]; rfl)
            · refine hy_const (i := 58) rfl (by decide) ?_
              refine hy_goto (i := 59) (tt := 61) rfl ?_
              refine hy_cV2 (i := 61) rfl mj_M_holds (by decide) rfl (Nat.le_of_ble_eq_true rfl) rfl rfl rfl (c_M_holdsI (by first | exact .inr rfl | exact .inl rfl) (hk3 _ _)) (fun r1_ t1_ h1 => ?_)
              obtain ⟨rfl, hF1⟩ := h1
              dsimp only [hy_st, List.cons_append, List.nil_append]
              rw [ev]
              refine hy_ib_eq (i := 62) (tt := 65) rfl (fun zc5 => ?_) (fun zc5 => ?_)
              · refine hy_const (i := 65) rfl (by decide) ?_
                refine hy_ireturn (i := 66) rfl rfl ?_
                refine ⟨congrArg some ?_, h2.tr' ((mv_78 ((h3.up rfl).up rfl)).tr' (ml_mv (by assumption)))⟩
                first | exact bb_abs (p := x1) (by assumption) (by assumption) | exact bb_abs (p := x2) (by assumption) (by assumption) | (obtain rfl : x1 = true := (by assumption); obtain rfl : x2 = true := (by assumption); rw [show mb_holds t (mq_V t a c q (hy_b true) (hy_b true) 0 0) 107 (true || true) = _ by assumption]; rfl) | (obtain rfl : x1 = true := (by assumption); obtain rfl : x2 = false := (by assumption); rw [show mb_holds t (mq_V t a c q (hy_b true) (hy_b false) 0 0) 107 (true || false) = _ by assumption]; rfl) | (obtain rfl : x1 = false := (by assumption); obtain rfl : x2 = true := (by assumption); rw [show mb_holds t (mq_V t a c q (hy_b false) (hy_b true) 0 0) 107 (false || true) = _ by assumption]; rfl) | (obtain rfl : x1 = false := (by assumption); obtain rfl : x2 = false := (by assumption); rw [show mb_holds t (mq_V t a c q (hy_b false) (hy_b false) 0 0) 107 (false || false) = _ by assumption]; rfl)
              · refine hy_const (i := 63) rfl (by decide) ?_
                refine hy_goto (i := 64) (tt := 66) rfl ?_
                refine hy_ireturn (i := 66) rfl rfl ?_
                refine ⟨congrArg some ?_, h2.tr' ((mv_78 ((h3.up rfl).up rfl)).tr' (ml_mv (by assumption)))⟩
                first | exact bb_abs (p := x1) (by assumption) (by assumption) | exact bb_abs (p := x2) (by assumption) (by assumption) | (obtain rfl : x1 = true := (by assumption); obtain rfl : x2 = true := (by assumption); rw [show mb_holds t (mq_V t a c q (hy_b true) (hy_b true) 0 0) 107 (true || true) = _ by assumption]; rfl) | (obtain rfl : x1 = true := (by assumption); obtain rfl : x2 = false := (by assumption); rw [show mb_holds t (mq_V t a c q (hy_b true) (hy_b false) 0 0) 107 (true || false) = _ by assumption]; rfl) | (obtain rfl : x1 = false := (by assumption); obtain rfl : x2 = true := (by assumption); rw [show mb_holds t (mq_V t a c q (hy_b false) (hy_b true) 0 0) 107 (false || true) = _ by assumption]; rfl) | (obtain rfl : x1 = false := (by assumption); obtain rfl : x2 = false := (by assumption); rw [show mb_holds t (mq_V t a c q (hy_b false) (hy_b false) 0 0) 107 (false || false) = _ by assumption]; rfl)
      · refine hy_const (i := 39) rfl (by decide) ?_
        refine hy_goto (i := 40) (tt := 42) rfl ?_
        refine hy_iast (i := 42) rfl rfl (by omega) (show _ = 5 from rfl) ?_
        refine hy_aload (i := 43) rfl rfl ?_
        refine hy_getr (i := 44) rfl rfl ?_
        refine hy_const (i := 45) rfl (by decide) ?_
        refine hy_iload (i := 46) rfl rfl ?_
        refine hy_ib_eq (i := 47) (tt := 50) rfl (fun zc2 => ?_) (fun zc2 => ?_)
        · refine hy_const (i := 50) rfl (by decide) ?_
          refine hy_iast (i := 51) rfl rfl (by omega) (show _ = 6 from rfl) ?_
          refine hy_aload (i := 52) rfl rfl ?_
          refine hy_const (i := 53) rfl (by decide) ?_
          refine hy_iload (i := 54) rfl rfl ?_
          refine hy_ib_ne (i := 55) (tt := 58) rfl (fun zc3 => ?_) (fun zc3 => ?_)
          · refine hy_const (i := 58) rfl (by decide) ?_
            refine hy_goto (i := 59) (tt := 61) rfl ?_
            refine hy_cV2 (i := 61) rfl mj_M_holds (by decide) rfl (Nat.le_of_ble_eq_true rfl) rfl rfl rfl (c_M_holdsI (by first | exact .inr rfl | exact .inl rfl) (hk3 _ _)) (fun r1_ t1_ h1 => ?_)
            obtain ⟨rfl, hF1⟩ := h1
            dsimp only [hy_st, List.cons_append, List.nil_append]
            rw [ev]
            refine hy_ib_eq (i := 62) (tt := 65) rfl (fun zc4 => ?_) (fun zc4 => ?_)
            · refine hy_const (i := 65) rfl (by decide) ?_
              refine hy_ireturn (i := 66) rfl rfl ?_
              refine ⟨congrArg some ?_, h2.tr' ((mv_78 ((h3.up rfl).up rfl)).tr' (ml_mv (by assumption)))⟩
              first | exact bb_abs (p := x1) (by assumption) (by assumption) | exact bb_abs (p := x2) (by assumption) (by assumption) | (obtain rfl : x1 = true := (by assumption); obtain rfl : x2 = true := (by assumption); rw [show mb_holds t (mq_V t a c q (hy_b true) (hy_b true) 0 0) 107 (true || true) = _ by assumption]; rfl) | (obtain rfl : x1 = true := (by assumption); obtain rfl : x2 = false := (by assumption); rw [show mb_holds t (mq_V t a c q (hy_b true) (hy_b false) 0 0) 107 (true || false) = _ by assumption]; rfl) | (obtain rfl : x1 = false := (by assumption); obtain rfl : x2 = true := (by assumption); rw [show mb_holds t (mq_V t a c q (hy_b false) (hy_b true) 0 0) 107 (false || true) = _ by assumption]; rfl) | (obtain rfl : x1 = false := (by assumption); obtain rfl : x2 = false := (by assumption); rw [show mb_holds t (mq_V t a c q (hy_b false) (hy_b false) 0 0) 107 (false || false) = _ by assumption]; rfl)
            · refine hy_const (i := 63) rfl (by decide) ?_
              refine hy_goto (i := 64) (tt := 66) rfl ?_
              refine hy_ireturn (i := 66) rfl rfl ?_
              refine ⟨congrArg some ?_, h2.tr' ((mv_78 ((h3.up rfl).up rfl)).tr' (ml_mv (by assumption)))⟩
              first | exact bb_abs (p := x1) (by assumption) (by assumption) | exact bb_abs (p := x2) (by assumption) (by assumption) | (obtain rfl : x1 = true := (by assumption); obtain rfl : x2 = true := (by assumption); rw [show mb_holds t (mq_V t a c q (hy_b true) (hy_b true) 0 0) 107 (true || true) = _ by assumption]; rfl) | (obtain rfl : x1 = true := (by assumption); obtain rfl : x2 = false := (by assumption); rw [show mb_holds t (mq_V t a c q (hy_b true) (hy_b false) 0 0) 107 (true || false) = _ by assumption]; rfl) | (obtain rfl : x1 = false := (by assumption); obtain rfl : x2 = true := (by assumption); rw [show mb_holds t (mq_V t a c q (hy_b false) (hy_b true) 0 0) 107 (false || true) = _ by assumption]; rfl) | (obtain rfl : x1 = false := (by assumption); obtain rfl : x2 = false := (by assumption); rw [show mb_holds t (mq_V t a c q (hy_b false) (hy_b false) 0 0) 107 (false || false) = _ by assumption]; rfl)
          · refine hy_iload (i := 56) rfl rfl ?_
            refine hy_ib_eq (i := 57) (tt := 60) rfl (fun zc4 => ?_) (fun zc4 => ?_)
            · refine hy_const (i := 60) rfl (by decide) ?_
              refine hy_cV2 (i := 61) rfl mj_M_holds (by decide) rfl (Nat.le_of_ble_eq_true rfl) rfl rfl rfl (c_M_holdsI (by first | exact .inr rfl | exact .inl rfl) (hk3 _ _)) (fun r1_ t1_ h1 => ?_)
              obtain ⟨rfl, hF1⟩ := h1
              dsimp only [hy_st, List.cons_append, List.nil_append]
              rw [ev]
              refine hy_ib_eq (i := 62) (tt := 65) rfl (fun zc5 => ?_) (fun zc5 => ?_)
              · refine hy_const (i := 65) rfl (by decide) ?_
                refine hy_ireturn (i := 66) rfl rfl ?_
                refine ⟨congrArg some ?_, h2.tr' ((mv_78 ((h3.up rfl).up rfl)).tr' (ml_mv (by assumption)))⟩
                first | exact bb_abs (p := x1) (by assumption) (by assumption) | exact bb_abs (p := x2) (by assumption) (by assumption) | (obtain rfl : x1 = true := (by assumption); obtain rfl : x2 = true := (by assumption); rw [show mb_holds t (mq_V t a c q (hy_b true) (hy_b true) 0 0) 107 (true || true) = _ by assumption]; rfl) | (obtain rfl : x1 = true := (by assumption); obtain rfl : x2 = false := (by assumption); rw [show mb_holds t (mq_V t a c q (hy_b true) (hy_b false) 0 0) 107 (true || false) = _ by assumption]; rfl) | (obtain rfl : x1 = false := (by assumption); obtain rfl : x2 = true := (by assumption); rw [show mb_holds t (mq_V t a c q (hy_b false) (hy_b true) 0 0) 107 (false || true) = _ by assumption]; rfl) | (obtain rfl : x1 = false := (by assumption); obtain rfl : x2 = false := (by assumption); rw [show mb_holds t (mq_V t a c q (hy_b false) (hy_b false) 0 0) 107 (false || false) = _ by assumption]; rfl)
              · refine hy_const (i := 63) rfl (by decide) ?_
                refine hy_goto (i := 64) (tt := 66) rfl ?_
                refine hy_ireturn (i := 66) rfl rfl ?_
                refine ⟨congrArg some ?_, h2.tr' ((mv_78 ((h3.up rfl).up rfl)).tr' (ml_mv (by assumption)))⟩
                first | exact bb_abs (p := x1) (by assumption) (by assumption) | exact bb_abs (p := x2) (by assumption) (by assumption) | (obtain rfl : x1 = true := (by assumption); obtain rfl : x2 = true := (by assumption); rw [show mb_holds t (mq_V t a c q (hy_b true) (hy_b true) 0 0) 107 (true || true) = _ by assumption]; rfl) | (obtain rfl : x1 = true := (by assumption); obtain rfl : x2 = false := (by assumption); rw [show mb_holds t (mq_V t a c q (hy_b true) (hy_b false) 0 0) 107 (true || false) = _ by assumption]; rfl) | (obtain rfl : x1 = false := (by assumption); obtain rfl : x2 = true := (by assumption); rw [show mb_holds t (mq_V t a c q (hy_b false) (hy_b true) 0 0) 107 (false || true) = _ by assumption]; rfl) | (obtain rfl : x1 = false := (by assumption); obtain rfl : x2 = false := (by assumption); rw [show mb_holds t (mq_V t a c q (hy_b false) (hy_b false) 0 0) 107 (false || false) = _ by assumption]; rfl)
            · refine hy_const (i := 58) rfl (by decide) ?_
              refine hy_goto (i := 59) (tt := 61) rfl ?_
              refine hy_cV2 (i := 61) rfl mj_M_holds (by decide) rfl (Nat.le_of_ble_eq_true rfl) rfl rfl rfl (c_M_holdsI (by first | exact .inr rfl | exact .inl rfl) (hk3 _ _)) (fun r1_ t1_ h1 => ?_)
              obtain ⟨rfl, hF1⟩ := h1
              dsimp only [hy_st, List.cons_append, List.nil_append]
              rw [ev]
              refine hy_ib_eq (i := 62) (tt := 65) rfl (fun zc5 => ?_) (fun zc5 => ?_)
              · refine hy_const (i := 65) rfl (by decide) ?_
                refine hy_ireturn (i := 66) rfl rfl ?_
                refine ⟨congrArg some ?_, h2.tr' ((mv_78 ((h3.up rfl).up rfl)).tr' (ml_mv (by assumption)))⟩
                first | exact bb_abs (p := x1) (by assumption) (by assumption) | exact bb_abs (p := x2) (by assumption) (by assumption) | (obtain rfl : x1 = true := (by assumption); obtain rfl : x2 = true := (by assumption); rw [show mb_holds t (mq_V t a c q (hy_b true) (hy_b true) 0 0) 107 (true || true) = _ by assumption]; rfl) | (obtain rfl : x1 = true := (by assumption); obtain rfl : x2 = false := (by assumption); rw [show mb_holds t (mq_V t a c q (hy_b true) (hy_b false) 0 0) 107 (true || false) = _ by assumption]; rfl) | (obtain rfl : x1 = false := (by assumption); obtain rfl : x2 = true := (by assumption); rw [show mb_holds t (mq_V t a c q (hy_b false) (hy_b true) 0 0) 107 (false || true) = _ by assumption]; rfl) | (obtain rfl : x1 = false := (by assumption); obtain rfl : x2 = false := (by assumption); rw [show mb_holds t (mq_V t a c q (hy_b false) (hy_b false) 0 0) 107 (false || false) = _ by assumption]; rfl)
              · refine hy_const (i := 63) rfl (by decide) ?_
                refine hy_goto (i := 64) (tt := 66) rfl ?_
                refine hy_ireturn (i := 66) rfl rfl ?_
                refine ⟨congrArg some ?_, h2.tr' ((mv_78 ((h3.up rfl).up rfl)).tr' (ml_mv (by assumption)))⟩
                first | exact bb_abs (p := x1) (by assumption) (by assumption) | exact bb_abs (p := x2) (by assumption) (by assumption) | (obtain rfl : x1 = true := (by assumption); obtain rfl : x2 = true := (by assumption); rw [show mb_holds t (mq_V t a c q (hy_b true) (hy_b true) 0 0) 107 (true || true) = _ by assumption]; rfl) | (obtain rfl : x1 = true := (by assumption); obtain rfl : x2 = false := (by assumption); rw [show mb_holds t (mq_V t a c q (hy_b true) (hy_b false) 0 0) 107 (true || false) = _ by assumption]; rfl) | (obtain rfl : x1 = false := (by assumption); obtain rfl : x2 = true := (by assumption); rw [show mb_holds t (mq_V t a c q (hy_b false) (hy_b true) 0 0) 107 (false || true) = _ by assumption]; rfl) | (obtain rfl : x1 = false := (by assumption); obtain rfl : x2 = false := (by assumption); rw [show mb_holds t (mq_V t a c q (hy_b false) (hy_b false) 0 0) 107 (false || false) = _ by assumption]; rfl)
        · refine hy_const (i := 48) rfl (by decide) ?_
          refine hy_goto (i := 49) (tt := 51) rfl ?_
          refine hy_iast (i := 51) rfl rfl (by omega) (show _ = 6 from rfl) ?_
          refine hy_aload (i := 52) rfl rfl ?_
          refine hy_const (i := 53) rfl (by decide) ?_
          refine hy_iload (i := 54) rfl rfl ?_
          refine hy_ib_ne (i := 55) (tt := 58) rfl (fun zc3 => ?_) (fun zc3 => ?_)
          · refine hy_const (i := 58) rfl (by decide) ?_
            refine hy_goto (i := 59) (tt := 61) rfl ?_
            refine hy_cV2 (i := 61) rfl mj_M_holds (by decide) rfl (Nat.le_of_ble_eq_true rfl) rfl rfl rfl (c_M_holdsI (by first | exact .inr rfl | exact .inl rfl) (hk3 _ _)) (fun r1_ t1_ h1 => ?_)
            obtain ⟨rfl, hF1⟩ := h1
            dsimp only [hy_st, List.cons_append, List.nil_append]
            rw [ev]
            refine hy_ib_eq (i := 62) (tt := 65) rfl (fun zc4 => ?_) (fun zc4 => ?_)
            · refine hy_const (i := 65) rfl (by decide) ?_
              refine hy_ireturn (i := 66) rfl rfl ?_
              refine ⟨congrArg some ?_, h2.tr' ((mv_78 ((h3.up rfl).up rfl)).tr' (ml_mv (by assumption)))⟩
              first | exact bb_abs (p := x1) (by assumption) (by assumption) | exact bb_abs (p := x2) (by assumption) (by assumption) | (obtain rfl : x1 = true := (by assumption); obtain rfl : x2 = true := (by assumption); rw [show mb_holds t (mq_V t a c q (hy_b true) (hy_b true) 0 0) 107 (true || true) = _ by assumption]; rfl) | (obtain rfl : x1 = true := (by assumption); obtain rfl : x2 = false := (by assumption); rw [show mb_holds t (mq_V t a c q (hy_b true) (hy_b false) 0 0) 107 (true || false) = _ by assumption]; rfl) | (obtain rfl : x1 = false := (by assumption); obtain rfl : x2 = true := (by assumption); rw [show mb_holds t (mq_V t a c q (hy_b false) (hy_b true) 0 0) 107 (false || true) = _ by assumption]; rfl) | (obtain rfl : x1 = false := (by assumption); obtain rfl : x2 = false := (by assumption); rw [show mb_holds t (mq_V t a c q (hy_b false) (hy_b false) 0 0) 107 (false || false) = _ by assumption]; rfl)
            · refine hy_const (i := 63) rfl (by decide) ?_
              refine hy_goto (i := 64) (tt := 66) rfl ?_
              refine hy_ireturn (i := 66) rfl rfl ?_
              refine ⟨congrArg some ?_, h2.tr' ((mv_78 ((h3.up rfl).up rfl)).tr' (ml_mv (by assumption)))⟩
              first | exact bb_abs (p := x1) (by assumption) (by assumption) | exact bb_abs (p := x2) (by assumption) (by assumption) | (obtain rfl : x1 = true := (by assumption); obtain rfl : x2 = true := (by assumption); rw [show mb_holds t (mq_V t a c q (hy_b true) (hy_b true) 0 0) 107 (true || true) = _ by assumption]; rfl) | (obtain rfl : x1 = true := (by assumption); obtain rfl : x2 = false := (by assumption); rw [show mb_holds t (mq_V t a c q (hy_b true) (hy_b false) 0 0) 107 (true || false) = _ by assumption]; rfl) | (obtain rfl : x1 = false := (by assumption); obtain rfl : x2 = true := (by assumption); rw [show mb_holds t (mq_V t a c q (hy_b false) (hy_b true) 0 0) 107 (false || true) = _ by assumption]; rfl) | (obtain rfl : x1 = false := (by assumption); obtain rfl : x2 = false := (by assumption); rw [show mb_holds t (mq_V t a c q (hy_b false) (hy_b false) 0 0) 107 (false || false) = _ by assumption]; rfl)
          · refine hy_iload (i := 56) rfl rfl ?_
            refine hy_ib_eq (i := 57) (tt := 60) rfl (fun zc4 => ?_) (fun zc4 => ?_)
            · refine hy_const (i := 60) rfl (by decide) ?_
              refine hy_cV2 (i := 61) rfl mj_M_holds (by decide) rfl (Nat.le_of_ble_eq_true rfl) rfl rfl rfl (c_M_holdsI (by first | exact .inr rfl | exact .inl rfl) (hk3 _ _)) (fun r1_ t1_ h1 => ?_)
              obtain ⟨rfl, hF1⟩ := h1
              dsimp only [hy_st, List.cons_append, List.nil_append]
              rw [ev]
              refine hy_ib_eq (i := 62) (tt := 65) rfl (fun zc5 => ?_) (fun zc5 => ?_)
              · refine hy_const (i := 65) rfl (by decide) ?_
                refine hy_ireturn (i := 66) rfl rfl ?_
                refine ⟨congrArg some ?_, h2.tr' ((mv_78 ((h3.up rfl).up rfl)).tr' (ml_mv (by assumption)))⟩
                first | exact bb_abs (p := x1) (by assumption) (by assumption) | exact bb_abs (p := x2) (by assumption) (by assumption) | (obtain rfl : x1 = true := (by assumption); obtain rfl : x2 = true := (by assumption); rw [show mb_holds t (mq_V t a c q (hy_b true) (hy_b true) 0 0) 107 (true || true) = _ by assumption]; rfl) | (obtain rfl : x1 = true := (by assumption); obtain rfl : x2 = false := (by assumption); rw [show mb_holds t (mq_V t a c q (hy_b true) (hy_b false) 0 0) 107 (true || false) = _ by assumption]; rfl) | (obtain rfl : x1 = false := (by assumption); obtain rfl : x2 = true := (by assumption); rw [show mb_holds t (mq_V t a c q (hy_b false) (hy_b true) 0 0) 107 (false || true) = _ by assumption]; rfl) | (obtain rfl : x1 = false := (by assumption); obtain rfl : x2 = false := (by assumption); rw [show mb_holds t (mq_V t a c q (hy_b false) (hy_b false) 0 0) 107 (false || false) = _ by assumption]; rfl)
              · refine hy_const (i := 63) rfl (by decide) ?_
                refine hy_goto (i := 64) (tt := 66) rfl ?_
                refine hy_ireturn (i := 66) rfl rfl ?_
                refine ⟨congrArg some ?_, h2.tr' ((mv_78 ((h3.up rfl).up rfl)).tr' (ml_mv (by assumption)))⟩
                first | exact bb_abs (p := x1) (by assumption) (by assumption) | exact bb_abs (p := x2) (by assumption) (by assumption) | (obtain rfl : x1 = true := (by assumption); obtain rfl : x2 = true := (by assumption); rw [show mb_holds t (mq_V t a c q (hy_b true) (hy_b true) 0 0) 107 (true || true) = _ by assumption]; rfl) | (obtain rfl : x1 = true := (by assumption); obtain rfl : x2 = false := (by assumption); rw [show mb_holds t (mq_V t a c q (hy_b true) (hy_b false) 0 0) 107 (true || false) = _ by assumption]; rfl) | (obtain rfl : x1 = false := (by assumption); obtain rfl : x2 = true := (by assumption); rw [show mb_holds t (mq_V t a c q (hy_b false) (hy_b true) 0 0) 107 (false || true) = _ by assumption]; rfl) | (obtain rfl : x1 = false := (by assumption); obtain rfl : x2 = false := (by assumption); rw [show mb_holds t (mq_V t a c q (hy_b false) (hy_b false) 0 0) 107 (false || false) = _ by assumption]; rfl)
            · refine hy_const (i := 58) rfl (by decide) ?_
              refine hy_goto (i := 59) (tt := 61) rfl ?_
              refine hy_cV2 (i := 61) rfl mj_M_holds (by decide) rfl (Nat.le_of_ble_eq_true rfl) rfl rfl rfl (c_M_holdsI (by first | exact .inr rfl | exact .inl rfl) (hk3 _ _)) (fun r1_ t1_ h1 => ?_)
              obtain ⟨rfl, hF1⟩ := h1
              dsimp only [hy_st, List.cons_append, List.nil_append]
              rw [ev]
              refine hy_ib_eq (i := 62) (tt := 65) rfl (fun zc5 => ?_) (fun zc5 => ?_)
              · refine hy_const (i := 65) rfl (by decide) ?_
                refine hy_ireturn (i := 66) rfl rfl ?_
                refine ⟨congrArg some ?_, h2.tr' ((mv_78 ((h3.up rfl).up rfl)).tr' (ml_mv (by assumption)))⟩
                first | exact bb_abs (p := x1) (by assumption) (by assumption) | exact bb_abs (p := x2) (by assumption) (by assumption) | (obtain rfl : x1 = true := (by assumption); obtain rfl : x2 = true := (by assumption); rw [show mb_holds t (mq_V t a c q (hy_b true) (hy_b true) 0 0) 107 (true || true) = _ by assumption]; rfl) | (obtain rfl : x1 = true := (by assumption); obtain rfl : x2 = false := (by assumption); rw [show mb_holds t (mq_V t a c q (hy_b true) (hy_b false) 0 0) 107 (true || false) = _ by assumption]; rfl) | (obtain rfl : x1 = false := (by assumption); obtain rfl : x2 = true := (by assumption); rw [show mb_holds t (mq_V t a c q (hy_b false) (hy_b true) 0 0) 107 (false || true) = _ by assumption]; rfl) | (obtain rfl : x1 = false := (by assumption); obtain rfl : x2 = false := (by assumption); rw [show mb_holds t (mq_V t a c q (hy_b false) (hy_b false) 0 0) 107 (false || false) = _ by assumption]; rfl)
              · refine hy_const (i := 63) rfl (by decide) ?_
                refine hy_goto (i := 64) (tt := 66) rfl ?_
                refine hy_ireturn (i := 66) rfl rfl ?_
                refine ⟨congrArg some ?_, h2.tr' ((mv_78 ((h3.up rfl).up rfl)).tr' (ml_mv (by assumption)))⟩
                first | exact bb_abs (p := x1) (by assumption) (by assumption) | exact bb_abs (p := x2) (by assumption) (by assumption) | (obtain rfl : x1 = true := (by assumption); obtain rfl : x2 = true := (by assumption); rw [show mb_holds t (mq_V t a c q (hy_b true) (hy_b true) 0 0) 107 (true || true) = _ by assumption]; rfl) | (obtain rfl : x1 = true := (by assumption); obtain rfl : x2 = false := (by assumption); rw [show mb_holds t (mq_V t a c q (hy_b true) (hy_b false) 0 0) 107 (true || false) = _ by assumption]; rfl) | (obtain rfl : x1 = false := (by assumption); obtain rfl : x2 = true := (by assumption); rw [show mb_holds t (mq_V t a c q (hy_b false) (hy_b true) 0 0) 107 (false || true) = _ by assumption]; rfl) | (obtain rfl : x1 = false := (by assumption); obtain rfl : x2 = false := (by assumption); rw [show mb_holds t (mq_V t a c q (hy_b false) (hy_b false) 0 0) 107 (false || false) = _ by assumption]; rfl)
    refine hy_iload (i := 0) rfl rfl ?_
    refine hy_cS1e (i := 1) rfl (by decide) mj_M_isEmpire (by decide) rfl (Nat.le_of_ble_eq_true rfl) (c_M_isEmpire) ?_
    refine hy_ib_eq (i := 2) (tt := 13) rfl (fun zc1 => ?_) (fun zc1 => ?_)
    · simp only [decide_eq_false_iff_not] at zc1; omega
    · refine hy_iload (i := 3) rfl rfl ?_
      refine hy_cS1e (i := 4) rfl (by decide) mj_M_isEmpire (by decide) rfl (Nat.le_of_ble_eq_true rfl) (c_M_isEmpire) ?_
      refine hy_ib_eq (i := 5) (tt := 13) rfl (fun zc2 => ?_) (fun zc2 => ?_)
      · simp only [decide_eq_false_iff_not] at zc2; omega
      · refine hy_aload (i := 6) rfl rfl ?_
        refine hy_iload (i := 7) rfl rfl ?_
        refine hy_cV1e (i := 8) rfl mj_M_isColour (by decide) rfl (Nat.le_of_ble_eq_true rfl) rfl rfl rfl (c_M_isColour) ?_
        refine hy_ib_eq (i := 9) (tt := 13) rfl (fun zc3 => ?_) (fun zc3 => ?_)
        · exact absurd (hq.2.2.1.symm.trans zc3) (by decide)
        · refine hy_iload (i := 10) rfl rfl ?_
          refine hy_cS1e (i := 11) rfl (by decide) mj_M_isQuarter (by decide) rfl (Nat.le_of_ble_eq_true rfl) (c_M_isQuarter) ?_
          refine hy_ib_ne (i := 12) (tt := 15) rfl (fun zc4 => ?_) (fun zc4 => ?_)
          · refine hy_aload (i := 15) rfl rfl ?_
            refine hy_iload (i := 16) rfl rfl ?_
            refine hy_iload (i := 17) rfl rfl ?_
            refine hy_cV2 (i := 18) rfl mj_M_seenBy (by decide) rfl (Nat.le_of_ble_eq_true rfl) rfl rfl rfl (c_M_seenBy (by assumption) (by omega)) (fun r5_ t5_ h5 => ?_)
            obtain ⟨rfl, hF5⟩ := h5
            dsimp only [hy_st, List.cons_append, List.nil_append]
            refine hy_iload (i := 19) rfl rfl ?_
            refine hy_cS2e (i := 20) rfl (by decide) mj_M_has (by decide) rfl (Nat.le_of_ble_eq_true rfl) (c_M_has) ?_
            refine hy_istore (i := 21) rfl ?_
            refine hy_aload (i := 22) rfl rfl ?_
            refine hy_iload (i := 23) rfl rfl ?_
            refine hy_iload (i := 24) rfl rfl ?_
            refine hy_cV2 (i := 25) rfl mj_M_seenBy (by decide) rfl (Nat.le_of_ble_eq_true rfl) rfl rfl rfl (c_M_seenBy (hk1 _ hF5) (by omega)) (fun r7_ t7_ h7 => ?_)
            obtain ⟨rfl, hF7⟩ := h7
            dsimp only [hy_st, List.cons_append, List.nil_append]
            rw [mq_seenN_F hF5 mvX_meq]
            refine hy_iload (i := 26) rfl rfl ?_
            refine hy_cS2e (i := 27) rfl (by decide) mj_M_has (by decide) rfl (Nat.le_of_ble_eq_true rfl) (c_M_has) ?_
            refine hy_istore (i := 28) rfl ?_
            refine hy_aload (i := 29) rfl rfl ?_
            refine hy_iload (i := 30) rfl rfl ?_
            refine hy_iload (i := 31) rfl rfl ?_
            refine hy_iload (i := 32) rfl rfl ?_
            refine hy_cV3 (i := 33) rfl mj_M_feels (by decide) rfl (Nat.le_of_ble_eq_true rfl) rfl rfl rfl (c_M_feels (by omega) (by omega)) (fun r9_ t9_ h9 => ?_)
            obtain ⟨rfl, hF9, hV9⟩ := h9
            dsimp only [hy_st, List.nil_append]
            exact fin _ _ (hF5.tr' hF7) (by assumption) (by assumption)
          · simp only [decide_eq_false_iff_not] at zc4; omega
  · rw [if_neg hq]
    refine hy_iload (i := 0) rfl rfl ?_
    refine hy_cS1e (i := 1) rfl (by decide) mj_M_isEmpire (by decide) rfl (Nat.le_of_ble_eq_true rfl) (c_M_isEmpire) ?_
    refine hy_ib_eq (i := 2) (tt := 13) rfl (fun zc1 => ?_) (fun zc1 => ?_)
    · refine hy_const (i := 13) rfl (by decide) ?_
      refine hy_ireturn (i := 14) rfl rfl ?_
      exact ⟨rfl, hy_F.rf⟩
    · refine hy_iload (i := 3) rfl rfl ?_
      refine hy_cS1e (i := 4) rfl (by decide) mj_M_isEmpire (by decide) rfl (Nat.le_of_ble_eq_true rfl) (c_M_isEmpire) ?_
      refine hy_ib_eq (i := 5) (tt := 13) rfl (fun zc2 => ?_) (fun zc2 => ?_)
      · refine hy_const (i := 13) rfl (by decide) ?_
        refine hy_ireturn (i := 14) rfl rfl ?_
        exact ⟨rfl, hy_F.rf⟩
      · refine hy_aload (i := 6) rfl rfl ?_
        refine hy_iload (i := 7) rfl rfl ?_
        refine hy_cV1e (i := 8) rfl mj_M_isColour (by decide) rfl (Nat.le_of_ble_eq_true rfl) rfl rfl rfl (c_M_isColour) ?_
        refine hy_ib_eq (i := 9) (tt := 13) rfl (fun zc3 => ?_) (fun zc3 => ?_)
        · refine hy_const (i := 13) rfl (by decide) ?_
          refine hy_ireturn (i := 14) rfl rfl ?_
          exact ⟨rfl, hy_F.rf⟩
        · refine hy_iload (i := 10) rfl rfl ?_
          refine hy_cS1e (i := 11) rfl (by decide) mj_M_isQuarter (by decide) rfl (Nat.le_of_ble_eq_true rfl) (c_M_isQuarter) ?_
          refine hy_ib_ne (i := 12) (tt := 15) rfl (fun zc4 => ?_) (fun zc4 => ?_)
          · exfalso; simp only [decide_eq_true_eq] at *; exact hq ⟨by assumption, by assumption, by assumption, by assumption⟩
          · refine hy_const (i := 13) rfl (by decide) ?_
            refine hy_ireturn (i := 14) rfl rfl ?_
            exact ⟨rfl, hy_F.rf⟩
end MQ
