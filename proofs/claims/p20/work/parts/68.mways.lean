/-! the model: ways, seas -/
def pc_sum (C : Nat → Int) : Nat → Int
  | 0 => 0
  | n + 1 => pc_sum C n + C n
theorem pc_sum_su (C : Nat → Int) (k : Nat) (v : Int) : ∀ n : Nat, pc_sum (su C k v) n = pc_sum C n + (if k < n then v - C k else 0)
  | 0 => by simp [pc_sum]
  | n + 1 => by
    simp only [pc_sum, pc_sum_su C k v n, su]
    by_cases h : n = k
    · rw [if_pos h, if_neg (by omega), if_pos (by omega), h]; omega
    · rw [if_neg h]
      by_cases h2 : k < n
      · rw [if_pos h2, if_pos (by omega)]; omega
      · rw [if_neg h2, if_neg (by omega)]; omega
theorem pc_sum_le {C : Nat → Int} {lo hi : Int} : ∀ n : Nat, (∀ f : Nat, f < n → lo ≤ C f ∧ C f ≤ hi) → lo * n ≤ pc_sum C n ∧ pc_sum C n ≤ hi * n
  | 0, _ => by simp [pc_sum]
  | n + 1, h => by
    have ih := pc_sum_le n (fun f hf => h f (by omega))
    have h1 := h n (by omega)
    simp only [pc_sum]
    rw [show (lo * ((n + 1 : Nat) : Int)) = lo * n + lo by rw [Int.natCast_add, Int.mul_add]; simp, show (hi * ((n + 1 : Nat) : Int)) = hi * n + hi by rw [Int.natCast_add, Int.mul_add]; simp]
    omega
/-- a step that makes a way cheaper -/
def pc_better (U : Nat → Bool) (h : Int) (C : Nat → Int) (f w : Nat) : Prop :=
  C f < 1000000000 ∧ pa_beside f w ≠ -1 ∧ (h = 0 ∨ U (pa_beside f w).toNat = true) ∧ C f + 1 + (if U (pa_beside f w).toNat = true then 0 else 100) < C (pa_beside f w).toNat
def pc_step (U : Nat → Bool) (C : Nat → Int) (f w : Nat) : Nat → Int := su C (pa_beside f w).toNat (C f + 1 + (if U (pa_beside f w).toNat = true then 0 else 100))
abbrev pc_in (C : Nat → Int) : Prop := ∀ f : Nat, f < 64 → 0 ≤ C f ∧ C f ≤ 1000000000
theorem pc_step_s {U : Nat → Bool} {h : Int} {C : Nat → Int} {f w : Nat} (hf : f < 64) (hi : pc_in C) (hb : pc_better U h C f w) : pc_in (pc_step U C f w) ∧ pc_sum (pc_step U C f w) 64 < pc_sum C 64 := by
  obtain ⟨b1, b2, b3, b4⟩ := hb
  have hin := pa_beside_in (f := (f : Int)) (by omega) w
  have hk : (pa_beside f w).toNat < 64 := by omega
  have h1 := hi f hf
  have h2 := hi _ hk
  have h3 : 0 ≤ (if U (pa_beside f w).toNat = true then (0 : Int) else 100) := by split <;> decide
  constructor
  · intro g hg
    unfold pc_step
    simp only [su]
    split
    · omega
    · exact hi g hg
  · unfold pc_step
    rw [pc_sum_su, if_pos hk]
    omega
abbrev sX97 : Nat → Nat → Bool := fun r _ => r == 97
section MW1
variable {sc : List Int32} {t : hy_T}
theorem c_M_laysCosts {a u h : Int} {I : (Nat → Int) → Prop} {U : Nat → Bool} (hu : 0 ≤ u ∧ u < 13) (hg : mg_ok t) (hU : ∀ f : Nat, f < 64 → decide (t 79 (t 63 f).toNat = t 79 u.toNat) = U f) (h01 : h = 0 ∨ h = 1)
    (h0 : ∀ C, (∀ f : Nat, f < 64 → C f = if (f : Int) = a then 0 else 1000000000) → I C)
    (hI : ∀ C f w, I C → f < 64 → w < 4 → pc_better U h C f w → I (pc_step U C f w)) :
    hy_Ct sc hm_M_laysCosts 2 [.inr (some 59), .inl a, .inl u, .inl h] t (fun r t' => r = none ∧ hy_F sX97 t t' ∧ I (t' 97) ∧ pc_in (t' 97) ∧ ∀ f w : Nat, f < 64 → w < 4 → ¬ pc_better U h (t' 97) f w) := by
  refine hy_mk_ct ok_M_laysCosts ck_M_laysCosts (Nat.le_of_ble_eq_true rfl) ?_
  have un : ∀ (t1 : hy_T), hy_F sX97 t t1 → ∀ (to : Int), 0 ≤ to ∧ to < 64 → hy_Ct sc hm_M_isUnseen 0 [.inr (some 59), .inl to, .inl u] t1 (hy_e (some (hy_b (U to.toNat))) t1) := by
    intro t1 hF to hto
    have h63 : ∀ j, t1 63 j = t 63 j := fun j => hF 63 j rfl
    have h79 : ∀ j, t1 79 j = t 79 j := fun j => hF 79 j rfl
    have hgt := hg to.toNat (by omega)
    have hc := c_M_isUnseen (sc := sc) (t := t1) (f := to) (u := u) hto hu (by rw [h63]; exact hgt)
    rw [h63, h79, h79, hU to.toNat (by omega)] at hc
    exact hc
  -- one pass, and then the next one
  have passes : ∀ (N : Nat), ∀ (t1 : hy_T) (g : Int) (v5 v6 v7 v8 : hy_V), hy_F sX97 t t1 → I (t1 97) → pc_in (t1 97) → (g = 0 ∨ g = 1) → (g = 0 → ∀ f w : Nat, f < 64 → w < 4 → ¬ pc_better U h (t1 97) f w) → (g = 1 → pc_sum (t1 97) 64 < N) → hy_W sc hm_M_laysCosts 2 19 [.inr (some 59), .inl a, .inl u, .inl h, .inl g, v5, v6, v7, v8] [] t1 (fun r t' => r = none ∧ hy_F sX97 t t' ∧ I (t' 97) ∧ pc_in (t' 97) ∧ ∀ f w : Nat, f < 64 → w < 4 → ¬ pc_better U h (t' 97) f w) := by
    intro N
    induction N with
    | zero =>
      intro t1 g v5 v6 v7 v8 hF hi hin hg01 hst hs
      have := (pc_sum_le (C := t1 97) 64 hin).1
      refine hy_iload (i := 19) rfl rfl ?_
      refine hy_if_eq (i := 20) (tt := 90) rfl (fun zc1 => ?_) (fun zc1 => ?_)
      · refine hy_return (i := 90) rfl rfl ?_
        exact ⟨rfl, hF, hi, hin, hst (by omega)⟩
      · omega
    | succ N ih =>
      intro t1 g v5 v6 v7 v8 hF hi hin hg01 hst hs
      by_cases hg0 : g = 0
      · skip
        refine hy_iload (i := 19) rfl rfl ?_
        refine hy_if_eq (i := 20) (tt := 90) rfl (fun zc1 => ?_) (fun zc1 => ?_)
        · refine hy_return (i := 90) rfl rfl ?_
          exact ⟨rfl, hF, hi, hin, hst hg0⟩
        · exact absurd hg0 (by assumption)
      · have hs1 := hs (by omega)
        -- the fields, by number; what was looked at and no change yet: no better step there
        have fields : ∀ (m : Nat), ∀ (f : Nat) (t2 : hy_T) (g2 : Int) (v6 v7 v8 : hy_V), m + f = 64 → hy_F sX97 t t2 → I (t2 97) → pc_in (t2 97) → (g2 = 0 ∨ g2 = 1) → (g2 = 0 → t2 97 = t1 97 ∧ ∀ f' w : Nat, f' < f → w < 4 → ¬ pc_better U h (t1 97) f' w) → (g2 = 1 → pc_sum (t2 97) 64 < pc_sum (t1 97) 64) → hy_W sc hm_M_laysCosts 2 25 [.inr (some 59), .inl a, .inl u, .inl h, .inl g2, .inl (f : Int), v6, v7, v8] [] t2 (fun r t' => r = none ∧ hy_F sX97 t t' ∧ I (t' 97) ∧ pc_in (t' 97) ∧ ∀ f w : Nat, f < 64 → w < 4 → ¬ pc_better U h (t' 97) f w) := by
          intro m
          induction m with
          | zero =>
            intro f t2 g2 v6 v7 v8 hm hF2 hi2 hin2 hg2 hz ho
            obtain rfl : f = 64 := by omega
            refine hy_iload (i := 25) rfl rfl ?_
            refine hy_const (i := 26) rfl (by decide) ?_
            refine hy_ic_ge (i := 27) (tt := 89) rfl (fun zc1 => ?_) (fun zc1 => ?_)
            · refine hy_goto (i := 89) (tt := 19) rfl ?_
              exact ih t2 g2 _ _ _ _ hF2 hi2 hin2 hg2 (fun q f' w hf hw => by rw [(hz q).1]; exact (hz q).2 f' w hf hw) (fun q => by have := ho q; omega)
            · omega
          | succ m ih2 =>
            intro f t2 g2 v6 v7 v8 hm hF2 hi2 hin2 hg2 hz ho
            have ways : ∀ (m3 : Nat), ∀ (w : Nat) (t3 : hy_T) (g3 : Int) (v7 v8 : hy_V), m3 + w = 4 → hy_F sX97 t t3 → I (t3 97) → pc_in (t3 97) → (g3 = 0 ∨ g3 = 1) → (g3 = 0 → t3 97 = t1 97 ∧ (∀ f' w : Nat, f' < f → w < 4 → ¬ pc_better U h (t1 97) f' w) ∧ ∀ w' : Nat, w' < w → ¬ pc_better U h (t1 97) f w') → (g3 = 1 → pc_sum (t3 97) 64 < pc_sum (t1 97) 64) → hy_W sc hm_M_laysCosts 2 30 [.inr (some 59), .inl a, .inl u, .inl h, .inl g3, .inl (f : Int), .inl (w : Int), v7, v8] [] t3 (fun r t' => r = none ∧ hy_F sX97 t t' ∧ I (t' 97) ∧ pc_in (t' 97) ∧ ∀ f w : Nat, f < 64 → w < 4 → ¬ pc_better U h (t' 97) f w) := by
              intro m3
              induction m3 with
              | zero =>
                intro w t3 g3 v7 v8 hm3 hF3 hi3 hin3 hg3 hz3 ho3
                refine hy_iload (i := 30) rfl rfl ?_
                refine hy_const (i := 31) rfl (by decide) ?_
                refine hy_ic_ge (i := 32) (tt := 87) rfl (fun zc1 => ?_) (fun zc1 => ?_)
                · refine hy_iinc (i := 87) rfl rfl (by omega) ?_
                  refine hy_goto (i := 88) (tt := 25) rfl ?_
                  exact ih2 (f + 1) t3 g3 _ _ _ (by omega) hF3 hi3 hin3 hg3 (fun q => ⟨(hz3 q).1, fun f' w' hf hw => by rcases Nat.lt_succ_iff_lt_or_eq.mp hf with h | rfl; exact (hz3 q).2.1 f' w' h hw; exact (hz3 q).2.2 w' (by omega)⟩) ho3
                · omega
              | succ m3 ih3 =>
                intro w t3 g3 v7 v8 hm3 hF3 hi3 hin3 hg3 hz3 ho3
                have hcf := hin3 f (by omega)
                have hbi := pa_beside_in (f := (f : Int)) (by omega) w
                have hui := fun hto => un t3 hF3 (pa_beside f w) hto
                by_cases hfar : 1000000000 ≤ t3 97 f
                · have nb : ∀ w', ¬ pc_better U h (t3 97) f w' := fun w' q => by have := q.1; omega
                  refine hy_iload (i := 30) rfl rfl ?_
                  refine hy_const (i := 31) rfl (by decide) ?_
                  refine hy_ic_ge (i := 32) (tt := 87) rfl (fun zc1 => ?_) (fun zc1 => ?_)
                  · omega
                  · refine hy_aload (i := 33) rfl rfl ?_
                    refine hy_getr (i := 34) rfl rfl ?_
                    refine hy_iload (i := 35) rfl rfl ?_
                    refine hy_iald (i := 36) rfl rfl (by omega) (k := f) (by omega) ?_
                    refine hy_const (i := 37) rfl (by decide) ?_
                    refine hy_ic_ge (i := 38) (tt := 87) rfl (fun zc2 => ?_) (fun zc2 => ?_)
                    · refine hy_iinc (i := 87) rfl rfl (by omega) ?_
                      refine hy_goto (i := 88) (tt := 25) rfl ?_
                      exact ih2 (f + 1) t3 g3 _ _ _ (by omega) hF3 hi3 hin3 hg3 (fun q => ⟨(hz3 q).1, fun f' w' hf hw => by rcases Nat.lt_succ_iff_lt_or_eq.mp hf with h | rfl; exact (hz3 q).2.1 f' w' h hw; rw [← (hz3 q).1]; exact nb w'⟩) ho3
                    · omega
                · by_cases hb : pc_better U h (t3 97) f w
                  · obtain ⟨b1, b2, b3, b4⟩ := id hb
                    have hto : 0 ≤ pa_beside f w ∧ pa_beside f w < 64 := by omega
                    have hin4 := hin3 (pa_beside f w).toNat (by omega)
                    obtain ⟨s1, s2⟩ := pc_step_s (by omega) hin3 hb
                    have hi4 := hI _ f w hi3 (by omega) (by omega) hb
                    have nx : ∀ (v : Int) (v8 : hy_V), v = t3 97 f + 1 + (if U (pa_beside f w).toNat = true then 0 else 100) → hy_W sc hm_M_laysCosts 2 85 [.inr (some 59), .inl a, .inl u, .inl h, .inl 1, .inl (f : Int), .inl (w : Int), .inl (pa_beside f w), v8] [] (hy_up t3 97 (pa_beside f w).toNat v) (fun r t' => r = none ∧ hy_F sX97 t t' ∧ I (t' 97) ∧ pc_in (t' 97) ∧ ∀ f w : Nat, f < 64 → w < 4 → ¬ pc_better U h (t' 97) f w) := by
                      intro v v8 hv
                      subst hv
                      have er : hy_up t3 97 (pa_beside f w).toNat (t3 97 f + 1 + (if U (pa_beside f w).toNat = true then 0 else 100)) 97 = pc_step U (t3 97) f w := hy_up_row t3 97 _ _
                      refine hy_iinc (i := 85) rfl rfl (by omega) ?_
                      refine hy_goto (i := 86) (tt := 30) rfl ?_
                      refine ih3 (w + 1) _ 1 _ _ (by omega) (hF3.up rfl) (by rw [er]; exact hi4) (by rw [er]; exact s1) (.inr rfl) (fun q => by cases q) (fun _ => ?_)
                      rw [er]
                      rcases hg3 with q | q
                      · rw [← (hz3 q).1]; exact s2
                      · have := ho3 q; omega
                    refine hy_iload (i := 30) rfl rfl ?_
                    refine hy_const (i := 31) rfl (by decide) ?_
                    refine hy_ic_ge (i := 32) (tt := 87) rfl (fun zc1 => ?_) (fun zc1 => ?_)
                    · omega
                    · refine hy_aload (i := 33) rfl rfl ?_
                      refine hy_getr (i := 34) rfl rfl ?_
                      refine hy_iload (i := 35) rfl rfl ?_
                      refine hy_iald (i := 36) rfl rfl (by omega) (k := f) (by omega) ?_
                      refine hy_const (i := 37) rfl (by decide) ?_
                      refine hy_ic_ge (i := 38) (tt := 87) rfl (fun zc2 => ?_) (fun zc2 => ?_)
                      · omega
                      · refine hy_aload (i := 39) rfl rfl ?_
                        refine hy_iload (i := 40) rfl rfl ?_
                        refine hy_iload (i := 41) rfl rfl ?_
                        refine hy_cV2e (i := 42) rfl mj_M_beside (by decide) rfl (Nat.le_of_ble_eq_true rfl) rfl rfl rfl (c_M_beside (by omega) (by omega)) ?_
                        refine hy_istore (i := 43) rfl ?_
                        refine hy_iload (i := 44) rfl rfl ?_
                        refine hy_const (i := 45) rfl (by decide) ?_
                        refine hy_ic_eq (i := 46) (tt := 85) rfl (fun zc3 => ?_) (fun zc3 => ?_)
                        · exact absurd (by assumption) b2
                        · refine hy_iload (i := 47) rfl rfl ?_
                          refine hy_if_eq (i := 48) (tt := 55) rfl (fun zc4 => ?_) (fun zc4 => ?_)
                          · refine hy_aload (i := 55) rfl rfl ?_
                            refine hy_getr (i := 56) rfl rfl ?_
                            refine hy_iload (i := 57) rfl rfl ?_
                            refine hy_iald (i := 58) rfl rfl (by omega) (k := f) (by omega) ?_
                            refine hy_const (i := 59) rfl (by decide) ?_
                            refine hy_iadd (i := 60) rfl (by omega) ?_
                            refine hy_aload (i := 61) rfl rfl ?_
                            refine hy_iload (i := 62) rfl rfl ?_
                            refine hy_iload (i := 63) rfl rfl ?_
                            refine hy_cV2e (i := 64) rfl mj_M_isUnseen (by decide) rfl (Nat.le_of_ble_eq_true rfl) rfl rfl rfl (hui hto) ?_
                            refine hy_ib_eq (i := 65) (tt := 68) rfl (fun zc5 => ?_) (fun zc5 => ?_)
                            · refine hy_const (i := 68) rfl (by decide) ?_
                              refine hy_iadd (i := 69) rfl (by omega) ?_
                              refine hy_istore (i := 70) rfl ?_
                              refine hy_iload (i := 71) rfl rfl ?_
                              refine hy_aload (i := 72) rfl rfl ?_
                              refine hy_getr (i := 73) rfl rfl ?_
                              refine hy_iload (i := 74) rfl rfl ?_
                              refine hy_iald (i := 75) rfl rfl (by omega) rfl ?_
                              refine hy_ic_lt (i := 76) (tt := 78) rfl (fun zc6 => ?_) (fun zc6 => ?_)
                              · refine hy_aload (i := 78) rfl rfl ?_
                                refine hy_getr (i := 79) rfl rfl ?_
                                refine hy_iload (i := 80) rfl rfl ?_
                                refine hy_iload (i := 81) rfl rfl ?_
                                refine hy_iast (i := 82) rfl rfl (by omega) rfl ?_
                                refine hy_const (i := 83) rfl (by decide) ?_
                                refine hy_istore (i := 84) rfl ?_
                                first | exact bb_abs (p := U (pa_beside f w).toNat) (by assumption) (by assumption) | exact nx _ _ (by rw [if_pos (by assumption)]) | exact nx _ _ (by rw [if_neg (fun q => bb_abs q (by assumption))])
                              · exfalso; first | (rw [if_pos (by assumption)] at b4; omega) | (rw [if_neg (fun q => bb_abs q (by assumption))] at b4; omega)
                            · refine hy_const (i := 66) rfl (by decide) ?_
                              refine hy_goto (i := 67) (tt := 69) rfl ?_
                              refine hy_iadd (i := 69) rfl (by omega) ?_
                              refine hy_istore (i := 70) rfl ?_
                              refine hy_iload (i := 71) rfl rfl ?_
                              refine hy_aload (i := 72) rfl rfl ?_
                              refine hy_getr (i := 73) rfl rfl ?_
                              refine hy_iload (i := 74) rfl rfl ?_
                              refine hy_iald (i := 75) rfl rfl (by omega) rfl ?_
                              refine hy_ic_lt (i := 76) (tt := 78) rfl (fun zc6 => ?_) (fun zc6 => ?_)
                              · refine hy_aload (i := 78) rfl rfl ?_
                                refine hy_getr (i := 79) rfl rfl ?_
                                refine hy_iload (i := 80) rfl rfl ?_
                                refine hy_iload (i := 81) rfl rfl ?_
                                refine hy_iast (i := 82) rfl rfl (by omega) rfl ?_
                                refine hy_const (i := 83) rfl (by decide) ?_
                                refine hy_istore (i := 84) rfl ?_
                                first | exact bb_abs (p := U (pa_beside f w).toNat) (by assumption) (by assumption) | exact nx _ _ (by rw [if_pos (by assumption)]) | exact nx _ _ (by rw [if_neg (fun q => bb_abs q (by assumption))])
                              · exfalso; first | (rw [if_pos (by assumption)] at b4; omega) | (rw [if_neg (fun q => bb_abs q (by assumption))] at b4; omega)
                          · refine hy_aload (i := 49) rfl rfl ?_
                            refine hy_iload (i := 50) rfl rfl ?_
                            refine hy_iload (i := 51) rfl rfl ?_
                            refine hy_cV2e (i := 52) rfl mj_M_isUnseen (by decide) rfl (Nat.le_of_ble_eq_true rfl) rfl rfl rfl (hui hto) ?_
                            refine hy_ib_ne (i := 53) (tt := 55) rfl (fun zc5 => ?_) (fun zc5 => ?_)
                            · refine hy_aload (i := 55) rfl rfl ?_
                              refine hy_getr (i := 56) rfl rfl ?_
                              refine hy_iload (i := 57) rfl rfl ?_
                              refine hy_iald (i := 58) rfl rfl (by omega) (k := f) (by omega) ?_
                              refine hy_const (i := 59) rfl (by decide) ?_
                              refine hy_iadd (i := 60) rfl (by omega) ?_
                              refine hy_aload (i := 61) rfl rfl ?_
                              refine hy_iload (i := 62) rfl rfl ?_
                              refine hy_iload (i := 63) rfl rfl ?_
                              refine hy_cV2e (i := 64) rfl mj_M_isUnseen (by decide) rfl (Nat.le_of_ble_eq_true rfl) rfl rfl rfl (hui hto) ?_
                              refine hy_ib_eq (i := 65) (tt := 68) rfl (fun zc6 => ?_) (fun zc6 => ?_)
                              · refine hy_const (i := 68) rfl (by decide) ?_
                                refine hy_iadd (i := 69) rfl (by omega) ?_
                                refine hy_istore (i := 70) rfl ?_
                                refine hy_iload (i := 71) rfl rfl ?_
                                refine hy_aload (i := 72) rfl rfl ?_
                                refine hy_getr (i := 73) rfl rfl ?_
                                refine hy_iload (i := 74) rfl rfl ?_
                                refine hy_iald (i := 75) rfl rfl (by omega) rfl ?_
                                refine hy_ic_lt (i := 76) (tt := 78) rfl (fun zc7 => ?_) (fun zc7 => ?_)
                                · refine hy_aload (i := 78) rfl rfl ?_
                                  refine hy_getr (i := 79) rfl rfl ?_
                                  refine hy_iload (i := 80) rfl rfl ?_
                                  refine hy_iload (i := 81) rfl rfl ?_
                                  refine hy_iast (i := 82) rfl rfl (by omega) rfl ?_
                                  refine hy_const (i := 83) rfl (by decide) ?_
                                  refine hy_istore (i := 84) rfl ?_
                                  first | exact bb_abs (p := U (pa_beside f w).toNat) (by assumption) (by assumption) | exact nx _ _ (by rw [if_pos (by assumption)]) | exact nx _ _ (by rw [if_neg (fun q => bb_abs q (by assumption))])
                                · exfalso; first | (rw [if_pos (by assumption)] at b4; omega) | (rw [if_neg (fun q => bb_abs q (by assumption))] at b4; omega)
                              · refine hy_const (i := 66) rfl (by decide) ?_
                                refine hy_goto (i := 67) (tt := 69) rfl ?_
                                refine hy_iadd (i := 69) rfl (by omega) ?_
                                refine hy_istore (i := 70) rfl ?_
                                refine hy_iload (i := 71) rfl rfl ?_
                                refine hy_aload (i := 72) rfl rfl ?_
                                refine hy_getr (i := 73) rfl rfl ?_
                                refine hy_iload (i := 74) rfl rfl ?_
                                refine hy_iald (i := 75) rfl rfl (by omega) rfl ?_
                                refine hy_ic_lt (i := 76) (tt := 78) rfl (fun zc7 => ?_) (fun zc7 => ?_)
                                · refine hy_aload (i := 78) rfl rfl ?_
                                  refine hy_getr (i := 79) rfl rfl ?_
                                  refine hy_iload (i := 80) rfl rfl ?_
                                  refine hy_iload (i := 81) rfl rfl ?_
                                  refine hy_iast (i := 82) rfl rfl (by omega) rfl ?_
                                  refine hy_const (i := 83) rfl (by decide) ?_
                                  refine hy_istore (i := 84) rfl ?_
                                  first | exact bb_abs (p := U (pa_beside f w).toNat) (by assumption) (by assumption) | exact nx _ _ (by rw [if_pos (by assumption)]) | exact nx _ _ (by rw [if_neg (fun q => bb_abs q (by assumption))])
                                · exfalso; first | (rw [if_pos (by assumption)] at b4; omega) | (rw [if_neg (fun q => bb_abs q (by assumption))] at b4; omega)
                            · exfalso; rcases b3 with q | q; exact absurd q (by assumption); exact bb_abs q (by assumption)
                  · have nx : ∀ (v7 v8 : hy_V), hy_W sc hm_M_laysCosts 2 85 [.inr (some 59), .inl a, .inl u, .inl h, .inl g3, .inl (f : Int), .inl (w : Int), v7, v8] [] t3 (fun r t' => r = none ∧ hy_F sX97 t t' ∧ I (t' 97) ∧ pc_in (t' 97) ∧ ∀ f w : Nat, f < 64 → w < 4 → ¬ pc_better U h (t' 97) f w) := by
                      intro v7 v8
                      refine hy_iinc (i := 85) rfl rfl (by omega) ?_
                      refine hy_goto (i := 86) (tt := 30) rfl ?_
                      exact ih3 (w + 1) _ g3 _ _ (by omega) hF3 hi3 hin3 hg3 (fun q => ⟨(hz3 q).1, (hz3 q).2.1, fun w' hw => by rcases Nat.lt_succ_iff_lt_or_eq.mp hw with h | rfl; exact (hz3 q).2.2 w' h; rw [← (hz3 q).1]; exact hb⟩) ho3
                    by_cases h1 : pa_beside f w = -1
                    · skip
                      refine hy_iload (i := 30) rfl rfl ?_
                      refine hy_const (i := 31) rfl (by decide) ?_
                      refine hy_ic_ge (i := 32) (tt := 87) rfl (fun zc1 => ?_) (fun zc1 => ?_)
                      · omega
                      · refine hy_aload (i := 33) rfl rfl ?_
                        refine hy_getr (i := 34) rfl rfl ?_
                        refine hy_iload (i := 35) rfl rfl ?_
                        refine hy_iald (i := 36) rfl rfl (by omega) (k := f) (by omega) ?_
                        refine hy_const (i := 37) rfl (by decide) ?_
                        refine hy_ic_ge (i := 38) (tt := 87) rfl (fun zc2 => ?_) (fun zc2 => ?_)
                        · omega
                        · refine hy_aload (i := 39) rfl rfl ?_
                          refine hy_iload (i := 40) rfl rfl ?_
                          refine hy_iload (i := 41) rfl rfl ?_
                          refine hy_cV2e (i := 42) rfl mj_M_beside (by decide) rfl (Nat.le_of_ble_eq_true rfl) rfl rfl rfl (c_M_beside (by omega) (by omega)) ?_
                          refine hy_istore (i := 43) rfl ?_
                          refine hy_iload (i := 44) rfl rfl ?_
                          refine hy_const (i := 45) rfl (by decide) ?_
                          refine hy_ic_eq (i := 46) (tt := 85) rfl (fun zc3 => ?_) (fun zc3 => ?_)
                          · exact nx _ _
                          · exact absurd h1 (by assumption)
                    · have hto : 0 ≤ pa_beside f w ∧ pa_beside f w < 64 := by omega
                      have hin4 := hin3 (pa_beside f w).toNat (by omega)
                      refine hy_iload (i := 30) rfl rfl ?_
                      refine hy_const (i := 31) rfl (by decide) ?_
                      refine hy_ic_ge (i := 32) (tt := 87) rfl (fun zc1 => ?_) (fun zc1 => ?_)
                      · omega
                      · refine hy_aload (i := 33) rfl rfl ?_
                        refine hy_getr (i := 34) rfl rfl ?_
                        refine hy_iload (i := 35) rfl rfl ?_
                        refine hy_iald (i := 36) rfl rfl (by omega) (k := f) (by omega) ?_
                        refine hy_const (i := 37) rfl (by decide) ?_
                        refine hy_ic_ge (i := 38) (tt := 87) rfl (fun zc2 => ?_) (fun zc2 => ?_)
                        · omega
                        · refine hy_aload (i := 39) rfl rfl ?_
                          refine hy_iload (i := 40) rfl rfl ?_
                          refine hy_iload (i := 41) rfl rfl ?_
                          refine hy_cV2e (i := 42) rfl mj_M_beside (by decide) rfl (Nat.le_of_ble_eq_true rfl) rfl rfl rfl (c_M_beside (by omega) (by omega)) ?_
                          refine hy_istore (i := 43) rfl ?_
                          refine hy_iload (i := 44) rfl rfl ?_
                          refine hy_const (i := 45) rfl (by decide) ?_
                          refine hy_ic_eq (i := 46) (tt := 85) rfl (fun zc3 => ?_) (fun zc3 => ?_)
                          · exact absurd (by assumption) h1
                          · refine hy_iload (i := 47) rfl rfl ?_
                            refine hy_if_eq (i := 48) (tt := 55) rfl (fun zc4 => ?_) (fun zc4 => ?_)
                            · refine hy_aload (i := 55) rfl rfl ?_
                              refine hy_getr (i := 56) rfl rfl ?_
                              refine hy_iload (i := 57) rfl rfl ?_
                              refine hy_iald (i := 58) rfl rfl (by omega) (k := f) (by omega) ?_
                              refine hy_const (i := 59) rfl (by decide) ?_
                              refine hy_iadd (i := 60) rfl (by omega) ?_
                              refine hy_aload (i := 61) rfl rfl ?_
                              refine hy_iload (i := 62) rfl rfl ?_
                              refine hy_iload (i := 63) rfl rfl ?_
                              refine hy_cV2e (i := 64) rfl mj_M_isUnseen (by decide) rfl (Nat.le_of_ble_eq_true rfl) rfl rfl rfl (hui hto) ?_
                              refine hy_ib_eq (i := 65) (tt := 68) rfl (fun zc5 => ?_) (fun zc5 => ?_)
                              · refine hy_const (i := 68) rfl (by decide) ?_
                                refine hy_iadd (i := 69) rfl (by omega) ?_
                                refine hy_istore (i := 70) rfl ?_
                                refine hy_iload (i := 71) rfl rfl ?_
                                refine hy_aload (i := 72) rfl rfl ?_
                                refine hy_getr (i := 73) rfl rfl ?_
                                refine hy_iload (i := 74) rfl rfl ?_
                                refine hy_iald (i := 75) rfl rfl (by omega) rfl ?_
                                refine hy_ic_lt (i := 76) (tt := 78) rfl (fun zc6 => ?_) (fun zc6 => ?_)
                                · exfalso; refine hb ⟨by omega, h1, ?_, ?_⟩
                                  · first | exact .inl (by assumption) | exact .inr (by assumption)
                                  · first | (rw [if_pos (by assumption)]; omega) | (rw [if_neg (fun q => bb_abs q (by assumption))]; omega)
                                · refine hy_goto (i := 77) (tt := 85) rfl ?_
                                  exact nx _ _
                              · refine hy_const (i := 66) rfl (by decide) ?_
                                refine hy_goto (i := 67) (tt := 69) rfl ?_
                                refine hy_iadd (i := 69) rfl (by omega) ?_
                                refine hy_istore (i := 70) rfl ?_
                                refine hy_iload (i := 71) rfl rfl ?_
                                refine hy_aload (i := 72) rfl rfl ?_
                                refine hy_getr (i := 73) rfl rfl ?_
                                refine hy_iload (i := 74) rfl rfl ?_
                                refine hy_iald (i := 75) rfl rfl (by omega) rfl ?_
                                refine hy_ic_lt (i := 76) (tt := 78) rfl (fun zc6 => ?_) (fun zc6 => ?_)
                                · exfalso; refine hb ⟨by omega, h1, ?_, ?_⟩
                                  · first | exact .inl (by assumption) | exact .inr (by assumption)
                                  · first | (rw [if_pos (by assumption)]; omega) | (rw [if_neg (fun q => bb_abs q (by assumption))]; omega)
                                · refine hy_goto (i := 77) (tt := 85) rfl ?_
                                  exact nx _ _
                            · refine hy_aload (i := 49) rfl rfl ?_
                              refine hy_iload (i := 50) rfl rfl ?_
                              refine hy_iload (i := 51) rfl rfl ?_
                              refine hy_cV2e (i := 52) rfl mj_M_isUnseen (by decide) rfl (Nat.le_of_ble_eq_true rfl) rfl rfl rfl (hui hto) ?_
                              refine hy_ib_ne (i := 53) (tt := 55) rfl (fun zc5 => ?_) (fun zc5 => ?_)
                              · refine hy_aload (i := 55) rfl rfl ?_
                                refine hy_getr (i := 56) rfl rfl ?_
                                refine hy_iload (i := 57) rfl rfl ?_
                                refine hy_iald (i := 58) rfl rfl (by omega) (k := f) (by omega) ?_
                                refine hy_const (i := 59) rfl (by decide) ?_
                                refine hy_iadd (i := 60) rfl (by omega) ?_
                                refine hy_aload (i := 61) rfl rfl ?_
                                refine hy_iload (i := 62) rfl rfl ?_
                                refine hy_iload (i := 63) rfl rfl ?_
                                refine hy_cV2e (i := 64) rfl mj_M_isUnseen (by decide) rfl (Nat.le_of_ble_eq_true rfl) rfl rfl rfl (hui hto) ?_
                                refine hy_ib_eq (i := 65) (tt := 68) rfl (fun zc6 => ?_) (fun zc6 => ?_)
                                · refine hy_const (i := 68) rfl (by decide) ?_
                                  refine hy_iadd (i := 69) rfl (by omega) ?_
                                  refine hy_istore (i := 70) rfl ?_
                                  refine hy_iload (i := 71) rfl rfl ?_
                                  refine hy_aload (i := 72) rfl rfl ?_
                                  refine hy_getr (i := 73) rfl rfl ?_
                                  refine hy_iload (i := 74) rfl rfl ?_
                                  refine hy_iald (i := 75) rfl rfl (by omega) rfl ?_
                                  refine hy_ic_lt (i := 76) (tt := 78) rfl (fun zc7 => ?_) (fun zc7 => ?_)
                                  · exfalso; refine hb ⟨by omega, h1, ?_, ?_⟩
                                    · first | exact .inl (by assumption) | exact .inr (by assumption)
                                    · first | (rw [if_pos (by assumption)]; omega) | (rw [if_neg (fun q => bb_abs q (by assumption))]; omega)
                                  · refine hy_goto (i := 77) (tt := 85) rfl ?_
                                    exact nx _ _
                                · refine hy_const (i := 66) rfl (by decide) ?_
                                  refine hy_goto (i := 67) (tt := 69) rfl ?_
                                  refine hy_iadd (i := 69) rfl (by omega) ?_
                                  refine hy_istore (i := 70) rfl ?_
                                  refine hy_iload (i := 71) rfl rfl ?_
                                  refine hy_aload (i := 72) rfl rfl ?_
                                  refine hy_getr (i := 73) rfl rfl ?_
                                  refine hy_iload (i := 74) rfl rfl ?_
                                  refine hy_iald (i := 75) rfl rfl (by omega) rfl ?_
                                  refine hy_ic_lt (i := 76) (tt := 78) rfl (fun zc7 => ?_) (fun zc7 => ?_)
                                  · exfalso; refine hb ⟨by omega, h1, ?_, ?_⟩
                                    · first | exact .inl (by assumption) | exact .inr (by assumption)
                                    · first | (rw [if_pos (by assumption)]; omega) | (rw [if_neg (fun q => bb_abs q (by assumption))]; omega)
                                  · refine hy_goto (i := 77) (tt := 85) rfl ?_
                                    exact nx _ _
                              · refine hy_goto (i := 54) (tt := 85) rfl ?_
                                exact nx _ _
            refine hy_iload (i := 25) rfl rfl ?_
            refine hy_const (i := 26) rfl (by decide) ?_
            refine hy_ic_ge (i := 27) (tt := 89) rfl (fun zc1 => ?_) (fun zc1 => ?_)
            · omega
            · refine hy_const (i := 28) rfl (by decide) ?_
              refine hy_istore (i := 29) rfl ?_
              exact ways 4 0 t2 g2 _ _ rfl hF2 hi2 hin2 hg2 (fun q => ⟨(hz q).1, (hz q).2, fun w' hw => absurd hw (by omega)⟩) ho
        refine hy_iload (i := 19) rfl rfl ?_
        refine hy_if_eq (i := 20) (tt := 90) rfl (fun zc1 => ?_) (fun zc1 => ?_)
        · exact absurd (by assumption) hg0
        · refine hy_const (i := 21) rfl (by decide) ?_
          refine hy_istore (i := 22) rfl ?_
          refine hy_const (i := 23) rfl (by decide) ?_
          refine hy_istore (i := 24) rfl ?_
          exact fields 64 0 t1 0 _ _ _ rfl hF hi hin (.inl rfl) (fun _ => ⟨rfl, fun f' w' hf => absurd hf (by omega)⟩) (fun q => by cases q)
  have start : ∀ (m : Nat), ∀ (k : Nat) (t1 : hy_T) (v5 v6 v7 v8 : hy_V), m + k = 64 → hy_F sX97 t t1 → (∀ f : Nat, f < k → t1 97 f = if (f : Int) = a then 0 else 1000000000) → hy_W sc hm_M_laysCosts 2 2 [.inr (some 59), .inl a, .inl u, .inl h, .inl (k : Int), v5, v6, v7, v8] [] t1 (fun r t' => r = none ∧ hy_F sX97 t t' ∧ I (t' 97) ∧ pc_in (t' 97) ∧ ∀ f w : Nat, f < 64 → w < 4 → ¬ pc_better U h (t' 97) f w) := by
    intro m
    induction m with
    | zero =>
      intro k t1 v5 v6 v7 v8 hm hF hv
      obtain rfl : k = 64 := by omega
      have hin : pc_in (t1 97) := fun f hf => by rw [hv f hf]; split <;> decide
      have hs := (pc_sum_le (C := t1 97) 64 hin).2
      refine hy_iload (i := 2) rfl rfl ?_
      refine hy_const (i := 3) rfl (by decide) ?_
      refine hy_ic_ge (i := 4) (tt := 17) rfl (fun zc1 => ?_) (fun zc1 => ?_)
      · refine hy_const (i := 17) rfl (by decide) ?_
        refine hy_istore (i := 18) rfl ?_
        exact passes 64000000001 t1 1 _ _ _ _ hF (h0 _ hv) hin (.inr rfl) (fun q => by cases q) (fun _ => by omega)
      · omega
    | succ m ih =>
      intro k t1 v5 v6 v7 v8 hm hF hv
      refine hy_iload (i := 2) rfl rfl ?_
      refine hy_const (i := 3) rfl (by decide) ?_
      refine hy_ic_ge (i := 4) (tt := 17) rfl (fun zc1 => ?_) (fun zc1 => ?_)
      · omega
      · refine hy_aload (i := 5) rfl rfl ?_
        refine hy_getr (i := 6) rfl rfl ?_
        refine hy_iload (i := 7) rfl rfl ?_
        refine hy_iload (i := 8) rfl rfl ?_
        refine hy_iload (i := 9) rfl rfl ?_
        refine hy_ic_ne (i := 10) (tt := 13) rfl (fun zc2 => ?_) (fun zc2 => ?_)
        · refine hy_const (i := 13) rfl (by decide) ?_
          refine hy_iast (i := 14) rfl rfl (by omega) (k := k) (by omega) ?_
          refine hy_iinc (i := 15) rfl rfl (by omega) ?_
          refine hy_goto (i := 16) (tt := 2) rfl ?_
          refine ih (k + 1) _ _ _ _ _ (by omega) (hF.up rfl) (fun f hf => ?_)
          by_cases hfk : f = k
          · subst hfk
            simp only [hy_up, true_and, if_true]
            first | (rw [if_pos (by assumption)]; done) | (rw [if_neg (by assumption)]; done)
          · rw [show ∀ v, hy_up t1 97 k v 97 f = t1 97 f from fun v => by simp [hy_up, hfk]]
            exact hv f (by omega)
        · refine hy_const (i := 11) rfl (by decide) ?_
          refine hy_goto (i := 12) (tt := 14) rfl ?_
          refine hy_iast (i := 14) rfl rfl (by omega) (k := k) (by omega) ?_
          refine hy_iinc (i := 15) rfl rfl (by omega) ?_
          refine hy_goto (i := 16) (tt := 2) rfl ?_
          refine ih (k + 1) _ _ _ _ _ (by omega) (hF.up rfl) (fun f hf => ?_)
          by_cases hfk : f = k
          · subst hfk
            simp only [hy_up, true_and, if_true]
            first | (rw [if_pos (by assumption)]; done) | (rw [if_neg (by assumption)]; done)
          · rw [show ∀ v, hy_up t1 97 k v 97 f = t1 97 f from fun v => by simp [hy_up, hfk]]
            exact hv f (by omega)
  refine hy_const (i := 0) rfl (by decide) ?_
  refine hy_istore (i := 1) rfl ?_
  exact start 64 0 t _ _ _ _ rfl hy_F.rf (fun f hf => absurd hf (by omega))
end MW1

abbrev wmX : Nat → Nat → Bool := fun r j => meX r j || r == 97
abbrev pc_wc (t : hy_T) (a b u e q w : Int) : Prop := (0 ≤ a ∧ a ≤ 63) ∧ (0 ≤ b ∧ b ≤ 63) ∧ mq_ecq t e u q ∧ 0 ≤ w ∧ w ≤ 2
def pc_U (t : hy_T) (e q u : Int) (f : Nat) : Bool := decide (mq_as t e q (t 63 f).toNat = mq_as t e q u.toNat)
def pc_h (w : Int) : Int := if w = 0 then 1 else 0
def pc_ans (c w : Int) : Int := if w = 0 then (if c = 1000000000 then -2 else c) else if w = 1 then c / 100 else c % 100
section MW2
variable {sc : List Int32} {t : hy_T}
theorem c_M_way {a b u e q w : Int} {I : (Nat → Int) → Prop} (hk : ml_ok t) (hp : me_pal t) (hg : mg_ok t)
    (h0 : ∀ C, (∀ f : Nat, f < 64 → C f = if (f : Int) = a then 0 else 1000000000) → I C)
    (hI : ∀ C f w', I C → f < 64 → w' < 4 → pc_better (pc_U t e q u) (pc_h w) C f w' → I (pc_step (pc_U t e q u) C f w')) :
    hy_Ct sc hm_M_way 7 [.inr (some 59), .inl a, .inl b, .inl u, .inl e, .inl q, .inl w] t (fun r t' => r = some (if pc_wc t a b u e q w then pc_ans (t' 97 b.toNat) w else -1) ∧ hy_F wmX t t' ∧ (pc_wc t a b u e q w → I (t' 97) ∧ pc_in (t' 97) ∧ ∀ f w' : Nat, f < 64 → w' < 4 → ¬ pc_better (pc_U t e q u) (pc_h w) (t' 97) f w')) := by
  refine hy_mk_ct ok_M_way ck_M_way (Nat.le_of_ble_eq_true rfl) ?_
  by_cases hq : pc_wc t a b u e q w
  · simp only [if_pos hq]
    obtain ⟨q1, q2, q3, q4⟩ := id hq
    have hu := sp_told_in q3.2.1
    have costs : ∀ (t1 : hy_T), hy_F meX t t1 → (∀ j : Nat, j ≤ 12 → t1 79 j = mq_as t e q j) → hy_Ct sc hm_M_laysCosts 2 [.inr (some 59), .inl a, .inl u, .inl (pc_h w)] t1 (fun r t' => r = none ∧ hy_F sX97 t1 t' ∧ I (t' 97) ∧ pc_in (t' 97) ∧ ∀ f w' : Nat, f < 64 → w' < 4 → ¬ pc_better (pc_U t e q u) (pc_h w) (t' 97) f w') := by
      intro t1 hF hA
      have h63 : ∀ j, t1 63 j = t 63 j := fun j => hF 63 j rfl
      refine c_M_laysCosts (I := I) (U := pc_U t e q u) ⟨by omega, by omega⟩ (fun f hf => by rw [h63]; exact hg f hf) (fun f hf => ?_) ?_ h0 hI
      · have := hg f hf
        unfold pc_U
        rw [h63, hA _ (by omega), hA _ (by omega)]
      · unfold pc_h
        split
        · exact .inr rfl
        · exact .inl rfl
    have fin : ∀ (t1 t2 : hy_T) (st : List hy_V), hy_F meX t t1 → hy_F sX97 t1 t2 → I (t2 97) → pc_in (t2 97) → (∀ f w' : Nat, f < 64 → w' < 4 → ¬ pc_better (pc_U t e q u) (pc_h w) (t2 97) f w') → hy_W sc hm_M_way 7 40 [.inr (some 59), .inl a, .inl b, .inl u, .inl e, .inl q, .inl w] [] t2 (fun r t' => r = some (pc_ans (t' 97 b.toNat) w) ∧ hy_F wmX t t' ∧ (pc_wc t a b u e q w → I (t' 97) ∧ pc_in (t' 97) ∧ ∀ f w' : Nat, f < 64 → w' < 4 → ¬ pc_better (pc_U t e q u) (pc_h w) (t' 97) f w')) := by
      intro t1 t2 st hF hF2 hi hin hst
      have hb := hin b.toNat (by omega)
      refine hy_iload (i := 40) rfl rfl ?_
      refine hy_if_ne (i := 41) (tt := 55) rfl (fun zc1 => ?_) (fun zc1 => ?_)
      · refine hy_iload (i := 55) rfl rfl ?_
        refine hy_const (i := 56) rfl (by decide) ?_
        refine hy_ic_ne (i := 57) (tt := 65) rfl (fun zc2 => ?_) (fun zc2 => ?_)
        · refine hy_aload (i := 65) rfl rfl ?_
          refine hy_getr (i := 66) rfl rfl ?_
          refine hy_iload (i := 67) rfl rfl ?_
          refine hy_iald (i := 68) rfl rfl (by omega) rfl ?_
          refine hy_const (i := 69) rfl (by decide) ?_
          refine hy_irem (i := 70) rfl (by omega) (by omega) ?_
          refine hy_ireturn (i := 71) rfl rfl ?_
          refine ⟨congrArg some ?_, (hF.w (fun r j q => by revert q; simp [wmX, meX]; omega)).tr' (hF2.w (fun r j q => by revert q; simp [wmX, meX])), fun _ => ⟨hi, hin, hst⟩⟩
          unfold pc_ans
          (repeat (first | rw [if_pos (by omega)] | rw [if_neg (by omega)]))
        · refine hy_aload (i := 58) rfl rfl ?_
          refine hy_getr (i := 59) rfl rfl ?_
          refine hy_iload (i := 60) rfl rfl ?_
          refine hy_iald (i := 61) rfl rfl (by omega) rfl ?_
          refine hy_const (i := 62) rfl (by decide) ?_
          refine hy_idiv (i := 63) rfl (by omega) (by omega) ?_
          refine hy_goto (i := 64) (tt := 71) rfl ?_
          refine hy_ireturn (i := 71) rfl rfl ?_
          refine ⟨congrArg some ?_, (hF.w (fun r j q => by revert q; simp [wmX, meX]; omega)).tr' (hF2.w (fun r j q => by revert q; simp [wmX, meX])), fun _ => ⟨hi, hin, hst⟩⟩
          unfold pc_ans
          (repeat (first | rw [if_pos (by omega)] | rw [if_neg (by omega)]))
      · refine hy_aload (i := 42) rfl rfl ?_
        refine hy_getr (i := 43) rfl rfl ?_
        refine hy_iload (i := 44) rfl rfl ?_
        refine hy_iald (i := 45) rfl rfl (by omega) rfl ?_
        refine hy_const (i := 46) rfl (by decide) ?_
        refine hy_ic_ne (i := 47) (tt := 50) rfl (fun zc2 => ?_) (fun zc2 => ?_)
        · refine hy_aload (i := 50) rfl rfl ?_
          refine hy_getr (i := 51) rfl rfl ?_
          refine hy_iload (i := 52) rfl rfl ?_
          refine hy_iald (i := 53) rfl rfl (by omega) rfl ?_
          refine hy_goto (i := 54) (tt := 71) rfl ?_
          refine hy_ireturn (i := 71) rfl rfl ?_
          refine ⟨congrArg some ?_, (hF.w (fun r j q => by revert q; simp [wmX, meX]; omega)).tr' (hF2.w (fun r j q => by revert q; simp [wmX, meX])), fun _ => ⟨hi, hin, hst⟩⟩
          unfold pc_ans
          (repeat (first | rw [if_pos (by omega)] | rw [if_neg (by omega)]))
        · refine hy_const (i := 48) rfl (by decide) ?_
          refine hy_goto (i := 49) (tt := 71) rfl ?_
          refine hy_ireturn (i := 71) rfl rfl ?_
          refine ⟨congrArg some ?_, (hF.w (fun r j q => by revert q; simp [wmX, meX]; omega)).tr' (hF2.w (fun r j q => by revert q; simp [wmX, meX])), fun _ => ⟨hi, hin, hst⟩⟩
          unfold pc_ans
          (repeat (first | rw [if_pos (by omega)] | rw [if_neg (by omega)]))
    refine hy_iload (i := 0) rfl rfl ?_
    refine hy_const (i := 1) rfl (by decide) ?_
    refine hy_const (i := 2) rfl (by decide) ?_
    refine hy_cS3e (i := 3) rfl (by decide) mj_M_in (by decide) rfl (Nat.le_of_ble_eq_true rfl) (c_M_in) ?_
    refine hy_ib_eq (i := 4) (tt := 25) rfl (fun zc1 => ?_) (fun zc1 => ?_)
    · simp only [decide_eq_false_iff_not] at zc1; omega
    · refine hy_iload (i := 5) rfl rfl ?_
      refine hy_const (i := 6) rfl (by decide) ?_
      refine hy_const (i := 7) rfl (by decide) ?_
      refine hy_cS3e (i := 8) rfl (by decide) mj_M_in (by decide) rfl (Nat.le_of_ble_eq_true rfl) (c_M_in) ?_
      refine hy_ib_eq (i := 9) (tt := 25) rfl (fun zc2 => ?_) (fun zc2 => ?_)
      · simp only [decide_eq_false_iff_not] at zc2; omega
      · refine hy_aload (i := 10) rfl rfl ?_
        refine hy_iload (i := 11) rfl rfl ?_
        refine hy_cV1e (i := 12) rfl mj_M_isColour (by decide) rfl (Nat.le_of_ble_eq_true rfl) rfl rfl rfl (c_M_isColour) ?_
        refine hy_ib_eq (i := 13) (tt := 25) rfl (fun zc3 => ?_) (fun zc3 => ?_)
        · exact bb_abs q3.2.1 (by assumption)
        · refine hy_iload (i := 14) rfl rfl ?_
          refine hy_cS1e (i := 15) rfl (by decide) mj_M_isEmpire (by decide) rfl (Nat.le_of_ble_eq_true rfl) (c_M_isEmpire) ?_
          refine hy_ib_eq (i := 16) (tt := 25) rfl (fun zc4 => ?_) (fun zc4 => ?_)
          · simp only [decide_eq_false_iff_not] at zc4; omega
          · refine hy_iload (i := 17) rfl rfl ?_
            refine hy_cS1e (i := 18) rfl (by decide) mj_M_isQuarter (by decide) rfl (Nat.le_of_ble_eq_true rfl) (c_M_isQuarter) ?_
            refine hy_ib_eq (i := 19) (tt := 25) rfl (fun zc5 => ?_) (fun zc5 => ?_)
            · simp only [decide_eq_false_iff_not] at zc5; omega
            · refine hy_iload (i := 20) rfl rfl ?_
              refine hy_const (i := 21) rfl (by decide) ?_
              refine hy_const (i := 22) rfl (by decide) ?_
              refine hy_cS3e (i := 23) rfl (by decide) mj_M_in (by decide) rfl (Nat.le_of_ble_eq_true rfl) (c_M_in) ?_
              refine hy_ib_ne (i := 24) (tt := 27) rfl (fun zc6 => ?_) (fun zc6 => ?_)
              · refine hy_aload (i := 27) rfl rfl ?_
                refine hy_iload (i := 28) rfl rfl ?_
                refine hy_iload (i := 29) rfl rfl ?_
                refine hy_cV2 (i := 30) rfl mj_M_laysAs (by decide) rfl (Nat.le_of_ble_eq_true rfl) rfl rfl rfl (c_M_laysAs (by assumption) (by assumption) (by omega)) (fun r7_ t7_ h7 => ?_)
                obtain ⟨rfl, hF7, hA7⟩ := h7
                dsimp only [hy_st, List.nil_append]
                refine hy_aload (i := 31) rfl rfl ?_
                refine hy_iload (i := 32) rfl rfl ?_
                refine hy_iload (i := 33) rfl rfl ?_
                refine hy_iload (i := 34) rfl rfl ?_
                refine hy_if_ne (i := 35) (tt := 38) rfl (fun zc7 => ?_) (fun zc7 => ?_)
                · refine hy_const (i := 38) rfl (by decide) ?_
                  have cc := costs _ (show hy_F meX t _ by assumption) (by assumption)
                  unfold pc_h at cc
                  first | rw [if_pos (show w = 0 by assumption)] at cc | rw [if_neg (show ¬ w = 0 by assumption)] at cc
                  refine hy_cV3 (i := 39) rfl mj_M_laysCosts (by decide) rfl (Nat.le_of_ble_eq_true rfl) rfl rfl rfl (cc) (fun r8_ t8_ h8 => ?_)
                  obtain ⟨rfl, hF8, hi8, hin8, hst8⟩ := h8
                  dsimp only [hy_st, List.nil_append]
                  refine fin _ _ [] (show hy_F meX t _ by assumption) (by assumption) (by assumption) (by assumption) ?_
                  unfold pc_h
                  first | (rw [if_pos (show w = 0 by assumption)]; assumption) | (rw [if_neg (show ¬ w = 0 by assumption)]; assumption)
                · refine hy_const (i := 36) rfl (by decide) ?_
                  refine hy_goto (i := 37) (tt := 39) rfl ?_
                  have cc := costs _ (show hy_F meX t _ by assumption) (by assumption)
                  unfold pc_h at cc
                  first | rw [if_pos (show w = 0 by assumption)] at cc | rw [if_neg (show ¬ w = 0 by assumption)] at cc
                  refine hy_cV3 (i := 39) rfl mj_M_laysCosts (by decide) rfl (Nat.le_of_ble_eq_true rfl) rfl rfl rfl (cc) (fun r8_ t8_ h8 => ?_)
                  obtain ⟨rfl, hF8, hi8, hin8, hst8⟩ := h8
                  dsimp only [hy_st, List.nil_append]
                  refine fin _ _ [] (show hy_F meX t _ by assumption) (by assumption) (by assumption) (by assumption) ?_
                  unfold pc_h
                  first | (rw [if_pos (show w = 0 by assumption)]; assumption) | (rw [if_neg (show ¬ w = 0 by assumption)]; assumption)
              · simp only [decide_eq_false_iff_not] at zc6; omega
  · simp only [if_neg hq]
    refine hy_iload (i := 0) rfl rfl ?_
    refine hy_const (i := 1) rfl (by decide) ?_
    refine hy_const (i := 2) rfl (by decide) ?_
    refine hy_cS3e (i := 3) rfl (by decide) mj_M_in (by decide) rfl (Nat.le_of_ble_eq_true rfl) (c_M_in) ?_
    refine hy_ib_eq (i := 4) (tt := 25) rfl (fun zc1 => ?_) (fun zc1 => ?_)
    · refine hy_const (i := 25) rfl (by decide) ?_
      refine hy_ireturn (i := 26) rfl rfl ?_
      exact ⟨rfl, hy_F.rf, fun h => absurd h hq⟩
    · refine hy_iload (i := 5) rfl rfl ?_
      refine hy_const (i := 6) rfl (by decide) ?_
      refine hy_const (i := 7) rfl (by decide) ?_
      refine hy_cS3e (i := 8) rfl (by decide) mj_M_in (by decide) rfl (Nat.le_of_ble_eq_true rfl) (c_M_in) ?_
      refine hy_ib_eq (i := 9) (tt := 25) rfl (fun zc2 => ?_) (fun zc2 => ?_)
      · refine hy_const (i := 25) rfl (by decide) ?_
        refine hy_ireturn (i := 26) rfl rfl ?_
        exact ⟨rfl, hy_F.rf, fun h => absurd h hq⟩
      · refine hy_aload (i := 10) rfl rfl ?_
        refine hy_iload (i := 11) rfl rfl ?_
        refine hy_cV1e (i := 12) rfl mj_M_isColour (by decide) rfl (Nat.le_of_ble_eq_true rfl) rfl rfl rfl (c_M_isColour) ?_
        refine hy_ib_eq (i := 13) (tt := 25) rfl (fun zc3 => ?_) (fun zc3 => ?_)
        · refine hy_const (i := 25) rfl (by decide) ?_
          refine hy_ireturn (i := 26) rfl rfl ?_
          exact ⟨rfl, hy_F.rf, fun h => absurd h hq⟩
        · refine hy_iload (i := 14) rfl rfl ?_
          refine hy_cS1e (i := 15) rfl (by decide) mj_M_isEmpire (by decide) rfl (Nat.le_of_ble_eq_true rfl) (c_M_isEmpire) ?_
          refine hy_ib_eq (i := 16) (tt := 25) rfl (fun zc4 => ?_) (fun zc4 => ?_)
          · refine hy_const (i := 25) rfl (by decide) ?_
            refine hy_ireturn (i := 26) rfl rfl ?_
            exact ⟨rfl, hy_F.rf, fun h => absurd h hq⟩
          · refine hy_iload (i := 17) rfl rfl ?_
            refine hy_cS1e (i := 18) rfl (by decide) mj_M_isQuarter (by decide) rfl (Nat.le_of_ble_eq_true rfl) (c_M_isQuarter) ?_
            refine hy_ib_eq (i := 19) (tt := 25) rfl (fun zc5 => ?_) (fun zc5 => ?_)
            · refine hy_const (i := 25) rfl (by decide) ?_
              refine hy_ireturn (i := 26) rfl rfl ?_
              exact ⟨rfl, hy_F.rf, fun h => absurd h hq⟩
            · refine hy_iload (i := 20) rfl rfl ?_
              refine hy_const (i := 21) rfl (by decide) ?_
              refine hy_const (i := 22) rfl (by decide) ?_
              refine hy_cS3e (i := 23) rfl (by decide) mj_M_in (by decide) rfl (Nat.le_of_ble_eq_true rfl) (c_M_in) ?_
              refine hy_ib_ne (i := 24) (tt := 27) rfl (fun zc6 => ?_) (fun zc6 => ?_)
              · exfalso; simp only [decide_eq_true_eq] at *; exact hq ⟨by assumption, by assumption, ⟨by assumption, by assumption, by assumption⟩, by assumption⟩
              · refine hy_const (i := 25) rfl (by decide) ?_
                refine hy_ireturn (i := 26) rfl rfl ?_
                exact ⟨rfl, hy_F.rf, fun h => absurd h hq⟩
end MW2
