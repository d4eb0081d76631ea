/-! the class's draft: its arguments are never below 0; lines' ranges; what was wanting of the class -/
def da_ok (t : hy_T) : Prop := ∀ j : Nat, j < 241 → 0 ≤ t 21 j
def da_good (F : hy_T → hy_T) : Prop := ∀ t, lp_ok t → da_ok t → da_ok (F t)
theorem da_F {X : Nat → Nat → Bool} {t t1 : hy_T} (h : hy_F X t t1) (hx : ∀ j, X 21 j = false) (hd : da_ok t) : da_ok t1 := fun j hj => by
  rw [h 21 j (hx j)]
  exact hd j hj
theorem da_tp {t t1 : hy_T} (h : hy_F tpX t t1) (hd : da_ok t) : da_ok t1 := da_F h (fun _ => rfl) hd
theorem da_up {t : hy_T} {r j : Nat} {v : Int} (hr : 21 ≠ r) (hd : da_ok t) : da_ok (hy_up t r j v) := fun i hi => by
  rw [hy_up_ne hr]
  exact hd i hi
theorem da_emit {t : hy_T} (hd : da_ok t) {op arg : Int} (ha : 0 ≤ arg) : da_ok (lp_emit t op arg) := by
  unfold lp_emit
  split
  · refine da_up (by decide) ?_
    intro j hj
    simp only [hy_up]
    split
    · exact ha
    · rw [if_neg (by omega)]; exact hd j hj
  · exact hd
theorem da_lead {t : hy_T} (h : lp_ok t) (hd : da_ok t) (l : Int) : da_ok (lp_lead t l) := by
  unfold lp_lead
  split
  · intro j hj
    simp only [hy_up]
    split
    · exact h.2.1.1
    · exact hd j hj
  · exact hd
theorem da_N : ∀ (n : Nat) {t : hy_T} {c : Int}, da_ok t → da_ok (rn_N n t c).1
  | 0, t, c, h => h
  | n + 1, t, c, h => by
    simp only [rn_N]
    split
    · exact da_N n (da_tp (tp_step_F t) h)
    · exact h
theorem da_num : da_good rn_num := fun t h hd => by
  obtain ⟨a1, a2, a3⟩ := rn_N_s 5 h (Int.le_refl 0)
  have a4 := da_N 5 (c := 0) hd
  unfold rn_num rn_end
  refine da_emit ?_ a3
  split
  · exact da_tp (tp_fail_G _ _ _) a4
  · exact a4
theorem da_loop {p : Int → Bool} (hp : ∀ s, p s = true → 0 ≤ s) {F : hy_T → hy_T} (hF : rx_good F) (hD : da_good F) : ∀ n, da_good (rx_loop p F n)
  | 0 => fun t h hd => hd
  | n + 1 => fun t h hd => by
    simp only [rx_loop]
    split
    · next hc =>
      have h1 := rx_step_ok h (hp _ hc)
      exact da_loop hp hF hD n _ (lp_emit_s (hF _ h1).1 _ _).1 (da_emit (hD _ h1 (da_tp (tp_step_F t) hd)) (Int.le_refl 0))
    · exact hd
theorem da_product {F : hy_T → hy_T} (hF : rx_good F) (hD : da_good F) : da_good (rx_product F) := fun t h hd =>
  da_loop (fun s => lp_times_p) hF hD 240 _ (hF t h).1 (hD t h hd)
theorem da_sum {F : hy_T → hy_T} (hF : rx_good F) (hD : da_good F) : da_good (rx_sum F) := fun t h hd =>
  da_loop (fun s => rx_pm_p) hF hD 240 _ (hF t h).1 (hD t h hd)
theorem da_factor {S : Option (hy_T → hy_T)} (hS : ∀ F, S = some F → da_good F) : da_good (rx_factor S) := fun t h hd => by
  unfold rx_factor
  split
  · exact da_num t h hd
  · split
    · split
      · exact da_tp (tp_fail_G _ _ _) hd
      · next _ F => exact da_tp (tp_take_F _ _) (hS F rfl _ (rx_step_ok h (by omega)) (da_tp (tp_step_F t) hd))
    · split
      · exact da_tp (tp_fail_G _ _ _) hd
      · exact da_emit (da_tp (tp_step_F t) hd) (by omega)
theorem da_sumL : ∀ n, da_good (rx_sumL n)
  | 0 => da_sum (rx_product_s (rx_factor_s (fun F h => by cases h))) (da_product (rx_factor_s (fun F h => by cases h)) (da_factor (fun F h => by cases h)))
  | n + 1 => da_sum (rx_product_s (rx_factor_s (fun F h => by cases h; exact rx_sumL_s n))) (da_product (rx_factor_s (fun F h => by cases h; exact rx_sumL_s n)) (da_factor (fun F h => by cases h; exact da_sumL n)))
theorem da_bloop {sg : Int} (hs : 0 ≤ sg) {F : hy_T → hy_T} (hF : rx_good F) (hD : da_good F) : ∀ (n : Nat) (l : Int), da_good (fun t => rb_loop sg F n t l)
  | 0, l => fun t h hd => da_lead h hd l
  | n + 1, l => fun t h hd => by
    simp only [rb_loop]
    split
    · have h1 := rx_step_ok h (show 0 ≤ tp_next t by omega)
      have h2 := (lp_emit_s (lp_lead_s h1 l).1 sg 0).1
      exact da_bloop hs hF hD n _ _ (hF _ h2).1 (hD _ h2 (da_emit (da_lead h1 (da_tp (tp_step_F t) hd) l) (Int.le_refl 0)))
    · exact da_lead h hd l
theorem da_both {sg : Int} (hs : 0 ≤ sg) {F : hy_T → hy_T} (hF : rx_good F) (hD : da_good F) : da_good (rb_both sg F) := fun t h hd =>
  da_bloop hs hF hD 240 (-1) _ (hF t h).1 (hD t h hd)
theorem da_piece {S : hy_T → hy_T} (hS : rx_good S) (hDS : da_good S) {N : Option ((hy_T → hy_T) × (hy_T → hy_T))} (hN : ∀ P E, N = some (P, E) → da_good P ∧ da_good E) : da_good (rp_piece S N) := fun t h hd => by
  unfold rp_piece
  split
  · split
    · exact da_tp (tp_fail_G _ _ _) hd
    · next _ P E =>
      have h2 := rx_step_ok h (show 0 ≤ tp_next t by omega)
      have d2 := da_tp (tp_step_F t) hd
      split
      · exact da_emit ((hN P E rfl).1 _ h2 d2) (Int.le_refl 0)
      · exact da_tp (tp_take_F _ _) ((hN P E rfl).2 _ h2 d2)
  · split
    · exact da_emit (hDS _ (rx_step_ok (hS _ h).1 (show 0 ≤ tp_next (S t) by omega)) (da_tp (tp_step_F _) (hDS _ h hd))) (Int.le_refl 0)
    · exact da_tp (tp_fail_G _ _ _) (hDS _ h hd)
theorem da_lev : ∀ n, da_good (rp_lev n)
  | 0 => da_piece (rx_sumL_s 0) (da_sumL 0) (fun P E h => by cases h)
  | n + 1 => da_piece (rx_sumL_s (n + 1)) (da_sumL (n + 1)) (fun P E h => by cases h; exact ⟨da_lev n, da_both (by decide) (rb_both_s (by decide) (rp_lev_s n)) (da_both (by decide) (rp_lev_s n) (da_lev n))⟩)
theorem da_either (n : Nat) : da_good (rp_either n) := da_both (by decide) (rb_both_s (by decide) (rp_lev_s n)) (da_both (by decide) (rp_lev_s n) (da_lev n))
theorem da_amt (k : Int) : da_good (rk_amt k) := fun t h hd => by
  unfold rk_amt
  split
  · exact da_emit (da_sumL 6 t h hd) (Int.le_refl 0)
  · exact hd
theorem da_body : da_good rk_body := fun t h hd =>
  da_emit (da_tp (tp_take_F _ _) (da_either 5 _ (lp_take_s (rk_pre_s h) (s := 40) (by decide)).1 (da_tp (tp_take_F _ _) (da_up (by decide) hd)))) (Int.le_refl 0)
theorem da_clause : da_good rk_clause := fun t h hd => by
  unfold rk_clause
  split
  · next hk =>
    split
    · exact da_tp (tp_fail_G _ _ _) hd
    · have h1 := rx_step_ok h (show 0 ≤ tp_next t by omega)
      have h2 := (rk_head_s h1 (tp_next t)).1
      exact da_up (by decide) (da_body _ (rk_amt_s h2 (tp_next t)).1 (da_amt _ _ h2 (da_up (by decide) (da_up (by decide) (da_tp (tp_step_F t) hd)))))
  · exact da_tp (tp_fail_G _ _ _) hd
theorem da_cloop : ∀ n, da_good (rk_loop n)
  | 0 => fun t h hd => hd
  | n + 1 => fun t h hd => by
    simp only [rk_loop]
    split
    · have h1 := rx_step_ok h (show 0 ≤ tp_next t by omega)
      exact da_cloop n _ (rk_clause_s h1).1 (da_clause _ h1 (da_tp (tp_step_F t) hd))
    · exact hd
theorem rk_read_all {t : hy_T} (h : tp_ok t) (hd : da_ok t) (n : Int) : lp_ok (rk_read t n) ∧ hy_F lkX t (rk_read t n) ∧ da_ok (rk_read t n) := by
  have h1 := rk_init_s h n
  have d1 : da_ok (rk_init t n) := by
    unfold rk_init tp_start
    exact da_up (by decide) (da_up (by decide) (da_up (by decide) (da_up (by decide) (da_up (by decide) hd))))
  have f1 : hy_F lkX t (rk_init t n) := by
    unfold rk_init tp_start
    exact ((((hy_F.rf.up rfl).up rfl).up rfl).up rfl).up rfl
  obtain ⟨a1, a2⟩ := rk_clause_s h1
  obtain ⟨b1, b2⟩ := rk_loop_s 16 a1
  have f := tp_finish_F (rk_loop 16 (rk_clause (rk_init t n)))
  exact ⟨lp_ok_tp f b1 (tp_finish_ok b1.1), ((f1.tr' a2).tr' b2).tr' (lkX_lp (lpX_tp f)), da_tp f (da_cloop 16 _ a1 (da_clause _ h1 d1))⟩
abbrev lwcX : Nat → Nat → Bool := fun r j => lkX r j || (r == 3 && j == 1) || lawX r j
theorem lp_lawcp_F (t : hy_T) : hy_F lawX t (lp_lawcp t) := by
  intro r j q
  simp only [lawX, Bool.or_eq_false_iff, Bool.and_eq_false_iff, beq_eq_false_iff_ne] at q
  simp only [lp_lawcp, hy_up, hy_cp]
  rw [if_neg (by omega), if_neg (by omega), if_neg (by omega), if_neg (by omega), if_neg (by omega), if_neg (by omega), if_neg (by omega)]
theorem lp_lawcp_ok {t : hy_T} (h : lp_ok t) (hd : da_ok t) : lc_ok (lp_lawcp t) := by
  refine ⟨?_, ?_, fun j hj => ?_⟩
  · simp only [lp_lawcp, hy_up]
    exact h.2.1.2
  · simp only [lp_lawcp, hy_up]
    exact h.2.2
  · have e : lp_lawcp t 13 j = t 21 j := by
      simp only [lp_lawcp, hy_up, hy_cp]
      simp [hj]
    rw [e]
    exact hd j hj
theorem hz_0260 : (0 : Int) ≤ 0 ∧ (0 : Int) ≤ 260 := by decide
theorem wf_law_s {t : hy_T} (h : tp_ok t) (hd : da_ok t) (hk : lc_ok t) (n : Int) : hy_F lwcX t (wf_law t n).2 ∧ tp_ok (wf_law t n).2 ∧ da_ok (wf_law t n).2 ∧ lc_ok (wf_law t n).2 := by
  obtain ⟨a1, a2, a3⟩ := rk_read_all h hd n
  have f1 : hy_F (fun r j => lkX r j || (r == 3 && j == 1)) t (hy_up (rk_read t n) 3 1 0) := (a2.w (fun r j q => (Bool.or_eq_false_iff.mp q).1)).up rfl
  have f0 : hy_F lwcX t (hy_up (rk_read t n) 3 1 0) := f1.w (fun r j q => (Bool.or_eq_false_iff.mp q).1)
  have t1 : tp_ok (hy_up (rk_read t n) 3 1 0) := ⟨a1.1.b, hz_0260, a1.1.e, a1.1.p⟩
  have d1 : da_ok (hy_up (rk_read t n) 3 1 0) := da_up (by decide) a3
  have hl : lp_ok (hy_up (rk_read t n) 3 1 0) := ⟨t1, a1.2⟩
  have f2 := lp_lawcp_F (hy_up (rk_read t n) 3 1 0)
  unfold wf_law
  split
  · split
    · exact ⟨f0.tr' (f2.w (fun r j q => (Bool.or_eq_false_iff.mp q).2)), tp_ok_F f2 (fun _ => rfl) (fun _ => rfl) t1, da_F f2 (fun _ => rfl) d1, lp_lawcp_ok hl d1⟩
    · exact ⟨f0, t1, d1, lc_ok_same (lc_same_of f1 (fun r j q => by revert q; simp only [lawX, lkX, lpX, Bool.or_eq_true, Bool.and_eq_true, beq_iff_eq, Bool.or_eq_false_iff, Bool.and_eq_false_iff, beq_eq_false_iff_ne]; omega)) hk⟩
  · exact ⟨hy_F.rf, h, hd, hk⟩
/-- lines' ranges -/
theorem rd_colour_v (t : hy_T) : rg (rd_colour t).2 := by
  have h : ∀ t c, 0 ≤ c → (c ≤ 9 → 0 ≤ (rd_colourN 1 t c).2 ∧ (rd_colourN 1 t c).2 ≤ 99) := by
    intro t c h0 h9
    simp only [rd_colourN]
    split
    · dsimp only; omega
    · dsimp only; omega
  unfold rd_colour
  show rg (rd_colourN 2 t 0).2
  rw [show rd_colourN 2 t 0 = if 48 ≤ tp_next t ∧ tp_next t ≤ 57 then rd_colourN 1 (tp_step t) (10 * 0 + tp_next t - 48) else (t, 0) from rfl]
  split
  · have := h (tp_step t) (10 * 0 + tp_next t - 48) (by omega) (by omega)
    exact ⟨by omega, by omega⟩
  · show rg 0
    decide
theorem rd_quartersE_v (t : hy_T) (b : Int) : (rd_quartersE t b).2 = b := rfl
theorem rd_quartersN_v : ∀ (n : Nat) {t : hy_T} {b : Int}, (0 ≤ b ∧ b ≤ 15) → 0 ≤ (rd_quartersN n t b).2 ∧ (rd_quartersN n t b).2 ≤ 15
  | 0, t, b, h => h
  | n + 1, t, b, h => by
    simp only [rd_quartersN]
    split
    · next hq =>
      split
      · have := ml_bits h (q := tp_next t - 48) hq
        exact rd_quartersN_v n ⟨by omega, this.2⟩
      · exact h
    · exact h
theorem rd_quarters_v (t : hy_T) : rg (rd_quarters t).2 := by
  have := rd_quartersN_v 5 (t := t) (b := 0) (by decide)
  unfold rd_quarters
  exact ⟨by omega, by omega⟩
theorem rd_empire_v {t : hy_T} (h : tp_ok t) (a : Int) : rg (rd_empire t a).2 := by
  have := tp_next_in h
  show rg (tp_next t - 48)
  exact ⟨by omega, by omega⟩
theorem ln_ok_u {t : hy_T} {r j : Nat} {v : Int} (hv : rg v) (h : ln_ok t) : ln_ok (hy_up t r j v) := fun i hi => by
  obtain ⟨a, b, c, d⟩ := h i hi
  refine ⟨?_, ?_, ?_, ?_⟩ <;> (simp only [hy_up]; split <;> assumption)
theorem ln_tp {t t1 : hy_T} (h : hy_F tpX t t1) (hn : ln_ok t) : ln_ok t1 := ln_ok_F h (fun _ => rfl) (fun _ => rfl) (fun _ => rfl) (fun _ => rfl) hn
theorem ln_o {t : hy_T} {r j : Nat} {v : Int} (h1 : 28 ≠ r) (h2 : 29 ≠ r) (h3 : 31 ≠ r) (h4 : 32 ≠ r) (h : ln_ok t) : ln_ok (hy_up t r j v) := fun i hi => by
  rw [hy_up_ne h1, hy_up_ne h2, hy_up_ne h3, hy_up_ne h4]
  exact h i hi
theorem rd_line_n {t : hy_T} (h : tp_ok t) (hn : ln_ok t) : ln_ok (rd_line t) := by
  unfold rd_line
  split
  · split
    · obtain ⟨a1, a2, a3⟩ := rd_g2_s h
      obtain ⟨b1, b2, b3⟩ := rd_g3_s a1
      obtain ⟨c1, c2, c3⟩ := rd_g4_s b1
      obtain ⟨d1, d2, d3⟩ := rd_g5_s c1
      have n2 : ln_ok (rd_g2 t) := ln_tp (tp_take_F _ _) (ln_ok_u (rd_colour_v t) (ln_tp (rd_colour_s h).2 hn))
      have n3 : ln_ok (rd_g3 (rd_g2 t)) := ln_ok_u (rd_quarters_v _) (ln_tp (rd_quartersN_s 5 (b := 0) a1).2 n2)
      have n4 : ln_ok (rd_g4 (rd_g3 (rd_g2 t))) := ln_o (by decide) (by decide) (by decide) (by decide) (ln_tp (rd_sign_s b1).2 n3)
      have n5 : ln_ok (rd_g5 (rd_g4 (rd_g3 (rd_g2 t)))) := ln_ok_u (rd_empire_v c1 _) (ln_tp (rd_empire_s c1 (-1)).2 n4)
      exact ln_o (by decide) (by decide) (by decide) (by decide) (ln_ok_u (rd_empire_v d1 _) (ln_tp (rd_empire_s d1 _).2 n5))
    · exact ln_tp (tp_fail_G _ _ _) hn
  · exact ln_tp (tp_fail_G _ _ _) hn
theorem rd_linesN_n : ∀ (n : Nat) {t : hy_T}, tp_ok t → (0 ≤ t 27 6 ∧ t 27 6 ≤ 8) → ln_ok t → ln_ok (rd_linesN n t)
  | 0, t, h, hl, hn => hn
  | n + 1, t, h, hl, hn => by
    simp only [rd_linesN]
    split
    · have h1 := tp_step_ok h (show 0 ≤ tp_next t by omega)
      have hl1 : 0 ≤ tp_step t 27 6 ∧ tp_step t 27 6 ≤ 8 := hl
      obtain ⟨a1, a2, a3⟩ := rd_line_s h1 hl1
      exact rd_linesN_n n a1 a3 (rd_line_n h1 (ln_tp (tp_step_F t) hn))
    · exact hn
theorem rd_lines_n {t : hy_T} (h : tp_ok t) (hn : ln_ok t) (n : Int) : ln_ok (rd_lines t n) := by
  have h1 : tp_ok (hy_up (tp_start t n) 27 6 0) := tp_ok_up (tp_start_ok h n) rfl
  have n1 : ln_ok (hy_up (tp_start t n) 27 6 0) := by
    unfold tp_start
    exact ln_o (by decide) (by decide) (by decide) (by decide) (ln_o (by decide) (by decide) (by decide) (by decide) (ln_o (by decide) (by decide) (by decide) (by decide) (ln_o (by decide) (by decide) (by decide) (by decide) hn)))
  obtain ⟨a1, a2, a3⟩ := rd_line_s (t := hy_up (tp_start t n) 27 6 0) h1 hz_08
  exact ln_tp (tp_finish_F _) (rd_linesN_n 8 a1 a3 (rd_line_n h1 n1))
