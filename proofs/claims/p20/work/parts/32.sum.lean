/-! the class's law: sums and products as they are read -/
def rx_loop (p : Int → Bool) (F : hy_T → hy_T) : Nat → hy_T → hy_T
  | 0, t => t
  | n + 1, t => if p (tp_next t) = true then rx_loop p F n (lp_emit (F (tp_step t)) (tp_next t) 0) else t
def rx_product (F : hy_T → hy_T) (t : hy_T) : hy_T := rx_loop lp_times F 240 (F t)
def rx_good (F : hy_T → hy_T) : Prop := ∀ t, lp_ok t → lp_ok (F t) ∧ hy_F lpX t (F t)
theorem rx_step_ok {t : hy_T} (h : lp_ok t) (hn : 0 ≤ tp_next t) : lp_ok (tp_step t) := lp_ok_tp (tp_step_F t) h (tp_step_ok h.1 hn)
theorem rx_loop_s {p : Int → Bool} (hp : ∀ s, p s = true → 0 ≤ s) {F : hy_T → hy_T} (hF : rx_good F) : ∀ n, rx_good (rx_loop p F n)
  | 0 => fun t h => ⟨h, hy_F.rf⟩
  | n + 1 => fun t h => by
    simp only [rx_loop]
    split
    · next hc =>
      obtain ⟨a1, a2⟩ := hF _ (rx_step_ok h (hp _ hc))
      obtain ⟨b1, b2⟩ := lp_emit_s a1 (tp_next t) 0
      obtain ⟨c1, c2⟩ := rx_loop_s hp hF n _ b1
      exact ⟨c1, (((lpX_tp (tp_step_F t)).tr' a2).tr' b2).tr' c2⟩
    · exact ⟨h, hy_F.rf⟩
theorem lp_times_p {s : Int} (h : lp_times s = true) : 0 ≤ s := by
  unfold lp_times at h
  have := of_decide_eq_true h
  omega
theorem rx_product_s {F : hy_T → hy_T} (hF : rx_good F) : rx_good (rx_product F) := fun t h => by
  obtain ⟨a1, a2⟩ := hF t h
  obtain ⟨b1, b2⟩ := rx_loop_s (p := lp_times) (fun s => lp_times_p) hF 240 _ a1
  exact ⟨b1, a2.tr' b2⟩
def rx_pm (s : Int) : Bool := decide (s = 43 ∨ s = 45)
theorem rx_pm_p {s : Int} (h : rx_pm s = true) : 0 ≤ s := by
  unfold rx_pm at h
  have := of_decide_eq_true h
  omega
def rx_sum (P : hy_T → hy_T) (t : hy_T) : hy_T := rx_loop rx_pm P 240 (P t)
theorem rx_sum_s {F : hy_T → hy_T} (hF : rx_good F) : rx_good (rx_sum F) := fun t h => by
  obtain ⟨a1, a2⟩ := hF t h
  obtain ⟨b1, b2⟩ := rx_loop_s (p := rx_pm) (fun s => rx_pm_p) hF 240 _ a1
  exact ⟨b1, a2.tr' b2⟩
def rx_factor (S : Option (hy_T → hy_T)) (t : hy_T) : hy_T :=
  if 48 ≤ tp_next t ∧ tp_next t ≤ 57 then rn_num t
  else if tp_next t = 91 then (match S with
    | none => tp_fail t 5 (t 3 3)
    | some S => tp_take (S (tp_step t)) 93)
  else if lp_letter (tp_next t) < 0 then tp_fail t 1 (t 3 3) else lp_emit (tp_step t) 97 (lp_letter (tp_next t))
section RX
variable {sc : List Int32} {t : hy_T}
theorem c_L_readProduct {F : hy_T → hy_T} {d0 d : Nat} {o : Int} (hd : d0 < d) (hd2 : 2 < d) (hg : rx_good F) (hc : ∀ t1 : hy_T, lp_ok t1 → hy_Ct sc hm_L_readFactor d0 [.inr (some 19), .inl o] t1 (hy_e none (F t1))) (h : lp_ok t) : hy_Ct sc hm_L_readProduct d [.inr (some 19), .inl o] t (hy_e none (rx_product F t)) := by
  refine hy_mk_ct ok_L_readProduct ck_L_readProduct (Nat.le_of_ble_eq_true rfl) ?_
  have loop : ∀ (n : Nat), ∀ (k : Nat) (t1 : hy_T) (v3 : hy_V), n + k = 240 → lp_ok t1 → rx_loop lp_times F n t1 = rx_product F t → hy_W sc hm_L_readProduct d 5 [.inr (some 19), .inl o, .inl (k : Int), v3] [] t1 (hy_e none (rx_product F t)) := by
    intro n
    induction n with
    | zero =>
      intro k t1 v3 hn h1 he
      obtain rfl : k = 240 := by omega
      rw [← he]
      refine hy_iload (i := 5) rfl rfl ?_
      refine hy_const (i := 6) rfl (by decide) ?_
      refine hy_ic_ge (i := 7) (tt := 30) rfl (fun zc1 => ?_) (fun zc1 => ?_)
      · refine hy_return (i := 30) rfl rfl ?_
        exact ⟨rfl, rfl⟩
      · omega
    | succ n ih =>
      intro k t1 v3 hn h1 he
      by_cases hp : lp_times (tp_next t1) = true
      · have e : rx_loop lp_times F (n + 1) t1 = rx_loop lp_times F n (lp_emit (F (tp_step t1)) (tp_next t1) 0) := by simp only [rx_loop]; rw [if_pos hp]
        rw [e] at he
        have h2 : lp_ok (tp_step t1) := rx_step_ok h1 (lp_times_p hp)
        have h3 := (hg _ h2).1
        have h4 := (lp_emit_s h3 (tp_next t1) 0).1
        refine hy_iload (i := 5) rfl rfl ?_
        refine hy_const (i := 6) rfl (by decide) ?_
        refine hy_ic_ge (i := 7) (tt := 30) rfl (fun zc1 => ?_) (fun zc1 => ?_)
        · omega
        · refine hy_aload (i := 8) rfl rfl ?_
          refine hy_getr (i := 9) rfl rfl ?_
          refine hy_cV0e (i := 10) rfl mj_T_next (by omega) rfl (Nat.le_of_ble_eq_true rfl) rfl rfl rfl (c_T_next (tp_ok.e (And.left (show lp_ok _ by assumption)))) ?_
          refine hy_cS1e (i := 11) rfl (by decide) mj_L_isTimes (by omega) rfl (Nat.le_of_ble_eq_true rfl) (c_L_isTimes) ?_
          refine hy_ib_eq (i := 12) (tt := 30) rfl (fun zc2 => ?_) (fun zc2 => ?_)
          · simp_all
          · refine hy_aload (i := 13) rfl rfl ?_
            refine hy_getr (i := 14) rfl rfl ?_
            refine hy_cV0e (i := 15) rfl mj_T_next (by omega) rfl (Nat.le_of_ble_eq_true rfl) rfl rfl rfl (c_T_next (tp_ok.e (And.left (show lp_ok _ by assumption)))) ?_
            refine hy_istore (i := 16) rfl ?_
            refine hy_aload (i := 17) rfl rfl ?_
            refine hy_getr (i := 18) rfl rfl ?_
            refine hy_cV0v (i := 19) rfl mj_T_step (by omega) rfl (Nat.le_of_ble_eq_true rfl) rfl rfl rfl (c_T_step (by have := tp_ok.p (And.left (show lp_ok _ by assumption)); omega)) ?_
            refine hy_aload (i := 20) rfl rfl ?_
            refine hy_iload (i := 21) rfl rfl ?_
            refine hy_cV1v (i := 22) rfl mj_L_readFactor (by omega) rfl (Nat.le_of_ble_eq_true rfl) rfl rfl rfl (hc _ h2) ?_
            refine hy_aload (i := 23) rfl rfl ?_
            refine hy_iload (i := 24) rfl rfl ?_
            refine hy_const (i := 25) rfl (by decide) ?_
            refine hy_cV2e (i := 26) rfl mj_L_emit (by omega) rfl (Nat.le_of_ble_eq_true rfl) rfl rfl rfl (c_L_emit h3.2.1) ?_
            refine hy_pop (i := 27) rfl ?_
            refine hy_iinc (i := 28) rfl rfl (by omega) ?_
            refine hy_goto (i := 29) (tt := 5) rfl ?_
            exact ih (k + 1) _ _ (by omega) h4 he
      · have e : rx_loop lp_times F (n + 1) t1 = t1 := by simp only [rx_loop]; rw [if_neg hp]
        rw [e] at he
        rw [← he]
        refine hy_iload (i := 5) rfl rfl ?_
        refine hy_const (i := 6) rfl (by decide) ?_
        refine hy_ic_ge (i := 7) (tt := 30) rfl (fun zc1 => ?_) (fun zc1 => ?_)
        · omega
        · refine hy_aload (i := 8) rfl rfl ?_
          refine hy_getr (i := 9) rfl rfl ?_
          refine hy_cV0e (i := 10) rfl mj_T_next (by omega) rfl (Nat.le_of_ble_eq_true rfl) rfl rfl rfl (c_T_next (tp_ok.e (And.left (show lp_ok _ by assumption)))) ?_
          refine hy_cS1e (i := 11) rfl (by decide) mj_L_isTimes (by omega) rfl (Nat.le_of_ble_eq_true rfl) (c_L_isTimes) ?_
          refine hy_ib_eq (i := 12) (tt := 30) rfl (fun zc2 => ?_) (fun zc2 => ?_)
          · refine hy_return (i := 30) rfl rfl ?_
            exact ⟨rfl, rfl⟩
          · simp_all
  refine hy_aload (i := 0) rfl rfl ?_
  refine hy_iload (i := 1) rfl rfl ?_
  refine hy_cV1v (i := 2) rfl mj_L_readFactor (by omega) rfl (Nat.le_of_ble_eq_true rfl) rfl rfl rfl (hc _ h) ?_
  refine hy_const (i := 3) rfl (by decide) ?_
  refine hy_istore (i := 4) rfl ?_
  exact loop 240 0 _ _ rfl (hg _ h).1 rfl
theorem c_L_readSum {F : hy_T → hy_T} {d0 d : Nat} {o : Int} (hd : d0 < d) (hd2 : 2 < d) (hg : rx_good F) (hc : ∀ t1 : hy_T, lp_ok t1 → hy_Ct sc hm_L_readProduct d0 [.inr (some 19), .inl o] t1 (hy_e none (F t1))) (h : lp_ok t) : hy_Ct sc hm_L_readSum d [.inr (some 19), .inl o] t (hy_e none (rx_sum F t)) := by
  refine hy_mk_ct ok_L_readSum ck_L_readSum (Nat.le_of_ble_eq_true rfl) ?_
  have loop : ∀ (n : Nat), ∀ (k : Nat) (t1 : hy_T) (v3 : hy_V), n + k = 240 → lp_ok t1 → rx_loop rx_pm F n t1 = rx_sum F t → hy_W sc hm_L_readSum d 5 [.inr (some 19), .inl o, .inl (k : Int), v3] [] t1 (hy_e none (rx_sum F t)) := by
    intro n
    induction n with
    | zero =>
      intro k t1 v3 hn h1 he
      obtain rfl : k = 240 := by omega
      rw [← he]
      refine hy_iload (i := 5) rfl rfl ?_
      refine hy_const (i := 6) rfl (by decide) ?_
      refine hy_ic_ge (i := 7) (tt := 35) rfl (fun zc1 => ?_) (fun zc1 => ?_)
      · refine hy_return (i := 35) rfl rfl ?_
        exact ⟨rfl, rfl⟩
      · omega
    | succ n ih =>
      intro k t1 v3 hn h1 he
      by_cases hp : tp_next t1 = 43 ∨ tp_next t1 = 45
      · have hq : rx_pm (tp_next t1) = true := decide_eq_true hp
        have e : rx_loop rx_pm F (n + 1) t1 = rx_loop rx_pm F n (lp_emit (F (tp_step t1)) (tp_next t1) 0) := by simp only [rx_loop]; rw [if_pos hq]
        rw [e] at he
        have h2 : lp_ok (tp_step t1) := rx_step_ok h1 (rx_pm_p hq)
        have h3 := (hg _ h2).1
        have h4 := (lp_emit_s h3 (tp_next t1) 0).1
        refine hy_iload (i := 5) rfl rfl ?_
        refine hy_const (i := 6) rfl (by decide) ?_
        refine hy_ic_ge (i := 7) (tt := 35) rfl (fun zc1 => ?_) (fun zc1 => ?_)
        · omega
        · refine hy_aload (i := 8) rfl rfl ?_
          refine hy_getr (i := 9) rfl rfl ?_
          refine hy_cV0e (i := 10) rfl mj_T_next (by omega) rfl (Nat.le_of_ble_eq_true rfl) rfl rfl rfl (c_T_next (tp_ok.e (And.left (show lp_ok _ by assumption)))) ?_
          refine hy_const (i := 11) rfl (by decide) ?_
          refine hy_ic_eq (i := 12) (tt := 18) rfl (fun zc2 => ?_) (fun zc2 => ?_)
          · refine hy_aload (i := 18) rfl rfl ?_
            refine hy_getr (i := 19) rfl rfl ?_
            refine hy_cV0e (i := 20) rfl mj_T_next (by omega) rfl (Nat.le_of_ble_eq_true rfl) rfl rfl rfl (c_T_next (tp_ok.e (And.left (show lp_ok _ by assumption)))) ?_
            refine hy_istore (i := 21) rfl ?_
            refine hy_aload (i := 22) rfl rfl ?_
            refine hy_getr (i := 23) rfl rfl ?_
            refine hy_cV0v (i := 24) rfl mj_T_step (by omega) rfl (Nat.le_of_ble_eq_true rfl) rfl rfl rfl (c_T_step (by have := tp_ok.p (And.left (show lp_ok _ by assumption)); omega)) ?_
            refine hy_aload (i := 25) rfl rfl ?_
            refine hy_iload (i := 26) rfl rfl ?_
            refine hy_cV1v (i := 27) rfl mj_L_readProduct (by omega) rfl (Nat.le_of_ble_eq_true rfl) rfl rfl rfl (hc _ h2) ?_
            refine hy_aload (i := 28) rfl rfl ?_
            refine hy_iload (i := 29) rfl rfl ?_
            refine hy_const (i := 30) rfl (by decide) ?_
            refine hy_cV2e (i := 31) rfl mj_L_emit (by omega) rfl (Nat.le_of_ble_eq_true rfl) rfl rfl rfl (c_L_emit h3.2.1) ?_
            refine hy_pop (i := 32) rfl ?_
            refine hy_iinc (i := 33) rfl rfl (by omega) ?_
            refine hy_goto (i := 34) (tt := 5) rfl ?_
            exact ih (k + 1) _ _ (by omega) h4 he
          · refine hy_aload (i := 13) rfl rfl ?_
            refine hy_getr (i := 14) rfl rfl ?_
            refine hy_cV0e (i := 15) rfl mj_T_next (by omega) rfl (Nat.le_of_ble_eq_true rfl) rfl rfl rfl (c_T_next (tp_ok.e (And.left (show lp_ok _ by assumption)))) ?_
            refine hy_const (i := 16) rfl (by decide) ?_
            refine hy_ic_ne (i := 17) (tt := 35) rfl (fun zc3 => ?_) (fun zc3 => ?_)
            · omega
            · refine hy_aload (i := 18) rfl rfl ?_
              refine hy_getr (i := 19) rfl rfl ?_
              refine hy_cV0e (i := 20) rfl mj_T_next (by omega) rfl (Nat.le_of_ble_eq_true rfl) rfl rfl rfl (c_T_next (tp_ok.e (And.left (show lp_ok _ by assumption)))) ?_
              refine hy_istore (i := 21) rfl ?_
              refine hy_aload (i := 22) rfl rfl ?_
              refine hy_getr (i := 23) rfl rfl ?_
              refine hy_cV0v (i := 24) rfl mj_T_step (by omega) rfl (Nat.le_of_ble_eq_true rfl) rfl rfl rfl (c_T_step (by have := tp_ok.p (And.left (show lp_ok _ by assumption)); omega)) ?_
              refine hy_aload (i := 25) rfl rfl ?_
              refine hy_iload (i := 26) rfl rfl ?_
              refine hy_cV1v (i := 27) rfl mj_L_readProduct (by omega) rfl (Nat.le_of_ble_eq_true rfl) rfl rfl rfl (hc _ h2) ?_
              refine hy_aload (i := 28) rfl rfl ?_
              refine hy_iload (i := 29) rfl rfl ?_
              refine hy_const (i := 30) rfl (by decide) ?_
              refine hy_cV2e (i := 31) rfl mj_L_emit (by omega) rfl (Nat.le_of_ble_eq_true rfl) rfl rfl rfl (c_L_emit h3.2.1) ?_
              refine hy_pop (i := 32) rfl ?_
              refine hy_iinc (i := 33) rfl rfl (by omega) ?_
              refine hy_goto (i := 34) (tt := 5) rfl ?_
              exact ih (k + 1) _ _ (by omega) h4 he
      · have hq : ¬ rx_pm (tp_next t1) = true := fun q => hp (of_decide_eq_true q)
        have e : rx_loop rx_pm F (n + 1) t1 = t1 := by simp only [rx_loop]; rw [if_neg hq]
        rw [e] at he
        rw [← he]
        refine hy_iload (i := 5) rfl rfl ?_
        refine hy_const (i := 6) rfl (by decide) ?_
        refine hy_ic_ge (i := 7) (tt := 35) rfl (fun zc1 => ?_) (fun zc1 => ?_)
        · omega
        · refine hy_aload (i := 8) rfl rfl ?_
          refine hy_getr (i := 9) rfl rfl ?_
          refine hy_cV0e (i := 10) rfl mj_T_next (by omega) rfl (Nat.le_of_ble_eq_true rfl) rfl rfl rfl (c_T_next (tp_ok.e (And.left (show lp_ok _ by assumption)))) ?_
          refine hy_const (i := 11) rfl (by decide) ?_
          refine hy_ic_eq (i := 12) (tt := 18) rfl (fun zc2 => ?_) (fun zc2 => ?_)
          · omega
          · refine hy_aload (i := 13) rfl rfl ?_
            refine hy_getr (i := 14) rfl rfl ?_
            refine hy_cV0e (i := 15) rfl mj_T_next (by omega) rfl (Nat.le_of_ble_eq_true rfl) rfl rfl rfl (c_T_next (tp_ok.e (And.left (show lp_ok _ by assumption)))) ?_
            refine hy_const (i := 16) rfl (by decide) ?_
            refine hy_ic_ne (i := 17) (tt := 35) rfl (fun zc3 => ?_) (fun zc3 => ?_)
            · refine hy_return (i := 35) rfl rfl ?_
              exact ⟨rfl, rfl⟩
            · omega
  refine hy_aload (i := 0) rfl rfl ?_
  refine hy_iload (i := 1) rfl rfl ?_
  refine hy_cV1v (i := 2) rfl mj_L_readProduct (by omega) rfl (Nat.le_of_ble_eq_true rfl) rfl rfl rfl (hc _ h) ?_
  refine hy_const (i := 3) rfl (by decide) ?_
  refine hy_istore (i := 4) rfl ?_
  exact loop 240 0 _ _ rfl (hg _ h).1 rfl
end RX
