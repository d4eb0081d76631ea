/-! seas of a land all ash: the model's and the class's -/
theorem mf_jn_no {t : hy_T} {a b : Int} (h : b = -1 ∨ t 102 a.toNat = t 102 b.toNat) : mf_joins t a b = (false, t) := by
  unfold mf_joins
  rw [if_pos (by rcases h with h | h; exact .inl h; exact .inr (.inr (.inr h)))]
theorem mf_jn_yes {t : hy_T} {a b : Nat} (ha : t 102 a = 0) (hb : 0 < t 102 b) : mf_joins t (a : Int) (b : Int) = (true, hy_up (hy_up t 102 a 0) 102 b 0) := by
  unfold mf_joins
  rw [show (a : Int).toNat = a from rfl, show (b : Int).toNat = b from rfl, if_neg (by omega), ha, if_pos hb]
abbrev ZP (n g : Nat) : Prop := (g < 8 ∧ g ≤ n) ∨ (8 ≤ g ∧ g ≤ n + 7)
theorem mf_pass1 {t : hy_T} (h : ∀ g : Nat, g < 64 → t 102 g = g) : ∀ n : Nat, n ≤ 64 → (∀ g : Nat, g < 64 → (mf_seaP t n).2 102 g = if ZP n g then 0 else (g : Int)) ∧ (mf_seaP t n).1 = decide (0 < n)
  | 0, _ => ⟨fun g hg => by
      show t 102 g = _
      rw [h g hg]
      split <;> omega, rfl⟩
  | n + 1, hn => by
    obtain ⟨i1, i2⟩ := mf_pass1 h n (by omega)
    have hn0 : (mf_seaP t n).2 102 n = 0 := by rw [i1 n (by omega), if_pos (by omega)]
    -- to the right
    have r1 : ∃ T : hy_T, mf_joins (mf_seaP t n).2 n (pa_beside n 0) = (decide (n < 7), T) ∧ ∀ g : Nat, g < 64 → T 102 g = if ZP n g ∨ (n < 7 ∧ g = n + 1) then 0 else (g : Int) := by
      by_cases h7 : n < 7
      · have hb : pa_beside (n : Int) 0 = ((n + 1 : Nat) : Int) := by unfold pa_beside; rw [if_pos rfl, if_pos (by omega)]; omega
        have hv : (mf_seaP t n).2 102 (n + 1) = ((n + 1 : Nat) : Int) := by rw [i1 (n + 1) (by omega), if_neg (by omega)]
        rw [hb, mf_jn_yes hn0 (by rw [hv]; omega)]
        refine ⟨_, by rw [decide_eq_true h7], fun g hg => ?_⟩
        simp only [hy_up]
        by_cases g1 : g = n + 1
        · rw [if_pos ⟨trivial, g1⟩, if_pos (.inr ⟨h7, g1⟩)]
        · rw [if_neg (fun q => g1 q.2)]
          by_cases g2 : g = n
          · rw [if_pos ⟨trivial, g2⟩, if_pos (by omega)]
          · rw [if_neg (fun q => g2 q.2), i1 g hg]
            by_cases g3 : ZP n g
            · rw [if_pos g3, if_pos (.inl g3)]
            · rw [if_neg g3, if_neg (by omega)]
      · have hno : mf_joins (mf_seaP t n).2 n (pa_beside n 0) = (false, (mf_seaP t n).2) := by
          refine mf_jn_no ?_
          unfold pa_beside
          rw [if_pos rfl]
          by_cases h8 : (n : Int) % 8 < 7
          · rw [if_pos h8]
            refine .inr ?_
            rw [show (n : Int).toNat = n from rfl, hn0, show ((n : Int) + 1).toNat = n + 1 by omega, i1 (n + 1) (by omega), if_pos (by omega)]
          · rw [if_neg h8]; exact .inl rfl
        rw [hno]
        refine ⟨_, by rw [decide_eq_false h7], fun g hg => ?_⟩
        rw [i1 g hg]
        by_cases g3 : ZP n g
        · rw [if_pos g3, if_pos (.inl g3)]
        · rw [if_neg g3, if_neg (by omega)]
    obtain ⟨T, e1, hT⟩ := r1
    have hTn : T 102 n = 0 := by rw [hT n (by omega), if_pos (by omega)]
    have r2 : ∃ (b : Bool) (U : hy_T), mf_joins T n (pa_beside n 2) = (b, U) ∧ ∀ g : Nat, g < 64 → U 102 g = if ZP (n + 1) g then 0 else (g : Int) := by
      have hbe : pa_beside (n : Int) 2 = if (n : Int) + 8 < 64 then (n : Int) + 8 else -1 := by unfold pa_beside; rw [if_neg (by decide), if_neg (by decide), if_pos rfl]
      rw [hbe]
      by_cases h8 : (n : Int) + 8 < 64
      · rw [if_pos h8, show (n : Int) + 8 = ((n + 8 : Nat) : Int) by omega]
        have hv : T 102 (n + 8) = ((n + 8 : Nat) : Int) := by rw [hT (n + 8) (by omega), if_neg (by omega)]
        rw [mf_jn_yes hTn (by rw [hv]; omega)]
        refine ⟨_, _, rfl, fun g hg => ?_⟩
        simp only [hy_up]
        by_cases g1 : g = n + 8
        · rw [if_pos ⟨trivial, g1⟩, if_pos (by omega)]
        · rw [if_neg (fun q => g1 q.2)]
          by_cases g2 : g = n
          · rw [if_pos ⟨trivial, g2⟩, if_pos (by omega)]
          · rw [if_neg (fun q => g2 q.2), hT g hg]
            by_cases g3 : ZP (n + 1) g
            · rw [if_pos (by omega), if_pos g3]
            · rw [if_neg (by omega), if_neg g3]
      · rw [if_neg h8, mf_jn_no (.inl rfl)]
        refine ⟨_, _, rfl, fun g hg => ?_⟩
        rw [hT g hg]
        by_cases g3 : ZP (n + 1) g
        · rw [if_pos (by omega), if_pos g3]
        · rw [if_neg (by omega), if_neg g3]
    obtain ⟨b, U, e2, hU⟩ := r2
    have f2 : (mf_seaP t (n + 1)).2 = (mf_joins (mf_joins (mf_seaP t n).2 n (pa_beside n 0)).2 n (pa_beside n 2)).2 := rfl
    have f1 : (mf_seaP t (n + 1)).1 = ((mf_joins (mf_joins (mf_seaP t n).2 n (pa_beside n 0)).2 n (pa_beside n 2)).1 || ((mf_joins (mf_seaP t n).2 n (pa_beside n 0)).1 || (mf_seaP t n).1)) := rfl
    rw [e1] at f1 f2
    dsimp only at f1 f2
    rw [e2] at f1 f2
    refine ⟨fun g hg => by rw [f2]; exact hU g hg, ?_⟩
    rw [f1, i2, decide_eq_true (show 0 < n + 1 by omega)]
    by_cases hz : n = 0
    · rw [decide_eq_true (show n < 7 by omega)]; simp
    · rw [decide_eq_true (show 0 < n by omega)]; simp
theorem mf_pass2 {t : hy_T} (h : ∀ g : Nat, g < 64 → t 102 g = 0) : ∀ n : Nat, n ≤ 64 → mf_seaP t n = (false, t)
  | 0, _ => rfl
  | n + 1, hn => by
    have i := mf_pass2 h n (by omega)
    have f : mf_seaP t (n + 1) = ((mf_joins (mf_joins (mf_seaP t n).2 n (pa_beside n 0)).2 n (pa_beside n 2)).1 || ((mf_joins (mf_seaP t n).2 n (pa_beside n 0)).1 || (mf_seaP t n).1), (mf_joins (mf_joins (mf_seaP t n).2 n (pa_beside n 0)).2 n (pa_beside n 2)).2) := rfl
    have no : ∀ s : Int, mf_joins t n (pa_beside n s) = (false, t) := fun s => by
      have hb := pa_beside_in (f := (n : Int)) (by omega) s
      by_cases hm : pa_beside (n : Int) s = -1
      · exact mf_jn_no (.inl hm)
      · exact mf_jn_no (.inr (by rw [show (n : Int).toNat = n from rfl, h n (by omega), h _ (by omega)]))
    rw [f, i]
    dsimp only
    rw [no 0]
    dsimp only
    rw [no 2]
    rfl
theorem mf_sea0N_v {t : hy_T} (h : ∀ f : Nat, f < 64 → t 79 (t 63 f).toNat = 12) : ∀ (n : Nat), n ≤ 64 → ∀ g : Nat, g < n → mf_sea0N t n 102 g = g
  | 0, _, g, hg => by omega
  | n + 1, hn, g, hg => by
    simp only [mf_sea0N]
    rw [if_pos (h n (by omega))]
    by_cases e : g = n
    · subst e; simp [hy_up]
    · rw [show ∀ v, hy_up (mf_sea0N t n) 102 n v 102 g = mf_sea0N t n 102 g from fun v => by simp [hy_up, e]]
      exact mf_sea0N_v h n (by omega) g (by omega)
section MF
variable {sc : List Int32} {t : hy_T}
theorem c_M_ash0 {e q w : Int} (h0 : t 59 0 = 0) (h63 : ∀ f : Nat, f < 64 → t 63 f = 12) : hy_Ct sc hm_M_ash 7 [.inr (some 59), .inl e, .inl q, .inl w] t (hy_r (if ((0 ≤ e ∧ e < 6) ∧ 0 ≤ q ∧ q < 4) ∧ 0 ≤ w ∧ w < 3 then (if w = 2 then 1 else 64) else -1)) := by
  refine hy_mk_ct ok_M_ash ck_M_ash (Nat.le_of_ble_eq_true rfl) ?_
  by_cases hq : ((0 ≤ e ∧ e < 6) ∧ 0 ≤ q ∧ q < 4) ∧ 0 ≤ w ∧ w < 3
  · rw [if_pos hq]
    have loop : ∀ (t1 : hy_T), (∀ g : Nat, g < 64 → t1 102 g = 0) → ∀ (m : Nat), ∀ (k : Nat) (s ms : Int) (v8 v9 : hy_V), m + k = 64 → (s = 0 ∧ ms = 0 ∧ k = 0 ∨ s = 1 ∧ ms = 64 ∧ 0 < k) → hy_W sc hm_M_ash 7 27 [.inr (some 59), .inl e, .inl q, .inl w, .inl (k : Int), .inl s, .inl ms, .inl (k : Int), v8, v9] [] t1 (hy_r (if w = 2 then 1 else 64)) := by
      intro t1 h1 m
      induction m with
      | zero =>
        intro k s ms v8 v9 hm hs
        obtain rfl : k = 64 := by omega
        obtain ⟨rfl, rfl⟩ : s = 1 ∧ ms = 64 := by omega
        refine hy_iload (i := 27) rfl rfl ?_
        refine hy_const (i := 28) rfl (by decide) ?_
        refine hy_ic_ge (i := 29) (tt := 80) rfl (fun zc1 => ?_) (fun zc1 => ?_)
        · refine hy_iload (i := 80) rfl rfl ?_
          refine hy_if_ne (i := 81) (tt := 84) rfl (fun zc2 => ?_) (fun zc2 => ?_)
          · refine hy_iload (i := 84) rfl rfl ?_
            refine hy_const (i := 85) rfl (by decide) ?_
            refine hy_ic_ne (i := 86) (tt := 89) rfl (fun zc3 => ?_) (fun zc3 => ?_)
            · refine hy_iload (i := 89) rfl rfl ?_
              refine hy_ireturn (i := 90) rfl rfl ?_
              exact congrArg some (by first | (rw [if_pos (by omega)]; done) | (rw [if_neg (by omega)]; done) | (rw [if_neg (by omega)]; rfl))
            · refine hy_iload (i := 87) rfl rfl ?_
              refine hy_goto (i := 88) (tt := 90) rfl ?_
              refine hy_ireturn (i := 90) rfl rfl ?_
              exact congrArg some (by first | (rw [if_pos (by omega)]; done) | (rw [if_neg (by omega)]; done) | (rw [if_neg (by omega)]; rfl))
          · refine hy_iload (i := 82) rfl rfl ?_
            refine hy_goto (i := 83) (tt := 90) rfl ?_
            refine hy_ireturn (i := 90) rfl rfl ?_
            exact congrArg some (by first | (rw [if_pos (by omega)]; done) | (rw [if_neg (by omega)]; done) | (rw [if_neg (by omega)]; rfl))
        · omega
      | succ m ih =>
        intro k s ms v8 v9 hm hs
        have hk := h1 k (by omega)
        by_cases hz : k = 0
        · obtain ⟨rfl, rfl⟩ : s = 0 ∧ ms = 0 := by omega
          subst hz
          have inner : ∀ (m2 : Nat), ∀ (c : Nat), m2 + c = 64 → hy_W sc hm_M_ash 7 53 [.inr (some 59), .inl e, .inl q, .inl w, .inl 1, .inl 0, .inl 0, .inl 0, .inl (c : Int), .inl (c : Int)] [] t1 (hy_r (if w = 2 then 1 else 64)) := by
            intro m2
            induction m2 with
            | zero =>
              intro c hm2
              obtain rfl : c = 64 := by omega
              refine hy_iload (i := 53) rfl rfl ?_
              refine hy_const (i := 54) rfl (by decide) ?_
              refine hy_ic_ge (i := 55) (tt := 70) rfl (fun zc1 => ?_) (fun zc1 => ?_)
              · refine hy_iload (i := 70) rfl rfl ?_
                refine hy_const (i := 71) rfl (by decide) ?_
                refine hy_iadd (i := 72) rfl (by omega) ?_
                refine hy_istore (i := 73) rfl ?_
                refine hy_iload (i := 74) rfl rfl ?_
                refine hy_iload (i := 75) rfl rfl ?_
                refine hy_cS2e (i := 76) rfl (by decide) mj_M_max (by decide) rfl (Nat.le_of_ble_eq_true rfl) (c_M_max) ?_
                refine hy_istore (i := 77) rfl ?_
                refine hy_iinc (i := 78) rfl rfl (by omega) ?_
                refine hy_goto (i := 79) (tt := 27) rfl ?_
                exact ih 1 _ _ _ _ (by omega) (.inr ⟨rfl, rfl, by decide⟩)
              · omega
            | succ m2 ih2 =>
              intro c hm2
              have hc := h1 c (by omega)
              refine hy_iload (i := 53) rfl rfl ?_
              refine hy_const (i := 54) rfl (by decide) ?_
              refine hy_ic_ge (i := 55) (tt := 70) rfl (fun zc1 => ?_) (fun zc1 => ?_)
              · omega
              · refine hy_iload (i := 56) rfl rfl ?_
                refine hy_aload (i := 57) rfl rfl ?_
                refine hy_getr (i := 58) rfl rfl ?_
                refine hy_iload (i := 59) rfl rfl ?_
                refine hy_iald (i := 60) rfl rfl (by omega) (k := c) (by omega) ?_
                refine hy_iload (i := 61) rfl rfl ?_
                refine hy_ic_ne (i := 62) (tt := 65) rfl (fun zc2 => ?_) (fun zc2 => ?_)
                · omega
                · refine hy_const (i := 63) rfl (by decide) ?_
                  refine hy_goto (i := 64) (tt := 66) rfl ?_
                  refine hy_iadd (i := 66) rfl (by omega) ?_
                  refine hy_istore (i := 67) rfl ?_
                  refine hy_iinc (i := 68) rfl rfl (by omega) ?_
                  refine hy_goto (i := 69) (tt := 53) rfl ?_
                  exact ih2 (c + 1) (by omega)
          refine hy_iload (i := 27) rfl rfl ?_
          refine hy_const (i := 28) rfl (by decide) ?_
          refine hy_ic_ge (i := 29) (tt := 80) rfl (fun zc1 => ?_) (fun zc1 => ?_)
          · omega
          · refine hy_iload (i := 30) rfl rfl ?_
            refine hy_aload (i := 31) rfl rfl ?_
            refine hy_getr (i := 32) rfl rfl ?_
            refine hy_iload (i := 33) rfl rfl ?_
            refine hy_iald (i := 34) rfl rfl (by omega) (k := 0) rfl ?_
            refine hy_const (i := 35) rfl (by decide) ?_
            refine hy_ic_ne (i := 36) (tt := 39) rfl (fun zc2 => ?_) (fun zc2 => ?_)
            · refine hy_const (i := 39) rfl (by decide) ?_
              refine hy_iadd (i := 40) rfl (by omega) ?_
              refine hy_istore (i := 41) rfl ?_
              refine hy_aload (i := 42) rfl rfl ?_
              refine hy_getr (i := 43) rfl rfl ?_
              refine hy_iload (i := 44) rfl rfl ?_
              refine hy_iald (i := 45) rfl rfl (by omega) (k := 0) rfl ?_
              refine hy_iload (i := 46) rfl rfl ?_
              refine hy_ic_eq (i := 47) (tt := 49) rfl (fun zc3 => ?_) (fun zc3 => ?_)
              · refine hy_const (i := 49) rfl (by decide) ?_
                refine hy_istore (i := 50) rfl ?_
                refine hy_const (i := 51) rfl (by decide) ?_
                refine hy_istore (i := 52) rfl ?_
                exact inner 64 0 rfl
              · omega
            · omega
        · skip
          refine hy_iload (i := 27) rfl rfl ?_
          refine hy_const (i := 28) rfl (by decide) ?_
          refine hy_ic_ge (i := 29) (tt := 80) rfl (fun zc1 => ?_) (fun zc1 => ?_)
          · omega
          · refine hy_iload (i := 30) rfl rfl ?_
            refine hy_aload (i := 31) rfl rfl ?_
            refine hy_getr (i := 32) rfl rfl ?_
            refine hy_iload (i := 33) rfl rfl ?_
            refine hy_iald (i := 34) rfl rfl (by omega) (k := k) (by omega) ?_
            refine hy_const (i := 35) rfl (by decide) ?_
            refine hy_ic_ne (i := 36) (tt := 39) rfl (fun zc2 => ?_) (fun zc2 => ?_)
            · refine hy_const (i := 39) rfl (by decide) ?_
              refine hy_iadd (i := 40) rfl (by omega) ?_
              refine hy_istore (i := 41) rfl ?_
              refine hy_aload (i := 42) rfl rfl ?_
              refine hy_getr (i := 43) rfl rfl ?_
              refine hy_iload (i := 44) rfl rfl ?_
              refine hy_iald (i := 45) rfl rfl (by omega) (k := k) (by omega) ?_
              refine hy_iload (i := 46) rfl rfl ?_
              refine hy_ic_eq (i := 47) (tt := 49) rfl (fun zc3 => ?_) (fun zc3 => ?_)
              · omega
              · refine hy_goto (i := 48) (tt := 78) rfl ?_
                refine hy_iinc (i := 78) rfl rfl (by omega) ?_
                refine hy_goto (i := 79) (tt := 27) rfl ?_
                exact ih (k + 1) _ _ _ _ (by omega) (by omega)
            · omega
    have t1as : ∀ f : Nat, f < 64 → mf_as0N t 12 63 f = 12 := fun f hf => by rw [mf_as0N_F t 12 63 f rfl]; exact h63 f hf
    have z1 : ∀ f : Nat, f < 64 → mf_as0N t 12 79 (mf_as0N t 12 63 f).toNat = 12 := fun f hf => by rw [t1as f hf]; exact mf_as0N_v t 12 12 (by decide) (.inr rfl)
    have p0 := mf_sea0N_v z1 64 (by decide)
    obtain ⟨p1, p1b⟩ := mf_pass1 p0 64 (by decide)
    have p1z : ∀ g : Nat, g < 64 → (mf_seaP (mf_sea0N (mf_as0N t 12) 64) 64).2 102 g = 0 := fun g hg => by rw [p1 g hg, if_pos (by omega)]
    have p2 := mf_pass2 p1z 64 (by decide)
    have seas : hy_Ct sc hm_M_laysSeas 2 [.inr (some 59)] (mf_as0N t 12) (hy_e none (mf_seaP (mf_sea0N (mf_as0N t 12) 64) 64).2) := by
      refine c_M_laysSeasOf (fun f hf => by rw [t1as f hf]; decide) ?_
      refine c_M_seaPass ?_
      rw [p1b]
      refine c_M_seaPass ?_
      rw [p2]
      dsimp only
      generalize (mf_seaP (mf_sea0N (mf_as0N t 12) 64) 64).2 = T
      refine hy_iload (i := 25) rfl rfl ?_
      refine hy_if_eq (i := 26) (tt := 65) rfl (fun zc1 => ?_) (fun zc1 => ?_)
      · refine hy_return (i := 65) rfl rfl ?_
        exact ⟨rfl, rfl⟩
      · exact absurd rfl zc1
    refine hy_iload (i := 0) rfl rfl ?_
    refine hy_cS1e (i := 1) rfl (by decide) mj_M_isEmpire (by decide) rfl (Nat.le_of_ble_eq_true rfl) (c_M_isEmpire) ?_
    refine hy_ib_eq (i := 2) (tt := 11) rfl (fun zc1 => ?_) (fun zc1 => ?_)
    · simp at zc1; omega
    · refine hy_iload (i := 3) rfl rfl ?_
      refine hy_cS1e (i := 4) rfl (by decide) mj_M_isQuarter (by decide) rfl (Nat.le_of_ble_eq_true rfl) (c_M_isQuarter) ?_
      refine hy_ib_eq (i := 5) (tt := 11) rfl (fun zc2 => ?_) (fun zc2 => ?_)
      · simp at zc2; omega
      · refine hy_iload (i := 6) rfl rfl ?_
        refine hy_const (i := 7) rfl (by decide) ?_
        refine hy_const (i := 8) rfl (by decide) ?_
        refine hy_cS3e (i := 9) rfl (by decide) mj_M_in (by decide) rfl (Nat.le_of_ble_eq_true rfl) (c_M_in) ?_
        refine hy_ib_ne (i := 10) (tt := 13) rfl (fun zc3 => ?_) (fun zc3 => ?_)
        · refine hy_aload (i := 13) rfl rfl ?_
          refine hy_iload (i := 14) rfl rfl ?_
          refine hy_iload (i := 15) rfl rfl ?_
          refine hy_cV2v (i := 16) rfl mj_M_laysAs (by decide) rfl (Nat.le_of_ble_eq_true rfl) rfl rfl rfl (c_M_laysAs0 h0) ?_
          refine hy_aload (i := 17) rfl rfl ?_
          refine hy_cV0v (i := 18) rfl mj_M_laysSeas (by decide) rfl (Nat.le_of_ble_eq_true rfl) rfl rfl rfl (seas) ?_
          refine hy_const (i := 19) rfl (by decide) ?_
          refine hy_istore (i := 20) rfl ?_
          refine hy_const (i := 21) rfl (by decide) ?_
          refine hy_istore (i := 22) rfl ?_
          refine hy_const (i := 23) rfl (by decide) ?_
          refine hy_istore (i := 24) rfl ?_
          refine hy_const (i := 25) rfl (by decide) ?_
          refine hy_istore (i := 26) rfl ?_
          exact loop _ p1z 64 0 _ _ _ _ rfl (.inl ⟨rfl, rfl, rfl⟩)
        · simp at zc3; omega
  · rw [if_neg hq]
    refine hy_iload (i := 0) rfl rfl ?_
    refine hy_cS1e (i := 1) rfl (by decide) mj_M_isEmpire (by decide) rfl (Nat.le_of_ble_eq_true rfl) (c_M_isEmpire) ?_
    refine hy_ib_eq (i := 2) (tt := 11) rfl (fun zc1 => ?_) (fun zc1 => ?_)
    · refine hy_const (i := 11) rfl (by decide) ?_
      refine hy_ireturn (i := 12) rfl rfl ?_
      exact rfl
    · refine hy_iload (i := 3) rfl rfl ?_
      refine hy_cS1e (i := 4) rfl (by decide) mj_M_isQuarter (by decide) rfl (Nat.le_of_ble_eq_true rfl) (c_M_isQuarter) ?_
      refine hy_ib_eq (i := 5) (tt := 11) rfl (fun zc2 => ?_) (fun zc2 => ?_)
      · refine hy_const (i := 11) rfl (by decide) ?_
        refine hy_ireturn (i := 12) rfl rfl ?_
        exact rfl
      · refine hy_iload (i := 6) rfl rfl ?_
        refine hy_const (i := 7) rfl (by decide) ?_
        refine hy_const (i := 8) rfl (by decide) ?_
        refine hy_cS3e (i := 9) rfl (by decide) mj_M_in (by decide) rfl (Nat.le_of_ble_eq_true rfl) (c_M_in) ?_
        refine hy_ib_ne (i := 10) (tt := 13) rfl (fun zc3 => ?_) (fun zc3 => ?_)
        · exfalso; simp only [decide_eq_true_eq] at zc1 zc2 zc3; exact hq ⟨⟨zc1, zc2⟩, by omega, by omega⟩
        · refine hy_const (i := 11) rfl (by decide) ?_
          refine hy_ireturn (i := 12) rfl rfl ?_
          exact rfl
end MF
