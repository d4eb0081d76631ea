/-! the class's eyes -/
abbrev eX : Nat → Nat → Bool := fun r _ => r == 17 || r == 18
theorem eX_law {t t1 : hy_T} (h : hy_F eX t t1) : lc_same t t1 := lc_same_of h (fun r j q => by revert q; simp [lawX, eX]; omega)
theorem rX_eX {t t1 t2 : hy_T} (h : hy_F eX t t1) (h2 : hy_F rX t1 t2) : hy_F eX t t2 := h.tr' (h2.w (fun r j q => by revert q; simp [eX, rX]))
theorem rc_tell_F {t t1 : hy_T} (h : hy_F eX t t1) (e c q dd m g : Int) : hy_F eX t (rc_tell t1 e c q dd m g) := by
  unfold rc_tell
  exact (((((((((h.up rfl).up rfl).up rfl).up rfl).up rfl).up rfl).up rfl).up rfl).up rfl).up rfl
theorem tell_hold {t t1 : hy_T} (h : hy_F eX t t1) (e c q dd m g a b k : Int) : lc_hold (hy_up (hy_up (rc_tell t1 e c q dd m g) 17 5 a) 17 6 b) ((hy_up (hy_up (rc_tell t1 e c q dd m g) 17 5 a) 17 6 b) 17) k = lc_hold t (LV e c q dd m a b 0 g 0) k := by
  rw [lc_same_hold (eX_law (((rc_tell_F h e c q dd m g).up rfl).up rfl))]
  refine lc_hold_V (fun j hj => ?_) k
  rcases (show j = 0 ∨ j = 1 ∨ j = 2 ∨ j = 3 ∨ j = 4 ∨ j = 5 ∨ j = 6 ∨ j = 7 ∨ j = 8 ∨ j = 9 by omega) with rfl | rfl | rfl | rfl | rfl | rfl | rfl | rfl | rfl | rfl <;> rfl
theorem tell_amt {t t1 : hy_T} (h : hy_F eX t t1) (e c q dd m g n k w : Int) : lc_amt (hy_up (rc_tell t1 e c q dd m g) 17 7 n) ((hy_up (rc_tell t1 e c q dd m g) 17 7 n) 17) k w = lc_amt t (LV e c q dd m 0 0 n g 0) k w := by
  rw [lc_same_amt (eX_law ((rc_tell_F h e c q dd m g).up rfl))]
  refine lc_amt_V (fun j hj => ?_) k w
  rcases (show j = 0 ∨ j = 1 ∨ j = 2 ∨ j = 3 ∨ j = 4 ∨ j = 5 ∨ j = 6 ∨ j = 7 ∨ j = 8 ∨ j = 9 by omega) with rfl | rfl | rfl | rfl | rfl | rfl | rfl | rfl | rfl | rfl <;> rfl
theorem tell_amto {t t1 : hy_T} (h : hy_F eX t t1) (e c q dd m g n k w : Int) : lc_amt (hy_up (rc_tell t1 e c q dd m g) 17 9 n) ((hy_up (rc_tell t1 e c q dd m g) 17 9 n) 17) k w = lc_amt t (LV e c q dd m 0 0 0 g n) k w := by
  rw [lc_same_amt (eX_law ((rc_tell_F h e c q dd m g).up rfl))]
  refine lc_amt_V (fun j hj => ?_) k w
  rcases (show j = 0 ∨ j = 1 ∨ j = 2 ∨ j = 3 ∨ j = 4 ∨ j = 5 ∨ j = 6 ∨ j = 7 ∨ j = 8 ∨ j = 9 by omega) with rfl | rfl | rfl | rfl | rfl | rfl | rfl | rfl | rfl | rfl <;> rfl
theorem hb_add (p q : Bool) : hy_R (hy_b p + hy_b q) := by cases p <;> cases q <;> decide
theorem hb_add2 {p q : Bool} : hy_b p + hy_b q = 2 ↔ (p && q) = true := by cases p <;> cases q <;> simp [hy_b]
theorem hb_add0 {p q : Bool} : hy_b p + hy_b q ≤ 0 ↔ (p || q) = false := by cases p <;> cases q <;> simp [hy_b]
/-- THE LAW's s: whether a mixed colour is seen, its parts being seen or not -/
def sp_lawS (t : hy_T) (e c q : Int) (a b : Bool) : Bool := if rc_has t 115 = true then lc_hold t (LV e c q (t 33 4) 1 (hy_b a) (hy_b b) 0 0 0) 115 else a && b
def sp_seenN (t : hy_T) (e q plain : Int) : Nat → Int
  | 0 => plain
  | n + 1 =>
    let s := sp_seenN t e q plain n
    if sp_told (t 5 3) n = true then hz_ior s (if sp_lawS t e n q (hz_b s (t 6 n)) (hz_b s (t 7 n)) = true then hz_ishl 1 n else 0) else s
def sp_seen (t : hy_T) (e q : Int) : Int := sp_seenN t e q (sp_hadN (t 34) e q 12) 12
def lk (f : Nat → Int) (c : Int) : Int := if 0 ≤ c ∧ c < 12 then f c.toNat else 12
def sp_asN (t : hy_T) (seen : Int) (f : Nat → Int) : Nat → (Nat → Int)
  | 0 => f
  | n + 1 =>
    let g := sp_asN t seen f n
    su g n (if hz_b seen n = true then (n : Int) else if sp_told (t 5 3) n = true then (if lk g (t 6 n) ≠ 12 then lk g (t 6 n) else lk g (t 7 n)) else 12)
def sp_alikeN (f : Nat → Int) (like : Int) : Nat → Int
  | 0 => 0
  | n + 1 => if f n = like then hz_ior (sp_alikeN f like n) (hz_ishl 1 n) else sp_alikeN f like n
def sp_child (t : hy_T) (a b c q : Int) : Bool :=
  let x := hz_b (sp_seen t a q) c
  let y := hz_b (sp_seen t b q) c
  if rc_has t 107 = true then lc_hold t (LV a c q (t 33 4) (hy_b (sp_told (t 5 3) c)) (hy_b x) (hy_b y) 0 (sp_bc (sp_hav (t 34) c q)) 0) 107 else x || y
theorem sp_lawS_F {t t1 : hy_T} (h : hy_F eX t t1) (e c q : Int) (a b : Bool) : sp_lawS t1 e c q a b = sp_lawS t e c q a b := by
  unfold sp_lawS
  rw [lc_same_has (eX_law h), lc_same_hold (eX_law h), h 33 4 rfl]
theorem sp_seenN_F {t t1 : hy_T} (h : hy_F eX t t1) (e q plain : Int) : ∀ n, sp_seenN t1 e q plain n = sp_seenN t e q plain n
  | 0 => rfl
  | n + 1 => by
    simp only [sp_seenN]
    rw [sp_seenN_F h e q plain n, h 5 3 rfl, show t1 6 n = t 6 n from h 6 n rfl, show t1 7 n = t 7 n from h 7 n rfl, sp_lawS_F h]
theorem sp_seen_F {t t1 : hy_T} (h : hy_F eX t t1) (e q : Int) : sp_seen t1 e q = sp_seen t e q := by
  unfold sp_seen
  rw [sp_seenN_F h, show t1 34 = t 34 from funext fun j => h 34 j rfl]
section SY33
variable {sc : List Int32} {t : hy_T}
theorem c_S_day_33 : hy_Ct sc hm_S_day 0 [.inr (some 33)] t (hy_e (some (t 33 4)) t) := by
  refine hy_mk_ct ok_S_day ck_S_day (Nat.le_of_ble_eq_true rfl) ?_
  refine hy_aload (i := 0) rfl rfl ?_
  refine hy_get (i := 1) (fk := 4) rfl rfl rfl ?_
  refine hy_ireturn (i := 2) rfl rfl ?_
  exact ⟨rfl, rfl⟩
theorem c_S_draw_33 : hy_Ct sc hm_S_draw 0 [.inr (some 33)] t (hy_e (some (t 33 5)) t) := by
  refine hy_mk_ct ok_S_draw ck_S_draw (Nat.le_of_ble_eq_true rfl) ?_
  refine hy_aload (i := 0) rfl rfl ?_
  refine hy_get (i := 1) (fk := 5) rfl rfl rfl ?_
  refine hy_ireturn (i := 2) rfl rfl ?_
  exact ⟨rfl, rfl⟩
theorem c_S_setDraw_33 {x : Int} : hy_Ct sc hm_S_setDraw 0 [.inr (some 33), .inl x] t (hy_e none (hy_up t 33 5 x)) := by
  refine hy_mk_ct ok_S_setDraw ck_S_setDraw (Nat.le_of_ble_eq_true rfl) ?_
  refine hy_aload (i := 0) rfl rfl ?_
  refine hy_iload (i := 1) rfl rfl ?_
  refine hy_put (i := 2) (fk := 5) rfl rfl rfl rfl ?_
  refine hy_return (i := 3) rfl rfl ?_
  exact ⟨rfl, rfl⟩
theorem c_S_treatyCount_33 : hy_Ct sc hm_S_treatyCount 0 [.inr (some 33)] t (hy_e (some (t 33 3)) t) := by
  refine hy_mk_ct ok_S_treatyCount ck_S_treatyCount (Nat.le_of_ble_eq_true rfl) ?_
  refine hy_aload (i := 0) rfl rfl ?_
  refine hy_get (i := 1) (fk := 3) rfl rfl rfl ?_
  refine hy_ireturn (i := 2) rfl rfl ?_
  exact ⟨rfl, rfl⟩
theorem c_S_firstBreakDay_33 : hy_Ct sc hm_S_firstBreakDay 0 [.inr (some 33)] t (hy_e (some (t 33 6)) t) := by
  refine hy_mk_ct ok_S_firstBreakDay ck_S_firstBreakDay (Nat.le_of_ble_eq_true rfl) ?_
  refine hy_aload (i := 0) rfl rfl ?_
  refine hy_get (i := 1) (fk := 6) rfl rfl rfl ?_
  refine hy_ireturn (i := 2) rfl rfl ?_
  exact ⟨rfl, rfl⟩
theorem c_S_firstBreaker_33 : hy_Ct sc hm_S_firstBreaker 0 [.inr (some 33)] t (hy_e (some (t 33 7)) t) := by
  refine hy_mk_ct ok_S_firstBreaker ck_S_firstBreaker (Nat.le_of_ble_eq_true rfl) ?_
  refine hy_aload (i := 0) rfl rfl ?_
  refine hy_get (i := 1) (fk := 7) rfl rfl rfl ?_
  refine hy_ireturn (i := 2) rfl rfl ?_
  exact ⟨rfl, rfl⟩
end SY33
section SY41
variable {sc : List Int32} {t : hy_T}
theorem c_S_day_41 : hy_Ct sc hm_S_day 0 [.inr (some 41)] t (hy_e (some (t 41 4)) t) := by
  refine hy_mk_ct ok_S_day ck_S_day (Nat.le_of_ble_eq_true rfl) ?_
  refine hy_aload (i := 0) rfl rfl ?_
  refine hy_get (i := 1) (fk := 4) rfl rfl rfl ?_
  refine hy_ireturn (i := 2) rfl rfl ?_
  exact ⟨rfl, rfl⟩
theorem c_S_draw_41 : hy_Ct sc hm_S_draw 0 [.inr (some 41)] t (hy_e (some (t 41 5)) t) := by
  refine hy_mk_ct ok_S_draw ck_S_draw (Nat.le_of_ble_eq_true rfl) ?_
  refine hy_aload (i := 0) rfl rfl ?_
  refine hy_get (i := 1) (fk := 5) rfl rfl rfl ?_
  refine hy_ireturn (i := 2) rfl rfl ?_
  exact ⟨rfl, rfl⟩
theorem c_S_setDraw_41 {x : Int} : hy_Ct sc hm_S_setDraw 0 [.inr (some 41), .inl x] t (hy_e none (hy_up t 41 5 x)) := by
  refine hy_mk_ct ok_S_setDraw ck_S_setDraw (Nat.le_of_ble_eq_true rfl) ?_
  refine hy_aload (i := 0) rfl rfl ?_
  refine hy_iload (i := 1) rfl rfl ?_
  refine hy_put (i := 2) (fk := 5) rfl rfl rfl rfl ?_
  refine hy_return (i := 3) rfl rfl ?_
  exact ⟨rfl, rfl⟩
theorem c_S_treatyCount_41 : hy_Ct sc hm_S_treatyCount 0 [.inr (some 41)] t (hy_e (some (t 41 3)) t) := by
  refine hy_mk_ct ok_S_treatyCount ck_S_treatyCount (Nat.le_of_ble_eq_true rfl) ?_
  refine hy_aload (i := 0) rfl rfl ?_
  refine hy_get (i := 1) (fk := 3) rfl rfl rfl ?_
  refine hy_ireturn (i := 2) rfl rfl ?_
  exact ⟨rfl, rfl⟩
theorem c_S_firstBreakDay_41 : hy_Ct sc hm_S_firstBreakDay 0 [.inr (some 41)] t (hy_e (some (t 41 6)) t) := by
  refine hy_mk_ct ok_S_firstBreakDay ck_S_firstBreakDay (Nat.le_of_ble_eq_true rfl) ?_
  refine hy_aload (i := 0) rfl rfl ?_
  refine hy_get (i := 1) (fk := 6) rfl rfl rfl ?_
  refine hy_ireturn (i := 2) rfl rfl ?_
  exact ⟨rfl, rfl⟩
theorem c_S_firstBreaker_41 : hy_Ct sc hm_S_firstBreaker 0 [.inr (some 41)] t (hy_e (some (t 41 7)) t) := by
  refine hy_mk_ct ok_S_firstBreaker ck_S_firstBreaker (Nat.le_of_ble_eq_true rfl) ?_
  refine hy_aload (i := 0) rfl rfl ?_
  refine hy_get (i := 1) (fk := 7) rfl rfl rfl ?_
  refine hy_ireturn (i := 2) rfl rfl ?_
  exact ⟨rfl, rfl⟩
end SY41
section EY
variable {sc : List Int32} {t : hy_T}
theorem c_E_seenWith {e q plain : Int} (hk : lc_ok t) : hy_Ct sc hm_E_seenWith 3 [.inr (some 45), .inl e, .inl q, .inl plain] t (fun r t' => r = some (sp_seenN t e q plain 12) ∧ hy_F eX t t') := by
  refine hy_mk_ct ok_E_seenWith ck_E_seenWith (Nat.le_of_ble_eq_true rfl) ?_
  have hk2 := hk.2.1
  have loop : ∀ (n : Nat), ∀ (k : Nat) (s : Int) (t1 : hy_T) (v7 v8 v9 : hy_V), n + k = 12 → hy_F eX t t1 → s = sp_seenN t e q plain k → hy_W sc hm_E_seenWith 3 9 [.inr (some 45), .inl e, .inl q, .inl plain, .inl s, .inl (hy_b (rc_has t 115)), .inl (k : Int), v7, v8, v9] [] t1 (fun r t' => r = some (sp_seenN t e q plain 12) ∧ hy_F eX t t') := by
    intro n
    induction n with
    | zero =>
      intro k s t1 v7 v8 v9 hn hF hs
      obtain rfl : k = 12 := by omega
      refine hy_iload (i := 9) rfl rfl ?_
      refine hy_const (i := 10) rfl (by decide) ?_
      refine hy_ic_ge (i := 11) (tt := 75) rfl (fun zc1 => ?_) (fun zc1 => ?_)
      · refine hy_iload (i := 75) rfl rfl ?_
        refine hy_ireturn (i := 76) rfl rfl ?_
        exact ⟨congrArg some hs, hF⟩
      · omega
    | succ n ih =>
      intro k s t1 v7 v8 v9 hn hF hs
      have om : t1 5 3 = t 5 3 := hF 5 3 rfl
      have o6 : t1 6 k = t 6 k := hF 6 k rfl
      have o7 : t1 7 k = t 7 k := hF 7 k rfl
      have od : t1 33 4 = t 33 4 := hF 33 4 rfl
      have hkt : lc_ok t1 := lc_ok_same (eX_law hF) hk
      have hkk : ∀ (dd m g a b : Int), lc_ok (hy_up (hy_up (rc_tell t1 e k q dd m g) 17 5 a) 17 6 b) := fun dd m g a b => lc_ok_same (eX_law (((rc_tell_F hF e k q dd m g).up rfl).up rfl)) hk
      refine hy_iload (i := 9) rfl rfl ?_
      refine hy_const (i := 10) rfl (by decide) ?_
      refine hy_ic_ge (i := 11) (tt := 75) rfl (fun zc1 => ?_) (fun zc1 => ?_)
      · omega
      · refine hy_aload (i := 12) rfl rfl ?_
        refine hy_getr (i := 13) rfl rfl ?_
        refine hy_iload (i := 14) rfl rfl ?_
        refine hy_cV1e (i := 15) rfl mj_P_isMixed (by decide) rfl (Nat.le_of_ble_eq_true rfl) rfl rfl rfl (c_P_isMixed) ?_
        rw [om]
        refine hy_ib_eq (i := 16) (tt := 73) rfl (fun zc2 => ?_) (fun zc2 => ?_)
        · refine hy_iinc (i := 73) rfl rfl (by omega) ?_
          refine hy_goto (i := 74) (tt := 9) rfl ?_
          first | (exfalso; omega) | (refine ih (k + 1) _ _ _ _ _ (by omega) (by first | exact hF2 | exact hF) ?_; simp only [sp_seenN]; rw [← hs]; first | (rw [if_neg (show ¬ sp_told (t 5 3) k = true by rw [zc2]; decide)]; done) | (rw [if_pos zc2]; congr 1; unfold sp_lawS; rw [if_neg (show ¬ rc_has t 115 = true by rw [zc4]; decide)]; first | (rw [if_pos (hb_add2.mp zc3)]; done) | (rw [if_neg (fun q => zc3 (hb_add2.mpr q))]; done)) | (rw [if_pos zc2]; congr 1; unfold sp_lawS; rw [if_pos zc4]; first | (rw [if_pos (hy_b_ne.mp (by assumption))]; done) | (rw [hy_b_eq.mp (by assumption : hy_b (lc_hold _ _ 115) = 0)]; rfl)))
        · refine hy_iload (i := 17) rfl rfl ?_
          refine hy_aload (i := 18) rfl rfl ?_
          refine hy_getr (i := 19) rfl rfl ?_
          refine hy_iload (i := 20) rfl rfl ?_
          refine hy_cV1e (i := 21) rfl mj_P_first (by decide) rfl (Nat.le_of_ble_eq_true rfl) rfl rfl rfl (c_P_first) ?_
          rw [om, if_pos zc2, show t1 6 (k : Int).toNat = t 6 k from o6]
          refine hy_cS2e (i := 22) rfl (by decide) mj_W_bit (by decide) rfl (Nat.le_of_ble_eq_true rfl) (c_W_bit) ?_
          refine hy_istore (i := 23) rfl ?_
          refine hy_iload (i := 24) rfl rfl ?_
          refine hy_aload (i := 25) rfl rfl ?_
          refine hy_getr (i := 26) rfl rfl ?_
          refine hy_iload (i := 27) rfl rfl ?_
          refine hy_cV1e (i := 28) rfl mj_P_second (by decide) rfl (Nat.le_of_ble_eq_true rfl) rfl rfl rfl (c_P_second) ?_
          rw [om, if_pos zc2, show t1 7 (k : Int).toNat = t 7 k from o7]
          refine hy_cS2e (i := 29) rfl (by decide) mj_W_bit (by decide) rfl (Nat.le_of_ble_eq_true rfl) (c_W_bit) ?_
          refine hy_istore (i := 30) rfl ?_
          refine hy_iload (i := 31) rfl rfl ?_
          refine hy_iload (i := 32) rfl rfl ?_
          refine hy_iadd (i := 33) rfl (hb_add _ _) ?_
          refine hy_const (i := 34) rfl (by decide) ?_
          refine hy_ic_ne (i := 35) (tt := 38) rfl (fun zc3 => ?_) (fun zc3 => ?_)
          · refine hy_const (i := 38) rfl (by decide) ?_
            refine hy_istore (i := 39) rfl ?_
            refine hy_iload (i := 40) rfl rfl ?_
            refine hy_ib_eq (i := 41) (tt := 63) rfl (fun zc4 => ?_) (fun zc4 => ?_)
            · refine hy_iload (i := 63) rfl rfl ?_
              refine hy_iload (i := 64) rfl rfl ?_
              refine hy_if_eq (i := 65) (tt := 70) rfl (fun zc5 => ?_) (fun zc5 => ?_)
              · refine hy_const (i := 70) rfl (by decide) ?_
                refine hy_ior (i := 71) rfl ?_
                refine hy_istore (i := 72) rfl ?_
                refine hy_iinc (i := 73) rfl rfl (by omega) ?_
                refine hy_goto (i := 74) (tt := 9) rfl ?_
                first | (exfalso; omega) | (refine ih (k + 1) _ _ _ _ _ (by omega) (by first | exact hF2 | exact hF) ?_; simp only [sp_seenN]; rw [← hs]; first | (rw [if_neg (show ¬ sp_told (t 5 3) k = true by rw [zc2]; decide)]; done) | (rw [if_pos zc2]; congr 1; unfold sp_lawS; rw [if_neg (show ¬ rc_has t 115 = true by rw [zc4]; decide)]; first | (rw [if_pos (hb_add2.mp zc3)]; done) | (rw [if_neg (fun q => zc3 (hb_add2.mpr q))]; done)) | (rw [if_pos zc2]; congr 1; unfold sp_lawS; rw [if_pos zc4]; first | (rw [if_pos (hy_b_ne.mp (by assumption))]; done) | (rw [hy_b_eq.mp (by assumption : hy_b (lc_hold _ _ 115) = 0)]; rfl)))
              · refine hy_const (i := 66) rfl (by decide) ?_
                refine hy_iload (i := 67) rfl rfl ?_
                refine hy_ishl (i := 68) rfl ?_
                refine hy_goto (i := 69) (tt := 71) rfl ?_
                refine hy_ior (i := 71) rfl ?_
                refine hy_istore (i := 72) rfl ?_
                refine hy_iinc (i := 73) rfl rfl (by omega) ?_
                refine hy_goto (i := 74) (tt := 9) rfl ?_
                first | (exfalso; omega) | (refine ih (k + 1) _ _ _ _ _ (by omega) (by first | exact hF2 | exact hF) ?_; simp only [sp_seenN]; rw [← hs]; first | (rw [if_neg (show ¬ sp_told (t 5 3) k = true by rw [zc2]; decide)]; done) | (rw [if_pos zc2]; congr 1; unfold sp_lawS; rw [if_neg (show ¬ rc_has t 115 = true by rw [zc4]; decide)]; first | (rw [if_pos (hb_add2.mp zc3)]; done) | (rw [if_neg (fun q => zc3 (hb_add2.mpr q))]; done)) | (rw [if_pos zc2]; congr 1; unfold sp_lawS; rw [if_pos zc4]; first | (rw [if_pos (hy_b_ne.mp (by assumption))]; done) | (rw [hy_b_eq.mp (by assumption : hy_b (lc_hold _ _ 115) = 0)]; rfl)))
            · refine hy_aload (i := 42) rfl rfl ?_
              refine hy_getr (i := 43) rfl rfl ?_
              refine hy_iload (i := 44) rfl rfl ?_
              refine hy_iload (i := 45) rfl rfl ?_
              refine hy_iload (i := 46) rfl rfl ?_
              refine hy_aload (i := 47) rfl rfl ?_
              refine hy_getr (i := 48) rfl rfl ?_
              refine hy_cV0e (i := 49) rfl mj_S_day (by decide) rfl (Nat.le_of_ble_eq_true rfl) rfl rfl rfl (c_S_day_33) ?_
              rw [od]
              refine hy_const (i := 50) rfl (by decide) ?_
              refine hy_const (i := 51) rfl (by decide) ?_
              refine hy_cV6v (i := 52) rfl mj_L_tell (by decide) rfl (Nat.le_of_ble_eq_true rfl) rfl rfl rfl (c_L_tell) ?_
              refine hy_aload (i := 53) rfl rfl ?_
              refine hy_getr (i := 54) rfl rfl ?_
              refine hy_iload (i := 55) rfl rfl ?_
              refine hy_iload (i := 56) rfl rfl ?_
              refine hy_cV2v (i := 57) rfl mj_L_tellParts (by decide) rfl (Nat.le_of_ble_eq_true rfl) rfl rfl rfl (c_L_tellParts) ?_
              refine hy_aload (i := 58) rfl rfl ?_
              refine hy_getr (i := 59) rfl rfl ?_
              refine hy_const (i := 60) rfl (by decide) ?_
              refine hy_cV1 (i := 61) rfl mj_L_holds (by decide) rfl (Nat.le_of_ble_eq_true rfl) rfl rfl rfl (c_L_holds (hkk _ _ _ _ _)) (fun r9_ t9_ h9 => ?_)
              obtain ⟨rfl, hF9⟩ := h9
              dsimp only [hy_st, List.cons_append, List.nil_append]
              rw [tell_hold hF]
              have hF2 := rX_eX (((rc_tell_F hF _ _ _ _ _ _).up rfl).up rfl) hF9
              refine hy_istore (i := 62) rfl ?_
              refine hy_iload (i := 63) rfl rfl ?_
              refine hy_iload (i := 64) rfl rfl ?_
              refine hy_if_eq (i := 65) (tt := 70) rfl (fun zc5 => ?_) (fun zc5 => ?_)
              · refine hy_const (i := 70) rfl (by decide) ?_
                refine hy_ior (i := 71) rfl ?_
                refine hy_istore (i := 72) rfl ?_
                refine hy_iinc (i := 73) rfl rfl (by omega) ?_
                refine hy_goto (i := 74) (tt := 9) rfl ?_
                first | (exfalso; omega) | (refine ih (k + 1) _ _ _ _ _ (by omega) (by first | exact hF2 | exact hF) ?_; simp only [sp_seenN]; rw [← hs]; first | (rw [if_neg (show ¬ sp_told (t 5 3) k = true by rw [zc2]; decide)]; done) | (rw [if_pos zc2]; congr 1; unfold sp_lawS; rw [if_neg (show ¬ rc_has t 115 = true by rw [zc4]; decide)]; first | (rw [if_pos (hb_add2.mp zc3)]; done) | (rw [if_neg (fun q => zc3 (hb_add2.mpr q))]; done)) | (rw [if_pos zc2]; congr 1; unfold sp_lawS; rw [if_pos zc4]; first | (rw [if_pos (hy_b_ne.mp (by assumption))]; done) | (rw [hy_b_eq.mp (by assumption : hy_b (lc_hold _ _ 115) = 0)]; rfl)))
              · refine hy_const (i := 66) rfl (by decide) ?_
                refine hy_iload (i := 67) rfl rfl ?_
                refine hy_ishl (i := 68) rfl ?_
                refine hy_goto (i := 69) (tt := 71) rfl ?_
                refine hy_ior (i := 71) rfl ?_
                refine hy_istore (i := 72) rfl ?_
                refine hy_iinc (i := 73) rfl rfl (by omega) ?_
                refine hy_goto (i := 74) (tt := 9) rfl ?_
                first | (exfalso; omega) | (refine ih (k + 1) _ _ _ _ _ (by omega) (by first | exact hF2 | exact hF) ?_; simp only [sp_seenN]; rw [← hs]; first | (rw [if_neg (show ¬ sp_told (t 5 3) k = true by rw [zc2]; decide)]; done) | (rw [if_pos zc2]; congr 1; unfold sp_lawS; rw [if_neg (show ¬ rc_has t 115 = true by rw [zc4]; decide)]; first | (rw [if_pos (hb_add2.mp zc3)]; done) | (rw [if_neg (fun q => zc3 (hb_add2.mpr q))]; done)) | (rw [if_pos zc2]; congr 1; unfold sp_lawS; rw [if_pos zc4]; first | (rw [if_pos (hy_b_ne.mp (by assumption))]; done) | (rw [hy_b_eq.mp (by assumption : hy_b (lc_hold _ _ 115) = 0)]; rfl)))
          · refine hy_const (i := 36) rfl (by decide) ?_
            refine hy_goto (i := 37) (tt := 39) rfl ?_
            refine hy_istore (i := 39) rfl ?_
            refine hy_iload (i := 40) rfl rfl ?_
            refine hy_ib_eq (i := 41) (tt := 63) rfl (fun zc4 => ?_) (fun zc4 => ?_)
            · refine hy_iload (i := 63) rfl rfl ?_
              refine hy_iload (i := 64) rfl rfl ?_
              refine hy_if_eq (i := 65) (tt := 70) rfl (fun zc5 => ?_) (fun zc5 => ?_)
              · refine hy_const (i := 70) rfl (by decide) ?_
                refine hy_ior (i := 71) rfl ?_
                refine hy_istore (i := 72) rfl ?_
                refine hy_iinc (i := 73) rfl rfl (by omega) ?_
                refine hy_goto (i := 74) (tt := 9) rfl ?_
                first | (exfalso; omega) | (refine ih (k + 1) _ _ _ _ _ (by omega) (by first | exact hF2 | exact hF) ?_; simp only [sp_seenN]; rw [← hs]; first | (rw [if_neg (show ¬ sp_told (t 5 3) k = true by rw [zc2]; decide)]; done) | (rw [if_pos zc2]; congr 1; unfold sp_lawS; rw [if_neg (show ¬ rc_has t 115 = true by rw [zc4]; decide)]; first | (rw [if_pos (hb_add2.mp zc3)]; done) | (rw [if_neg (fun q => zc3 (hb_add2.mpr q))]; done)) | (rw [if_pos zc2]; congr 1; unfold sp_lawS; rw [if_pos zc4]; first | (rw [if_pos (hy_b_ne.mp (by assumption))]; done) | (rw [hy_b_eq.mp (by assumption : hy_b (lc_hold _ _ 115) = 0)]; rfl)))
              · refine hy_const (i := 66) rfl (by decide) ?_
                refine hy_iload (i := 67) rfl rfl ?_
                refine hy_ishl (i := 68) rfl ?_
                refine hy_goto (i := 69) (tt := 71) rfl ?_
                refine hy_ior (i := 71) rfl ?_
                refine hy_istore (i := 72) rfl ?_
                refine hy_iinc (i := 73) rfl rfl (by omega) ?_
                refine hy_goto (i := 74) (tt := 9) rfl ?_
                first | (exfalso; omega) | (refine ih (k + 1) _ _ _ _ _ (by omega) (by first | exact hF2 | exact hF) ?_; simp only [sp_seenN]; rw [← hs]; first | (rw [if_neg (show ¬ sp_told (t 5 3) k = true by rw [zc2]; decide)]; done) | (rw [if_pos zc2]; congr 1; unfold sp_lawS; rw [if_neg (show ¬ rc_has t 115 = true by rw [zc4]; decide)]; first | (rw [if_pos (hb_add2.mp zc3)]; done) | (rw [if_neg (fun q => zc3 (hb_add2.mpr q))]; done)) | (rw [if_pos zc2]; congr 1; unfold sp_lawS; rw [if_pos zc4]; first | (rw [if_pos (hy_b_ne.mp (by assumption))]; done) | (rw [hy_b_eq.mp (by assumption : hy_b (lc_hold _ _ 115) = 0)]; rfl)))
            · refine hy_aload (i := 42) rfl rfl ?_
              refine hy_getr (i := 43) rfl rfl ?_
              refine hy_iload (i := 44) rfl rfl ?_
              refine hy_iload (i := 45) rfl rfl ?_
              refine hy_iload (i := 46) rfl rfl ?_
              refine hy_aload (i := 47) rfl rfl ?_
              refine hy_getr (i := 48) rfl rfl ?_
              refine hy_cV0e (i := 49) rfl mj_S_day (by decide) rfl (Nat.le_of_ble_eq_true rfl) rfl rfl rfl (c_S_day_33) ?_
              rw [od]
              refine hy_const (i := 50) rfl (by decide) ?_
              refine hy_const (i := 51) rfl (by decide) ?_
              refine hy_cV6v (i := 52) rfl mj_L_tell (by decide) rfl (Nat.le_of_ble_eq_true rfl) rfl rfl rfl (c_L_tell) ?_
              refine hy_aload (i := 53) rfl rfl ?_
              refine hy_getr (i := 54) rfl rfl ?_
              refine hy_iload (i := 55) rfl rfl ?_
              refine hy_iload (i := 56) rfl rfl ?_
              refine hy_cV2v (i := 57) rfl mj_L_tellParts (by decide) rfl (Nat.le_of_ble_eq_true rfl) rfl rfl rfl (c_L_tellParts) ?_
              refine hy_aload (i := 58) rfl rfl ?_
              refine hy_getr (i := 59) rfl rfl ?_
              refine hy_const (i := 60) rfl (by decide) ?_
              refine hy_cV1 (i := 61) rfl mj_L_holds (by decide) rfl (Nat.le_of_ble_eq_true rfl) rfl rfl rfl (c_L_holds (hkk _ _ _ _ _)) (fun r9_ t9_ h9 => ?_)
              obtain ⟨rfl, hF9⟩ := h9
              dsimp only [hy_st, List.cons_append, List.nil_append]
              rw [tell_hold hF]
              have hF2 := rX_eX (((rc_tell_F hF _ _ _ _ _ _).up rfl).up rfl) hF9
              refine hy_istore (i := 62) rfl ?_
              refine hy_iload (i := 63) rfl rfl ?_
              refine hy_iload (i := 64) rfl rfl ?_
              refine hy_if_eq (i := 65) (tt := 70) rfl (fun zc5 => ?_) (fun zc5 => ?_)
              · refine hy_const (i := 70) rfl (by decide) ?_
                refine hy_ior (i := 71) rfl ?_
                refine hy_istore (i := 72) rfl ?_
                refine hy_iinc (i := 73) rfl rfl (by omega) ?_
                refine hy_goto (i := 74) (tt := 9) rfl ?_
                first | (exfalso; omega) | (refine ih (k + 1) _ _ _ _ _ (by omega) (by first | exact hF2 | exact hF) ?_; simp only [sp_seenN]; rw [← hs]; first | (rw [if_neg (show ¬ sp_told (t 5 3) k = true by rw [zc2]; decide)]; done) | (rw [if_pos zc2]; congr 1; unfold sp_lawS; rw [if_neg (show ¬ rc_has t 115 = true by rw [zc4]; decide)]; first | (rw [if_pos (hb_add2.mp zc3)]; done) | (rw [if_neg (fun q => zc3 (hb_add2.mpr q))]; done)) | (rw [if_pos zc2]; congr 1; unfold sp_lawS; rw [if_pos zc4]; first | (rw [if_pos (hy_b_ne.mp (by assumption))]; done) | (rw [hy_b_eq.mp (by assumption : hy_b (lc_hold _ _ 115) = 0)]; rfl)))
              · refine hy_const (i := 66) rfl (by decide) ?_
                refine hy_iload (i := 67) rfl rfl ?_
                refine hy_ishl (i := 68) rfl ?_
                refine hy_goto (i := 69) (tt := 71) rfl ?_
                refine hy_ior (i := 71) rfl ?_
                refine hy_istore (i := 72) rfl ?_
                refine hy_iinc (i := 73) rfl rfl (by omega) ?_
                refine hy_goto (i := 74) (tt := 9) rfl ?_
                first | (exfalso; omega) | (refine ih (k + 1) _ _ _ _ _ (by omega) (by first | exact hF2 | exact hF) ?_; simp only [sp_seenN]; rw [← hs]; first | (rw [if_neg (show ¬ sp_told (t 5 3) k = true by rw [zc2]; decide)]; done) | (rw [if_pos zc2]; congr 1; unfold sp_lawS; rw [if_neg (show ¬ rc_has t 115 = true by rw [zc4]; decide)]; first | (rw [if_pos (hb_add2.mp zc3)]; done) | (rw [if_neg (fun q => zc3 (hb_add2.mpr q))]; done)) | (rw [if_pos zc2]; congr 1; unfold sp_lawS; rw [if_pos zc4]; first | (rw [if_pos (hy_b_ne.mp (by assumption))]; done) | (rw [hy_b_eq.mp (by assumption : hy_b (lc_hold _ _ 115) = 0)]; rfl)))
  refine hy_iload (i := 0) rfl rfl ?_
  refine hy_istore (i := 1) rfl ?_
  refine hy_aload (i := 2) rfl rfl ?_
  refine hy_getr (i := 3) rfl rfl ?_
  refine hy_const (i := 4) rfl (by decide) ?_
  refine hy_cV1e (i := 5) rfl mj_L_hasKind (by decide) rfl (Nat.le_of_ble_eq_true rfl) rfl rfl rfl (c_L_hasKind (by assumption)) ?_
  refine hy_istore (i := 6) rfl ?_
  refine hy_const (i := 7) rfl (by decide) ?_
  refine hy_istore (i := 8) rfl ?_
  exact loop 12 0 plain t _ _ _ rfl hy_F.rf rfl
theorem c_E_seen {e q : Int} (hk : lc_ok t) : hy_Ct sc hm_E_seen 4 [.inr (some 45), .inl e, .inl q] t (fun r t' => r = some (sp_seen t e q) ∧ hy_F eX t t') := by
  refine hy_mk_ct ok_E_seen ck_E_seen (Nat.le_of_ble_eq_true rfl) ?_
  refine hy_aload (i := 0) rfl rfl ?_
  refine hy_iload (i := 1) rfl rfl ?_
  refine hy_iload (i := 2) rfl rfl ?_
  refine hy_aload (i := 3) rfl rfl ?_
  refine hy_getr (i := 4) rfl rfl ?_
  refine hy_iload (i := 5) rfl rfl ?_
  refine hy_iload (i := 6) rfl rfl ?_
  refine hy_cV2e (i := 7) rfl mj_S_had (by decide) rfl (Nat.le_of_ble_eq_true rfl) rfl rfl rfl (c_S_had_33) ?_
  refine hy_cV3 (i := 8) rfl mj_E_seenWith (by decide) rfl (Nat.le_of_ble_eq_true rfl) rfl rfl rfl (c_E_seenWith (by assumption)) (fun r2_ t2_ h2 => ?_)
  obtain ⟨rfl, hF2⟩ := h2
  dsimp only [hy_st, List.cons_append, List.nil_append]
  refine hy_ireturn (i := 9) rfl rfl ?_
  exact ⟨rfl, hF2⟩
theorem c_E_looks {c : Int} : hy_Ct sc hm_E_looks 1 [.inr (some 45), .inl c] t (hy_e (some (lk (t 46) c)) t) := by
  refine hy_mk_ct ok_E_looks ck_E_looks (Nat.le_of_ble_eq_true rfl) ?_
  refine hy_iload (i := 0) rfl rfl ?_
  refine hy_const (i := 1) rfl (by decide) ?_
  refine hy_cS2e (i := 2) rfl (by decide) mj_W_isAmong (by decide) rfl (Nat.le_of_ble_eq_true rfl) (c_W_isAmong) ?_
  refine hy_ib_eq (i := 3) (tt := 9) rfl (fun zc1 => ?_) (fun zc1 => ?_)
  · refine hy_const (i := 9) rfl (by decide) ?_
    refine hy_ireturn (i := 10) rfl rfl ?_
    exact ⟨congrArg some (by unfold lk; simp at zc1; split <;> first | rfl | omega), rfl⟩
  · refine hy_aload (i := 4) rfl rfl ?_
    refine hy_getr (i := 5) rfl rfl ?_
    refine hy_iload (i := 6) rfl rfl ?_
    refine hy_iald (i := 7) rfl rfl (by simp at zc1; omega) rfl ?_
    refine hy_goto (i := 8) (tt := 10) rfl ?_
    refine hy_ireturn (i := 10) rfl rfl ?_
    exact ⟨congrArg some (by unfold lk; simp at zc1; split <;> first | rfl | omega), rfl⟩
theorem c_E_alike {c : Int} : hy_Ct sc hm_E_alike 2 [.inr (some 45), .inl c] t (hy_e (some (sp_alikeN (t 46) (lk (t 46) c) 12)) t) := by
  refine hy_mk_ct ok_E_alike ck_E_alike (Nat.le_of_ble_eq_true rfl) ?_
  have loop : ∀ (n : Nat), ∀ (k : Nat), n + k = 12 → hy_W sc hm_E_alike 2 8 [.inr (some 45), .inl c, .inl (lk (t 46) c), .inl (sp_alikeN (t 46) (lk (t 46) c) k), .inl (k : Int)] [] t (hy_e (some (sp_alikeN (t 46) (lk (t 46) c) 12)) t) := by
    intro n
    induction n with
    | zero =>
      intro k hn
      obtain rfl : k = 12 := by omega
      refine hy_iload (i := 8) rfl rfl ?_
      refine hy_const (i := 9) rfl (by decide) ?_
      refine hy_ic_ge (i := 10) (tt := 25) rfl (fun zc1 => ?_) (fun zc1 => ?_)
      · refine hy_iload (i := 25) rfl rfl ?_
        refine hy_ireturn (i := 26) rfl rfl ?_
        exact ⟨rfl, rfl⟩
      · omega
    | succ n ih =>
      intro k hn
      refine hy_iload (i := 8) rfl rfl ?_
      refine hy_const (i := 9) rfl (by decide) ?_
      refine hy_ic_ge (i := 10) (tt := 25) rfl (fun zc1 => ?_) (fun zc1 => ?_)
      · omega
      · refine hy_aload (i := 11) rfl rfl ?_
        refine hy_getr (i := 12) rfl rfl ?_
        refine hy_iload (i := 13) rfl rfl ?_
        refine hy_iald (i := 14) rfl rfl (by omega) rfl ?_
        refine hy_iload (i := 15) rfl rfl ?_
        refine hy_ic_ne (i := 16) (tt := 23) rfl (fun zc2 => ?_) (fun zc2 => ?_)
        · refine hy_iinc (i := 23) rfl rfl (by omega) ?_
          refine hy_goto (i := 24) (tt := 8) rfl ?_
          have h := ih (k + 1) (by omega)
          simp only [sp_alikeN] at h
          first | (rw [if_pos (by assumption)] at h; exact h) | (rw [if_neg (by assumption)] at h; exact h)
        · refine hy_iload (i := 17) rfl rfl ?_
          refine hy_const (i := 18) rfl (by decide) ?_
          refine hy_iload (i := 19) rfl rfl ?_
          refine hy_ishl (i := 20) rfl ?_
          refine hy_ior (i := 21) rfl ?_
          refine hy_istore (i := 22) rfl ?_
          refine hy_iinc (i := 23) rfl rfl (by omega) ?_
          refine hy_goto (i := 24) (tt := 8) rfl ?_
          have h := ih (k + 1) (by omega)
          simp only [sp_alikeN] at h
          first | (rw [if_pos (by assumption)] at h; exact h) | (rw [if_neg (by assumption)] at h; exact h)
  refine hy_aload (i := 0) rfl rfl ?_
  refine hy_iload (i := 1) rfl rfl ?_
  refine hy_cV1e (i := 2) rfl mj_E_looks (by decide) rfl (Nat.le_of_ble_eq_true rfl) rfl rfl rfl (c_E_looks) ?_
  refine hy_istore (i := 3) rfl ?_
  refine hy_const (i := 4) rfl (by decide) ?_
  refine hy_istore (i := 5) rfl ?_
  refine hy_const (i := 6) rfl (by decide) ?_
  refine hy_istore (i := 7) rfl ?_
  exact loop 12 0 rfl
abbrev lX : Nat → Nat → Bool := fun r _ => r == 17 || r == 18 || r == 46
theorem eX_lX {t t1 : hy_T} (h : hy_F eX t t1) : hy_F lX t t1 := h.w (fun r j q => by revert q; simp [eX, lX]; omega)
theorem lX_law {t t1 : hy_T} (h : hy_F lX t t1) : lc_same t t1 := lc_same_of h (fun r j q => by revert q; simp [lawX, lX]; omega)
theorem c_E_look {e q : Int} (hk : lc_ok t) : hy_Ct sc hm_E_look 4 [.inr (some 45), .inl e, .inl q] t (fun r t' => r = none ∧ t' 46 = sp_asN t (sp_seen t e q) (t 46) 12 ∧ hy_F lX t t') := by
  refine hy_mk_ct ok_E_look ck_E_look (Nat.le_of_ble_eq_true rfl) ?_
  have loop : ∀ (n : Nat), ∀ (k : Nat) (t1 : hy_T) (v5 : hy_V), n + k = 12 → hy_F lX t t1 → t1 46 = sp_asN t (sp_seen t e q) (t 46) k → hy_W sc hm_E_look 4 12 [.inr (some 45), .inl e, .inl q, .inl (sp_seen t e q), .inl (k : Int), v5] [] t1 (fun r t' => r = none ∧ t' 46 = sp_asN t (sp_seen t e q) (t 46) 12 ∧ hy_F lX t t') := by
    intro n
    induction n with
    | zero =>
      intro k t1 v5 hn hF hs
      obtain rfl : k = 12 := by omega
      refine hy_iload (i := 12) rfl rfl ?_
      refine hy_const (i := 13) rfl (by decide) ?_
      refine hy_ic_ge (i := 14) (tt := 61) rfl (fun zc1 => ?_) (fun zc1 => ?_)
      · refine hy_return (i := 61) rfl rfl ?_
        exact ⟨rfl, hs, hF⟩
      · omega
    | succ n ih =>
      intro k t1 v5 hn hF hs
      have om : t1 5 3 = t 5 3 := hF 5 3 rfl
      have o6 : t1 6 k = t 6 k := hF 6 k rfl
      have o7 : t1 7 k = t 7 k := hF 7 k rfl
      refine hy_iload (i := 12) rfl rfl ?_
      refine hy_const (i := 13) rfl (by decide) ?_
      refine hy_ic_ge (i := 14) (tt := 61) rfl (fun zc1 => ?_) (fun zc1 => ?_)
      · omega
      · refine hy_iload (i := 15) rfl rfl ?_
        refine hy_iload (i := 16) rfl rfl ?_
        refine hy_cS2e (i := 17) rfl (by decide) mj_W_bit (by decide) rfl (Nat.le_of_ble_eq_true rfl) (c_W_bit) ?_
        refine hy_const (i := 18) rfl (by decide) ?_
        refine hy_icb_ne (i := 19) (tt := 26) rfl (fun zc2 => ?_) (fun zc2 => ?_)
        · refine hy_aload (i := 26) rfl rfl ?_
          refine hy_getr (i := 27) rfl rfl ?_
          refine hy_iload (i := 28) rfl rfl ?_
          refine hy_cV1e (i := 29) rfl mj_P_isMixed (by decide) rfl (Nat.le_of_ble_eq_true rfl) rfl rfl rfl (c_P_isMixed) ?_
          rw [om]
          refine hy_ib_eq (i := 30) (tt := 54) rfl (fun zc3 => ?_) (fun zc3 => ?_)
          · refine hy_aload (i := 54) rfl rfl ?_
            refine hy_getr (i := 55) rfl rfl ?_
            refine hy_iload (i := 56) rfl rfl ?_
            refine hy_const (i := 57) rfl (by decide) ?_
            refine hy_iast (i := 58) rfl rfl (by omega) (k := k) (by omega) ?_
            refine hy_iinc (i := 59) rfl rfl (by omega) ?_
            refine hy_goto (i := 60) (tt := 12) rfl ?_
            refine ih (k + 1) _ _ (by omega) (hF.up rfl) ?_
            rw [hy_up_row]
            simp only [sp_asN]
            rw [← hs]
            first | (rw [if_pos zc2]; done) | (rw [if_neg (show ¬ hz_b (sp_seen t e q) k = true by rw [zc2]; decide), if_pos zc3]; first | (rw [if_pos (by assumption)]; done) | (rw [if_neg (fun q => q (by assumption))]; done)) | (rw [if_neg (show ¬ hz_b (sp_seen t e q) k = true by rw [zc2]; decide), if_neg (show ¬ sp_told (t 5 3) k = true by rw [zc3]; decide)]; done)
          · refine hy_aload (i := 31) rfl rfl ?_
            refine hy_aload (i := 32) rfl rfl ?_
            refine hy_getr (i := 33) rfl rfl ?_
            refine hy_iload (i := 34) rfl rfl ?_
            refine hy_cV1e (i := 35) rfl mj_P_first (by decide) rfl (Nat.le_of_ble_eq_true rfl) rfl rfl rfl (c_P_first) ?_
            rw [om, if_pos zc3, show t1 6 (k : Int).toNat = t 6 k from o6]
            refine hy_cV1e (i := 36) rfl mj_E_looks (by decide) rfl (Nat.le_of_ble_eq_true rfl) rfl rfl rfl (c_E_looks) ?_
            refine hy_istore (i := 37) rfl ?_
            refine hy_aload (i := 38) rfl rfl ?_
            refine hy_getr (i := 39) rfl rfl ?_
            refine hy_iload (i := 40) rfl rfl ?_
            refine hy_iload (i := 41) rfl rfl ?_
            refine hy_const (i := 42) rfl (by decide) ?_
            refine hy_ic_eq (i := 43) (tt := 46) rfl (fun zc4 => ?_) (fun zc4 => ?_)
            · refine hy_aload (i := 46) rfl rfl ?_
              refine hy_aload (i := 47) rfl rfl ?_
              refine hy_getr (i := 48) rfl rfl ?_
              refine hy_iload (i := 49) rfl rfl ?_
              refine hy_cV1e (i := 50) rfl mj_P_second (by decide) rfl (Nat.le_of_ble_eq_true rfl) rfl rfl rfl (c_P_second) ?_
              rw [om, if_pos zc3, show t1 7 (k : Int).toNat = t 7 k from o7]
              refine hy_cV1e (i := 51) rfl mj_E_looks (by decide) rfl (Nat.le_of_ble_eq_true rfl) rfl rfl rfl (c_E_looks) ?_
              refine hy_iast (i := 52) rfl rfl (by omega) (k := k) (by omega) ?_
              refine hy_goto (i := 53) (tt := 59) rfl ?_
              refine hy_iinc (i := 59) rfl rfl (by omega) ?_
              refine hy_goto (i := 60) (tt := 12) rfl ?_
              refine ih (k + 1) _ _ (by omega) (hF.up rfl) ?_
              rw [hy_up_row]
              simp only [sp_asN]
              rw [← hs]
              first | (rw [if_pos zc2]; done) | (rw [if_neg (show ¬ hz_b (sp_seen t e q) k = true by rw [zc2]; decide), if_pos zc3]; first | (rw [if_pos (by assumption)]; done) | (rw [if_neg (fun q => q (by assumption))]; done)) | (rw [if_neg (show ¬ hz_b (sp_seen t e q) k = true by rw [zc2]; decide), if_neg (show ¬ sp_told (t 5 3) k = true by rw [zc3]; decide)]; done)
            · refine hy_iload (i := 44) rfl rfl ?_
              refine hy_goto (i := 45) (tt := 52) rfl ?_
              refine hy_iast (i := 52) rfl rfl (by omega) (k := k) (by omega) ?_
              refine hy_goto (i := 53) (tt := 59) rfl ?_
              refine hy_iinc (i := 59) rfl rfl (by omega) ?_
              refine hy_goto (i := 60) (tt := 12) rfl ?_
              refine ih (k + 1) _ _ (by omega) (hF.up rfl) ?_
              rw [hy_up_row]
              simp only [sp_asN]
              rw [← hs]
              first | (rw [if_pos zc2]; done) | (rw [if_neg (show ¬ hz_b (sp_seen t e q) k = true by rw [zc2]; decide), if_pos zc3]; first | (rw [if_pos (by assumption)]; done) | (rw [if_neg (fun q => q (by assumption))]; done)) | (rw [if_neg (show ¬ hz_b (sp_seen t e q) k = true by rw [zc2]; decide), if_neg (show ¬ sp_told (t 5 3) k = true by rw [zc3]; decide)]; done)
        · refine hy_aload (i := 20) rfl rfl ?_
          refine hy_getr (i := 21) rfl rfl ?_
          refine hy_iload (i := 22) rfl rfl ?_
          refine hy_iload (i := 23) rfl rfl ?_
          refine hy_iast (i := 24) rfl rfl (by omega) (k := k) (by omega) ?_
          refine hy_goto (i := 25) (tt := 59) rfl ?_
          refine hy_iinc (i := 59) rfl rfl (by omega) ?_
          refine hy_goto (i := 60) (tt := 12) rfl ?_
          refine ih (k + 1) _ _ (by omega) (hF.up rfl) ?_
          rw [hy_up_row]
          simp only [sp_asN]
          rw [← hs]
          first | (rw [if_pos zc2]; done) | (rw [if_neg (show ¬ hz_b (sp_seen t e q) k = true by rw [zc2]; decide), if_pos zc3]; first | (rw [if_pos (by assumption)]; done) | (rw [if_neg (fun q => q (by assumption))]; done)) | (rw [if_neg (show ¬ hz_b (sp_seen t e q) k = true by rw [zc2]; decide), if_neg (show ¬ sp_told (t 5 3) k = true by rw [zc3]; decide)]; done)
  refine hy_aload (i := 0) rfl rfl ?_
  refine hy_iload (i := 1) rfl rfl ?_
  refine hy_iload (i := 2) rfl rfl ?_
  refine hy_aload (i := 3) rfl rfl ?_
  refine hy_getr (i := 4) rfl rfl ?_
  refine hy_iload (i := 5) rfl rfl ?_
  refine hy_iload (i := 6) rfl rfl ?_
  refine hy_cV2e (i := 7) rfl mj_S_had (by decide) rfl (Nat.le_of_ble_eq_true rfl) rfl rfl rfl (c_S_had_33) ?_
  refine hy_cV3 (i := 8) rfl mj_E_seenWith (by decide) rfl (Nat.le_of_ble_eq_true rfl) rfl rfl rfl (c_E_seenWith (by assumption)) (fun r2_ t2_ h2 => ?_)
  obtain ⟨rfl, hF2⟩ := h2
  dsimp only [hy_st, List.cons_append, List.nil_append]
  refine hy_istore (i := 9) rfl ?_
  refine hy_const (i := 10) rfl (by decide) ?_
  refine hy_istore (i := 11) rfl ?_
  exact loop 12 0 _ _ rfl (eX_lX hF2) (funext fun j => hF2 46 j rfl)
theorem c_E_childSees {a b c q : Int} (hk : lc_ok t) : hy_Ct sc hm_E_childSees 5 [.inr (some 45), .inl a, .inl b, .inl c, .inl q] t (fun r t' => r = some (hy_b (sp_child t a b c q)) ∧ hy_F eX t t') := by
  refine hy_mk_ct ok_E_childSees ck_E_childSees (Nat.le_of_ble_eq_true rfl) ?_
  refine hy_aload (i := 0) rfl rfl ?_
  refine hy_iload (i := 1) rfl rfl ?_
  refine hy_iload (i := 2) rfl rfl ?_
  refine hy_cV2 (i := 3) rfl mj_E_seen (by decide) rfl (Nat.le_of_ble_eq_true rfl) rfl rfl rfl (c_E_seen (by assumption)) (fun r1_ t1_ h1 => ?_)
  obtain ⟨rfl, hF1⟩ := h1
  dsimp only [hy_st, List.cons_append, List.nil_append]
  refine hy_iload (i := 4) rfl rfl ?_
  refine hy_cS2e (i := 5) rfl (by decide) mj_W_bit (by decide) rfl (Nat.le_of_ble_eq_true rfl) (c_W_bit) ?_
  refine hy_istore (i := 6) rfl ?_
  have hk1 := lc_ok_same (eX_law hF1) hk
  refine hy_aload (i := 7) rfl rfl ?_
  refine hy_iload (i := 8) rfl rfl ?_
  refine hy_iload (i := 9) rfl rfl ?_
  refine hy_cV2 (i := 10) rfl mj_E_seen (by decide) rfl (Nat.le_of_ble_eq_true rfl) rfl rfl rfl (c_E_seen hk1) (fun r3_ t3_ h3 => ?_)
  obtain ⟨rfl, hF3⟩ := h3
  dsimp only [hy_st, List.cons_append, List.nil_append]
  rw [sp_seen_F hF1]
  have hG := hF1.tr' hF3
  have hk2 := lc_ok_same (eX_law hG) hk
  have hk3 := hk2.2.1
  have om : t3_ 5 3 = t 5 3 := hG 5 3 rfl
  have od : t3_ 33 4 = t 33 4 := hG 33 4 rfl
  have oh : t3_ 34 = t 34 := funext fun j => hG 34 j rfl
  refine hy_iload (i := 11) rfl rfl ?_
  refine hy_cS2e (i := 12) rfl (by decide) mj_W_bit (by decide) rfl (Nat.le_of_ble_eq_true rfl) (c_W_bit) ?_
  refine hy_istore (i := 13) rfl ?_
  refine hy_aload (i := 14) rfl rfl ?_
  refine hy_getr (i := 15) rfl rfl ?_
  refine hy_const (i := 16) rfl (by decide) ?_
  refine hy_cV1e (i := 17) rfl mj_L_hasKind (by decide) rfl (Nat.le_of_ble_eq_true rfl) rfl rfl rfl (c_L_hasKind (by assumption)) ?_
  rw [lc_same_has (eX_law hG)]
  refine hy_ib_ne (i := 18) (tt := 27) rfl (fun zc1 => ?_) (fun zc1 => ?_)
  · refine hy_aload (i := 27) rfl rfl ?_
    refine hy_getr (i := 28) rfl rfl ?_
    refine hy_iload (i := 29) rfl rfl ?_
    refine hy_cV1e (i := 30) rfl mj_P_isMixed (by decide) rfl (Nat.le_of_ble_eq_true rfl) rfl rfl rfl (c_P_isMixed) ?_
    rw [om]
    refine hy_ib_eq (i := 31) (tt := 34) rfl (fun zc2 => ?_) (fun zc2 => ?_)
    · refine hy_const (i := 34) rfl (by decide) ?_
      refine hy_istore (i := 35) rfl ?_
      refine hy_aload (i := 36) rfl rfl ?_
      refine hy_getr (i := 37) rfl rfl ?_
      refine hy_iload (i := 38) rfl rfl ?_
      refine hy_iload (i := 39) rfl rfl ?_
      refine hy_iload (i := 40) rfl rfl ?_
      refine hy_aload (i := 41) rfl rfl ?_
      refine hy_getr (i := 42) rfl rfl ?_
      refine hy_cV0e (i := 43) rfl mj_S_day (by decide) rfl (Nat.le_of_ble_eq_true rfl) rfl rfl rfl (c_S_day_33) ?_
      rw [od]
      refine hy_iload (i := 44) rfl rfl ?_
      refine hy_aload (i := 45) rfl rfl ?_
      refine hy_getr (i := 46) rfl rfl ?_
      refine hy_iload (i := 47) rfl rfl ?_
      refine hy_iload (i := 48) rfl rfl ?_
      refine hy_cV2e (i := 49) rfl mj_S_havers (by decide) rfl (Nat.le_of_ble_eq_true rfl) rfl rfl rfl (c_S_havers_33) ?_
      refine hy_cS1e (i := 50) rfl (by decide) mj_J_bitCount (by decide) rfl (Nat.le_of_ble_eq_true rfl) (c_J_bitCount) ?_
      rw [oh]
      refine hy_cV6v (i := 51) rfl mj_L_tell (by decide) rfl (Nat.le_of_ble_eq_true rfl) rfl rfl rfl (c_L_tell) ?_
      refine hy_aload (i := 52) rfl rfl ?_
      refine hy_getr (i := 53) rfl rfl ?_
      refine hy_iload (i := 54) rfl rfl ?_
      refine hy_iload (i := 55) rfl rfl ?_
      refine hy_cV2v (i := 56) rfl mj_L_tellParts (by decide) rfl (Nat.le_of_ble_eq_true rfl) rfl rfl rfl (c_L_tellParts) ?_
      refine hy_aload (i := 57) rfl rfl ?_
      refine hy_getr (i := 58) rfl rfl ?_
      refine hy_const (i := 59) rfl (by decide) ?_
      refine hy_cV1 (i := 60) rfl mj_L_holds (by decide) rfl (Nat.le_of_ble_eq_true rfl) rfl rfl rfl (c_L_holds (lc_ok_same (eX_law (((rc_tell_F hG _ _ _ _ _ _).up rfl).up rfl)) hk)) (fun r12_ t12_ h12 => ?_)
      obtain ⟨rfl, hF12⟩ := h12
      dsimp only [hy_st, List.cons_append, List.nil_append]
      rw [tell_hold hG]
      have hG2 := rX_eX (((rc_tell_F hG _ _ _ _ _ _).up rfl).up rfl) hF12
      refine hy_zreturn (i := 61) rfl rfl (by first | decide | exact hy_b01 _) ?_
      first | (refine ⟨congrArg some ?_, hG2⟩; simp only [sp_child]; rw [if_pos zc1, zc2]; rfl) | (refine ⟨congrArg some ?_, hG⟩; simp only [sp_child]; rw [if_neg (show ¬ rc_has t 107 = true by rw [zc1]; decide)]; first | (rw [hb_add0.mp zc2]; rfl) | (have h9 := (not_congr hb_add0).mp zc2; rw [Bool.not_eq_false] at h9; rw [h9]; rfl))
    · refine hy_const (i := 32) rfl (by decide) ?_
      refine hy_goto (i := 33) (tt := 35) rfl ?_
      refine hy_istore (i := 35) rfl ?_
      refine hy_aload (i := 36) rfl rfl ?_
      refine hy_getr (i := 37) rfl rfl ?_
      refine hy_iload (i := 38) rfl rfl ?_
      refine hy_iload (i := 39) rfl rfl ?_
      refine hy_iload (i := 40) rfl rfl ?_
      refine hy_aload (i := 41) rfl rfl ?_
      refine hy_getr (i := 42) rfl rfl ?_
      refine hy_cV0e (i := 43) rfl mj_S_day (by decide) rfl (Nat.le_of_ble_eq_true rfl) rfl rfl rfl (c_S_day_33) ?_
      rw [od]
      refine hy_iload (i := 44) rfl rfl ?_
      refine hy_aload (i := 45) rfl rfl ?_
      refine hy_getr (i := 46) rfl rfl ?_
      refine hy_iload (i := 47) rfl rfl ?_
      refine hy_iload (i := 48) rfl rfl ?_
      refine hy_cV2e (i := 49) rfl mj_S_havers (by decide) rfl (Nat.le_of_ble_eq_true rfl) rfl rfl rfl (c_S_havers_33) ?_
      refine hy_cS1e (i := 50) rfl (by decide) mj_J_bitCount (by decide) rfl (Nat.le_of_ble_eq_true rfl) (c_J_bitCount) ?_
      rw [oh]
      refine hy_cV6v (i := 51) rfl mj_L_tell (by decide) rfl (Nat.le_of_ble_eq_true rfl) rfl rfl rfl (c_L_tell) ?_
      refine hy_aload (i := 52) rfl rfl ?_
      refine hy_getr (i := 53) rfl rfl ?_
      refine hy_iload (i := 54) rfl rfl ?_
      refine hy_iload (i := 55) rfl rfl ?_
      refine hy_cV2v (i := 56) rfl mj_L_tellParts (by decide) rfl (Nat.le_of_ble_eq_true rfl) rfl rfl rfl (c_L_tellParts) ?_
      refine hy_aload (i := 57) rfl rfl ?_
      refine hy_getr (i := 58) rfl rfl ?_
      refine hy_const (i := 59) rfl (by decide) ?_
      refine hy_cV1 (i := 60) rfl mj_L_holds (by decide) rfl (Nat.le_of_ble_eq_true rfl) rfl rfl rfl (c_L_holds (lc_ok_same (eX_law (((rc_tell_F hG _ _ _ _ _ _).up rfl).up rfl)) hk)) (fun r12_ t12_ h12 => ?_)
      obtain ⟨rfl, hF12⟩ := h12
      dsimp only [hy_st, List.cons_append, List.nil_append]
      rw [tell_hold hG]
      have hG2 := rX_eX (((rc_tell_F hG _ _ _ _ _ _).up rfl).up rfl) hF12
      refine hy_zreturn (i := 61) rfl rfl (by first | decide | exact hy_b01 _) ?_
      first | (refine ⟨congrArg some ?_, hG2⟩; simp only [sp_child]; rw [if_pos zc1, zc2]; rfl) | (refine ⟨congrArg some ?_, hG⟩; simp only [sp_child]; rw [if_neg (show ¬ rc_has t 107 = true by rw [zc1]; decide)]; first | (rw [hb_add0.mp zc2]; rfl) | (have h9 := (not_congr hb_add0).mp zc2; rw [Bool.not_eq_false] at h9; rw [h9]; rfl))
  · refine hy_iload (i := 19) rfl rfl ?_
    refine hy_iload (i := 20) rfl rfl ?_
    refine hy_iadd (i := 21) rfl (hb_add _ _) ?_
    refine hy_if_le (i := 22) (tt := 25) rfl (fun zc2 => ?_) (fun zc2 => ?_)
    · refine hy_const (i := 25) rfl (by decide) ?_
      refine hy_zreturn (i := 26) rfl rfl (by first | decide | exact hy_b01 _) ?_
      first | (refine ⟨congrArg some ?_, hG2⟩; simp only [sp_child]; rw [if_pos zc1, zc2]; rfl) | (refine ⟨congrArg some ?_, hG⟩; simp only [sp_child]; rw [if_neg (show ¬ rc_has t 107 = true by rw [zc1]; decide)]; first | (rw [hb_add0.mp zc2]; rfl) | (have h9 := (not_congr hb_add0).mp zc2; rw [Bool.not_eq_false] at h9; rw [h9]; rfl))
    · refine hy_const (i := 23) rfl (by decide) ?_
      refine hy_goto (i := 24) (tt := 26) rfl ?_
      refine hy_zreturn (i := 26) rfl rfl (by first | decide | exact hy_b01 _) ?_
      first | (refine ⟨congrArg some ?_, hG2⟩; simp only [sp_child]; rw [if_pos zc1, zc2]; rfl) | (refine ⟨congrArg some ?_, hG⟩; simp only [sp_child]; rw [if_neg (show ¬ rc_has t 107 = true by rw [zc1]; decide)]; first | (rw [hb_add0.mp zc2]; rfl) | (have h9 := (not_congr hb_add0).mp zc2; rw [Bool.not_eq_false] at h9; rw [h9]; rfl))
end EY
