/-! the class's paths -/
def pa_beside (f s : Int) : Int :=
  if s = 0 then (if f % 8 < 7 then f + 1 else -1)
  else if s = 1 then (if 0 < f % 8 then f - 1 else -1)
  else if s = 2 then (if f + 8 < 64 then f + 8 else -1)
  else (if 8 ≤ f then f - 8 else -1)
theorem pa_beside_in {f : Int} (hf : 0 ≤ f ∧ f < 64) (s : Int) : -1 ≤ pa_beside f s ∧ pa_beside f s < 64 := by
  unfold pa_beside
  split
  · split <;> omega
  · split
    · split <;> omega
    · split
      · split <;> omega
      · split <;> omega
def pa_forgetN (t : hy_T) : Nat → hy_T
  | 0 => t
  | n + 1 => hy_up (hy_up (pa_forgetN t n) 54 n 0) 55 n 1000000
def pa_inv (t : hy_T) : Prop := ∀ j : Nat, j < 64 → 0 ≤ t 55 j ∧ t 55 j ≤ 1000000
def pa_nearN (t : hy_T) : Nat → Int
  | 0 => -1
  | n + 1 => if t 54 n = 0 ∧ (pa_nearN t n < 0 ∨ t 55 n < t 55 (pa_nearN t n).toNat) then (n : Int) else pa_nearN t n
theorem pa_near_in (t : hy_T) : ∀ n : Nat, -1 ≤ pa_nearN t n ∧ pa_nearN t n < n
  | 0 => by simp [pa_nearN]
  | n + 1 => by
    have h := pa_near_in t n
    simp only [pa_nearN]
    split <;> omega
def pa_cost (t : hy_T) (f nx : Int) : Int := t 55 f.toNat + 1 + (if t 53 nx.toNat = 0 then 100 else 0)
def pa_leaveN (t : hy_T) (f : Int) : Nat → hy_T
  | 0 => hy_up t 54 f.toNat 1
  | n + 1 =>
    let t1 := pa_leaveN t f n
    let nx := pa_beside f n
    if 0 ≤ nx then hy_up t1 55 nx.toNat (if pa_cost t1 f nx < t1 55 nx.toNat then pa_cost t1 f nx else t1 55 nx.toNat) else t1
def pa_leave (t : hy_T) (f : Int) : hy_T := if 0 ≤ f ∧ f < 64 then pa_leaveN t f 4 else t
theorem pa_inv_up {t : hy_T} (h : pa_inv t) {j : Nat} {v : Int} (hv : 0 ≤ v ∧ v ≤ 1000000) : pa_inv (hy_up t 55 j v) := by
  intro i hi
  unfold hy_up
  split
  · exact hv
  · exact h i hi
theorem pa_leaveN_inv {t : hy_T} (h : pa_inv t) {f : Int} (hf : 0 ≤ f ∧ f < 64) : ∀ n : Nat, pa_inv (pa_leaveN t f n)
  | 0 => fun j hj => by
    simp only [pa_leaveN]
    show 0 ≤ hy_up t 54 f.toNat 1 55 j ∧ hy_up t 54 f.toNat 1 55 j ≤ 1000000
    rw [show hy_up t 54 f.toNat 1 55 j = t 55 j by simp [hy_up]]
    exact h j hj
  | n + 1 => by
    have ih := pa_leaveN_inv h hf n
    simp only [pa_leaveN]
    split
    · have h1 := pa_beside_in hf n
      have h2 := ih (pa_beside f n).toNat (by omega)
      have h3 := ih f.toNat (by omega)
      refine pa_inv_up ih ?_
      unfold pa_cost
      split <;> split at * <;> omega
    · exact ih
theorem pa_leave_inv {t : hy_T} (h : pa_inv t) (f : Int) : pa_inv (pa_leave t f) := by
  unfold pa_leave
  split
  · exact pa_leaveN_inv h (by assumption) 4
  · exact h
def pa_searchN (t : hy_T) : Nat → hy_T
  | 0 => t
  | n + 1 => let t1 := pa_searchN t n; pa_leave t1 (pa_nearN t1 64)
theorem pa_searchN_inv {t : hy_T} (h : pa_inv t) : ∀ n : Nat, pa_inv (pa_searchN t n)
  | 0 => h
  | n + 1 => pa_leave_inv (pa_searchN_inv h n) _
def pa_search0 (t : hy_T) (a : Int) : hy_T := if 0 ≤ a ∧ a < 64 then hy_up (pa_forgetN t 64) 55 a.toNat 0 else pa_forgetN t 64
theorem pa_forget_inv (t : hy_T) : pa_inv (pa_forgetN t 64) := by
  have h : ∀ n : Nat, ∀ j : Nat, j < n → pa_forgetN t n 55 j = 1000000 := by
    intro n
    induction n with
    | zero => intro j hj; omega
    | succ n ih =>
      intro j hj
      simp only [pa_forgetN, hy_up]
      by_cases hjn : j = n
      · simp [hjn]
      · rw [if_neg (by omega), if_neg (by omega)]
        exact ih j (by omega)
  intro j hj
  rw [h 64 j hj]
  omega
theorem pa_search0_inv (t : hy_T) (a : Int) : pa_inv (pa_search0 t a) := by
  unfold pa_search0
  split
  · exact pa_inv_up (pa_forget_inv t) (by decide)
  · exact pa_forget_inv t
abbrev paX : Nat → Nat → Bool := fun r j => r == 54 || r == 55 || r == 56 || (r == 52 && (j == 4 || j == 5))
theorem pa_forgetN_F (t : hy_T) : ∀ n, hy_F paX t (pa_forgetN t n)
  | 0 => hy_F.rf
  | n + 1 => ((pa_forgetN_F t n).up rfl).up rfl
theorem pa_leaveN_F (t : hy_T) (f : Int) : ∀ n, hy_F paX t (pa_leaveN t f n)
  | 0 => hy_F.rf.up rfl
  | n + 1 => by
    simp only [pa_leaveN]
    split
    · exact (pa_leaveN_F t f n).up rfl
    · exact pa_leaveN_F t f n
theorem pa_leave_F (t : hy_T) (f : Int) : hy_F paX t (pa_leave t f) := by
  unfold pa_leave
  split
  · exact pa_leaveN_F t f 4
  · exact hy_F.rf
theorem pa_searchN_F (t : hy_T) : ∀ n, hy_F paX t (pa_searchN t n)
  | 0 => hy_F.rf
  | n + 1 => (pa_searchN_F t n).tr' (pa_leave_F _ _)
theorem pa_search0_F (t : hy_T) (a : Int) : hy_F paX t (pa_search0 t a) := by
  unfold pa_search0
  split
  · exact (pa_forgetN_F t 64).up rfl
  · exact pa_forgetN_F t 64
def pa_push (t : hy_T) (f w : Int) : hy_T × Int := if (0 ≤ w ∧ w < 64) ∧ 0 ≤ f ∧ f < 64 then (hy_up (hy_up t 54 f.toNat 1) 56 w.toNat f, w + 1) else (t, w)
def pa_side (t : hy_T) (f w : Int) : Nat → hy_T × Int
  | 0 => (t, w)
  | n + 1 =>
    let p := pa_side t f w n
    if 0 ≤ pa_beside f n ∧ p.1 53 (pa_beside f n).toNat ≠ 0 ∧ p.1 54 (pa_beside f n).toNat = 0 then pa_push p.1 (pa_beside f n) p.2 else p
def pa_fillN : Nat → hy_T → Int → Int → hy_T × Int
  | 0, t, _, z => (t, z)
  | n + 1, t, w, z => if 0 < w then (let p := pa_side t (t 56 (w - 1).toNat) (w - 1) 4; pa_fillN n p.1 p.2 (z + 1)) else (t, z)
def pa_fill (t : hy_T) (f : Int) : hy_T × Int := pa_fillN 64 (pa_push t f 0).1 (pa_push t f 0).2 0
def pa_stk (t : hy_T) : Prop := ∀ j : Nat, j < 64 → 0 ≤ t 56 j ∧ t 56 j < 64
abbrev pfX : Nat → Nat → Bool := fun r _ => r == 54 || r == 56
theorem pa_push_s {t : hy_T} (h : pa_stk t) (f : Int) {w : Int} (hw : 0 ≤ w ∧ w ≤ 64) : pa_stk (pa_push t f w).1 ∧ (0 ≤ (pa_push t f w).2 ∧ (pa_push t f w).2 ≤ 64) ∧ hy_F pfX t (pa_push t f w).1 := by
  unfold pa_push
  split
  · next hc =>
    refine ⟨fun j hj => ?_, by dsimp only; omega, (hy_F.rf.up rfl).up rfl⟩
    show 0 ≤ hy_up (hy_up t 54 f.toNat 1) 56 w.toNat f 56 j ∧ hy_up (hy_up t 54 f.toNat 1) 56 w.toNat f 56 j < 64
    by_cases hjw : j = w.toNat
    · rw [show hy_up (hy_up t 54 f.toNat 1) 56 w.toNat f 56 j = f by simp [hy_up, hjw]]; omega
    · rw [show hy_up (hy_up t 54 f.toNat 1) 56 w.toNat f 56 j = t 56 j by simp [hy_up, hjw]]; exact h j hj
  · exact ⟨h, hw, hy_F.rf⟩
theorem pa_side_s {t : hy_T} (h : pa_stk t) (f : Int) {w : Int} (hw : 0 ≤ w ∧ w ≤ 64) : ∀ n : Nat, pa_stk (pa_side t f w n).1 ∧ (0 ≤ (pa_side t f w n).2 ∧ (pa_side t f w n).2 ≤ 64) ∧ hy_F pfX t (pa_side t f w n).1
  | 0 => ⟨h, hw, hy_F.rf⟩
  | n + 1 => by
    obtain ⟨h1, h2, h3⟩ := pa_side_s h f hw n
    simp only [pa_side]
    split
    · obtain ⟨g1, g2, g3⟩ := pa_push_s h1 (pa_beside f n) h2
      exact ⟨g1, g2, h3.tr' g3⟩
    · exact ⟨h1, h2, h3⟩
theorem pa_fillN_s : ∀ (n : Nat) {t : hy_T} {w z : Int}, pa_stk t → (0 ≤ w ∧ w ≤ 64) → pa_stk (pa_fillN n t w z).1 ∧ (z ≤ (pa_fillN n t w z).2 ∧ (pa_fillN n t w z).2 ≤ z + n) ∧ hy_F pfX t (pa_fillN n t w z).1
  | 0, t, w, z, h, hw => ⟨h, by simp [pa_fillN], hy_F.rf⟩
  | n + 1, t, w, z, h, hw => by
    simp only [pa_fillN]
    split
    · obtain ⟨h1, h2, h3⟩ := pa_side_s h (t 56 (w - 1).toNat) (w := w - 1) (by omega) 4
      obtain ⟨g1, g2, g3⟩ := pa_fillN_s n (z := z + 1) h1 h2
      exact ⟨g1, by omega, h3.tr' g3⟩
    · exact ⟨h, by dsimp only; omega, hy_F.rf⟩
theorem pa_fill_s {t : hy_T} (h : pa_stk t) (f : Int) : pa_stk (pa_fill t f).1 ∧ (0 ≤ (pa_fill t f).2 ∧ (pa_fill t f).2 ≤ 64) ∧ hy_F pfX t (pa_fill t f).1 := by
  obtain ⟨h1, h2, h3⟩ := pa_push_s h f (w := 0) (by decide)
  obtain ⟨g1, g2, g3⟩ := pa_fillN_s 64 (z := 0) h1 h2
  exact ⟨g1, by unfold pa_fill; omega, h3.tr' g3⟩
def pa_seaN (t : hy_T) : Nat → hy_T
  | 0 => hy_up (hy_up (pa_forgetN t 64) 52 4 0) 52 5 0
  | n + 1 =>
    let t1 := pa_seaN t n
    if t1 53 n ≠ 0 ∧ t1 54 n = 0 then
      (let t2 := hy_up t1 52 4 (t1 52 4 + 1)
       let p := pa_fill t2 n
       hy_up p.1 52 5 (if t2 52 5 < p.2 then p.2 else t2 52 5))
    else t1
theorem pa_stk_F {X : Nat → Nat → Bool} {t t1 : hy_T} (h : hy_F X t t1) (hx : ∀ j, X 56 j = false) (hs : pa_stk t) : pa_stk t1 := fun j hj => by
  rw [h 56 j (hx j)]
  exact hs j hj
theorem pa_forgetN_G (t : hy_T) : ∀ n, hy_F (fun r _ => r == 54 || r == 55) t (pa_forgetN t n)
  | 0 => hy_F.rf
  | n + 1 => ((pa_forgetN_G t n).up rfl).up rfl
theorem pa_sea_s {t : hy_T} (h : pa_stk t) : ∀ n : Nat, pa_stk (pa_seaN t n) ∧ (0 ≤ pa_seaN t n 52 4 ∧ pa_seaN t n 52 4 ≤ n) ∧ hy_F paX t (pa_seaN t n)
  | 0 => ⟨pa_stk_F (X := fun r j => r == 54 || r == 55 || r == 52) (((((pa_forgetN_G t 64).w (fun r j q => by revert q; simp; omega))).up rfl).up rfl) (fun _ => rfl) h, by simp [pa_seaN, hy_up], ((pa_forgetN_F t 64).up rfl).up rfl⟩
  | n + 1 => by
    obtain ⟨h1, h2, h3⟩ := pa_sea_s h n
    simp only [pa_seaN]
    split
    · have h4 : pa_stk (hy_up (pa_seaN t n) 52 4 (pa_seaN t n 52 4 + 1)) := pa_stk_F (X := fun r _ => r == 52) (hy_F.rf.up rfl) (fun _ => rfl) h1
      obtain ⟨g1, g2, g3⟩ := pa_fill_s h4 n
      refine ⟨pa_stk_F (X := fun r _ => r == 52) (hy_F.rf.up rfl) (fun _ => rfl) g1, ?_, ((h3.up rfl).tr' (g3.w (fun r j q => by revert q; simp [paX, pfX]; omega))).up rfl⟩
      rw [show ∀ v, hy_up (pa_fill (hy_up (pa_seaN t n) 52 4 (pa_seaN t n 52 4 + 1)) n).1 52 5 v 52 4 = (pa_fill (hy_up (pa_seaN t n) 52 4 (pa_seaN t n 52 4 + 1)) n).1 52 4 from fun v => by simp [hy_up], g3 52 4 rfl]
      simp [hy_up]
      omega
    · exact ⟨h1, by omega, h3⟩
section PA
variable {sc : List Int32} {t : hy_T}
theorem c_A_mark {f m : Int} (hm : m = 0 ∨ m = 1) : hy_Ct sc hm_A_mark 1 [.inr (some 52), .inl f, .inl m] t (hy_e none (if 0 ≤ f ∧ f < 64 then hy_up t 53 f.toNat m else t)) := by
  refine hy_mk_ct ok_A_mark ck_A_mark (Nat.le_of_ble_eq_true rfl) ?_
  refine hy_iload (i := 0) rfl rfl ?_
  refine hy_const (i := 1) rfl (by decide) ?_
  refine hy_cS2e (i := 2) rfl (by decide) mj_W_isAmong (by decide) rfl (Nat.le_of_ble_eq_true rfl) (c_W_isAmong) ?_
  refine hy_ib_eq (i := 3) (tt := 9) rfl (fun zc1 => ?_) (fun zc1 => ?_)
  · refine hy_return (i := 9) rfl rfl ?_
    exact ⟨rfl, by simp at zc1; split <;> first | rfl | omega⟩
  · refine hy_aload (i := 4) rfl rfl ?_
    refine hy_getr (i := 5) rfl rfl ?_
    refine hy_iload (i := 6) rfl rfl ?_
    refine hy_iload (i := 7) rfl rfl ?_
    refine hy_zast (i := 8) rfl rfl (by simp at zc1; omega) rfl (by assumption) ?_
    refine hy_return (i := 9) rfl rfl ?_
    exact ⟨rfl, by simp at zc1; split <;> first | rfl | omega⟩
theorem c_A_beside {f s : Int} (hf : 0 ≤ f ∧ f < 64) : hy_Ct sc hm_A_beside 0 [.inl f, .inl s] t (hy_e (some (pa_beside f s)) t) := by
  refine hy_mk_ct ok_A_beside ck_A_beside (Nat.le_of_ble_eq_true rfl) ?_
  refine hy_iload (i := 0) rfl rfl ?_
  by_cases zq1 : s = 0
  · refine hy_tsw (i := 1) (tt := 2) rfl (by rw [zq1]; rfl) ?_
    refine hy_iload (i := 2) rfl rfl ?_
    refine hy_const (i := 3) rfl (by decide) ?_
    refine hy_irem (i := 4) rfl (by omega) (by omega) ?_
    refine hy_const (i := 5) rfl (by decide) ?_
    refine hy_ic_ge (i := 6) (tt := 11) rfl (fun zc2 => ?_) (fun zc2 => ?_)
    · refine hy_const (i := 11) rfl (by decide) ?_
      refine hy_ireturn (i := 12) rfl rfl ?_
      exact ⟨congrArg some (by unfold pa_beside; repeat (first | rw [if_pos (by omega)] | rw [if_neg (by omega)])), rfl⟩
    · refine hy_iload (i := 7) rfl rfl ?_
      refine hy_const (i := 8) rfl (by decide) ?_
      refine hy_iadd (i := 9) rfl (by omega) ?_
      refine hy_goto (i := 10) (tt := 12) rfl ?_
      refine hy_ireturn (i := 12) rfl rfl ?_
      exact ⟨congrArg some (by unfold pa_beside; repeat (first | rw [if_pos (by omega)] | rw [if_neg (by omega)])), rfl⟩
  · skip
    by_cases zq1 : s = 1
    · refine hy_tsw (i := 1) (tt := 13) rfl (by rw [zq1]; rfl) ?_
      refine hy_iload (i := 13) rfl rfl ?_
      refine hy_const (i := 14) rfl (by decide) ?_
      refine hy_irem (i := 15) rfl (by omega) (by omega) ?_
      refine hy_if_le (i := 16) (tt := 21) rfl (fun zc2 => ?_) (fun zc2 => ?_)
      · refine hy_const (i := 21) rfl (by decide) ?_
        refine hy_ireturn (i := 22) rfl rfl ?_
        exact ⟨congrArg some (by unfold pa_beside; repeat (first | rw [if_pos (by omega)] | rw [if_neg (by omega)])), rfl⟩
      · refine hy_iload (i := 17) rfl rfl ?_
        refine hy_const (i := 18) rfl (by decide) ?_
        refine hy_isub (i := 19) rfl (by omega) ?_
        refine hy_goto (i := 20) (tt := 22) rfl ?_
        refine hy_ireturn (i := 22) rfl rfl ?_
        exact ⟨congrArg some (by unfold pa_beside; repeat (first | rw [if_pos (by omega)] | rw [if_neg (by omega)])), rfl⟩
    · skip
      by_cases zq1 : s = 2
      · refine hy_tsw (i := 1) (tt := 23) rfl (by rw [zq1]; rfl) ?_
        refine hy_iload (i := 23) rfl rfl ?_
        refine hy_const (i := 24) rfl (by decide) ?_
        refine hy_iadd (i := 25) rfl (by omega) ?_
        refine hy_const (i := 26) rfl (by decide) ?_
        refine hy_ic_ge (i := 27) (tt := 32) rfl (fun zc2 => ?_) (fun zc2 => ?_)
        · refine hy_const (i := 32) rfl (by decide) ?_
          refine hy_ireturn (i := 33) rfl rfl ?_
          exact ⟨congrArg some (by unfold pa_beside; repeat (first | rw [if_pos (by omega)] | rw [if_neg (by omega)])), rfl⟩
        · refine hy_iload (i := 28) rfl rfl ?_
          refine hy_const (i := 29) rfl (by decide) ?_
          refine hy_iadd (i := 30) rfl (by omega) ?_
          refine hy_goto (i := 31) (tt := 33) rfl ?_
          refine hy_ireturn (i := 33) rfl rfl ?_
          exact ⟨congrArg some (by unfold pa_beside; repeat (first | rw [if_pos (by omega)] | rw [if_neg (by omega)])), rfl⟩
      · skip
        refine hy_tsw (i := 1) (tt := 34) rfl (by rcases (show s < 0 ∨ 2 < s by omega) with hh | hh <;> first | (rw [if_pos (by omega)]; rfl) | (rw [hh]; rfl)) ?_
        refine hy_iload (i := 34) rfl rfl ?_
        refine hy_const (i := 35) rfl (by decide) ?_
        refine hy_ic_lt (i := 36) (tt := 41) rfl (fun zc1 => ?_) (fun zc1 => ?_)
        · refine hy_const (i := 41) rfl (by decide) ?_
          refine hy_ireturn (i := 42) rfl rfl ?_
          exact ⟨congrArg some (by unfold pa_beside; repeat (first | rw [if_pos (by omega)] | rw [if_neg (by omega)])), rfl⟩
        · refine hy_iload (i := 37) rfl rfl ?_
          refine hy_const (i := 38) rfl (by decide) ?_
          refine hy_isub (i := 39) rfl (by omega) ?_
          refine hy_goto (i := 40) (tt := 42) rfl ?_
          refine hy_ireturn (i := 42) rfl rfl ?_
          exact ⟨congrArg some (by unfold pa_beside; repeat (first | rw [if_pos (by omega)] | rw [if_neg (by omega)])), rfl⟩
theorem c_A_forget : hy_Ct sc hm_A_forget 0 [.inr (some 52)] t (hy_e none (pa_forgetN t 64)) := by
  refine hy_mk_ct ok_A_forget ck_A_forget (Nat.le_of_ble_eq_true rfl) ?_
  have loop : ∀ (n : Nat), ∀ (k : Nat), n + k = 64 → hy_W sc hm_A_forget 0 2 [.inr (some 52), .inl (k : Int)] [] (pa_forgetN t k) (hy_e none (pa_forgetN t 64)) := by
    intro n
    induction n with
    | zero =>
      intro k hn
      obtain rfl : k = 64 := by omega
      refine hy_iload (i := 2) rfl rfl ?_
      refine hy_const (i := 3) rfl (by decide) ?_
      refine hy_ic_ge (i := 4) (tt := 17) rfl (fun zc1 => ?_) (fun zc1 => ?_)
      · refine hy_return (i := 17) rfl rfl ?_
        exact ⟨rfl, rfl⟩
      · omega
    | succ n ih =>
      intro k hn
      refine hy_iload (i := 2) rfl rfl ?_
      refine hy_const (i := 3) rfl (by decide) ?_
      refine hy_ic_ge (i := 4) (tt := 17) rfl (fun zc1 => ?_) (fun zc1 => ?_)
      · omega
      · refine hy_aload (i := 5) rfl rfl ?_
        refine hy_getr (i := 6) rfl rfl ?_
        refine hy_iload (i := 7) rfl rfl ?_
        refine hy_const (i := 8) rfl (by decide) ?_
        refine hy_zast (i := 9) rfl rfl (by omega) rfl (by first | omega | decide) ?_
        refine hy_aload (i := 10) rfl rfl ?_
        refine hy_getr (i := 11) rfl rfl ?_
        refine hy_iload (i := 12) rfl rfl ?_
        refine hy_const (i := 13) rfl (by decide) ?_
        refine hy_iast (i := 14) rfl rfl (by omega) rfl ?_
        refine hy_iinc (i := 15) rfl rfl (by first | omega | decide) ?_
        refine hy_goto (i := 16) (tt := 2) rfl ?_
        exact ih (k + 1) (by omega)
  refine hy_const (i := 0) rfl (by decide) ?_
  refine hy_istore (i := 1) rfl ?_
  exact loop 64 0 rfl
theorem c_A_nearest : hy_Ct sc hm_A_nearest 0 [.inr (some 52)] t (hy_e (some (pa_nearN t 64)) t) := by
  refine hy_mk_ct ok_A_nearest ck_A_nearest (Nat.le_of_ble_eq_true rfl) ?_
  have loop : ∀ (n : Nat), ∀ (k : Nat) (z : Int), n + k = 64 → z = pa_nearN t k → hy_W sc hm_A_nearest 0 4 [.inr (some 52), .inl z, .inl (k : Int)] [] t (hy_e (some (pa_nearN t 64)) t) := by
    intro n
    induction n with
    | zero =>
      intro k z hn hz
      obtain rfl : k = 64 := by omega
      refine hy_iload (i := 4) rfl rfl ?_
      refine hy_const (i := 5) rfl (by decide) ?_
      refine hy_ic_ge (i := 6) (tt := 27) rfl (fun zc1 => ?_) (fun zc1 => ?_)
      · refine hy_iload (i := 27) rfl rfl ?_
        refine hy_ireturn (i := 28) rfl rfl ?_
        exact ⟨congrArg some hz, rfl⟩
      · omega
    | succ n ih =>
      intro k z hn hz
      have hb := pa_near_in t k
      rw [← hz] at hb
      refine hy_iload (i := 4) rfl rfl ?_
      refine hy_const (i := 5) rfl (by decide) ?_
      refine hy_ic_ge (i := 6) (tt := 27) rfl (fun zc1 => ?_) (fun zc1 => ?_)
      · omega
      · refine hy_aload (i := 7) rfl rfl ?_
        refine hy_getr (i := 8) rfl rfl ?_
        refine hy_iload (i := 9) rfl rfl ?_
        refine hy_bald (i := 10) rfl rfl (by decide) (by omega) rfl ?_
        refine hy_if_ne (i := 11) (tt := 25) rfl (fun zc2 => ?_) (fun zc2 => ?_)
        · refine hy_iinc (i := 25) rfl rfl (by omega) ?_
          refine hy_goto (i := 26) (tt := 4) rfl ?_
          refine ih (k + 1) _ (by omega) ?_
          simp only [pa_nearN]
          rw [← hz]
          first | (rw [if_pos (show t 54 k = 0 ∧ (z < 0 ∨ t 55 k < t 55 z.toNat) from ⟨by first | assumption | exact Decidable.not_not.mp (by assumption), by first | exact Or.inl (by omega) | exact Or.inr (Int.not_le.mp (by assumption))⟩)]; done) | (rw [if_neg (show ¬ (t 54 k = 0 ∧ (z < 0 ∨ t 55 k < t 55 z.toNat)) from fun q => by first | exact absurd q.1 (by assumption) | (rcases q.2 with q2 | q2; omega; exact absurd q2 (Int.not_lt.mpr (by assumption))))]; done)
        · refine hy_iload (i := 12) rfl rfl ?_
          refine hy_if_lt (i := 13) (tt := 23) rfl (fun zc3 => ?_) (fun zc3 => ?_)
          · refine hy_iload (i := 23) rfl rfl ?_
            refine hy_istore (i := 24) rfl ?_
            refine hy_iinc (i := 25) rfl rfl (by omega) ?_
            refine hy_goto (i := 26) (tt := 4) rfl ?_
            refine ih (k + 1) _ (by omega) ?_
            simp only [pa_nearN]
            rw [← hz]
            first | (rw [if_pos (show t 54 k = 0 ∧ (z < 0 ∨ t 55 k < t 55 z.toNat) from ⟨by first | assumption | exact Decidable.not_not.mp (by assumption), by first | exact Or.inl (by omega) | exact Or.inr (Int.not_le.mp (by assumption))⟩)]; done) | (rw [if_neg (show ¬ (t 54 k = 0 ∧ (z < 0 ∨ t 55 k < t 55 z.toNat)) from fun q => by first | exact absurd q.1 (by assumption) | (rcases q.2 with q2 | q2; omega; exact absurd q2 (Int.not_lt.mpr (by assumption))))]; done)
          · refine hy_aload (i := 14) rfl rfl ?_
            refine hy_getr (i := 15) rfl rfl ?_
            refine hy_iload (i := 16) rfl rfl ?_
            refine hy_iald (i := 17) rfl rfl (by omega) rfl ?_
            refine hy_aload (i := 18) rfl rfl ?_
            refine hy_getr (i := 19) rfl rfl ?_
            refine hy_iload (i := 20) rfl rfl ?_
            refine hy_iald (i := 21) rfl rfl (by omega) rfl ?_
            refine hy_ic_ge (i := 22) (tt := 25) rfl (fun zc4 => ?_) (fun zc4 => ?_)
            · refine hy_iinc (i := 25) rfl rfl (by omega) ?_
              refine hy_goto (i := 26) (tt := 4) rfl ?_
              refine ih (k + 1) _ (by omega) ?_
              simp only [pa_nearN]
              rw [← hz]
              first | (rw [if_pos (show t 54 k = 0 ∧ (z < 0 ∨ t 55 k < t 55 z.toNat) from ⟨by first | assumption | exact Decidable.not_not.mp (by assumption), by first | exact Or.inl (by omega) | exact Or.inr (Int.not_le.mp (by assumption))⟩)]; done) | (rw [if_neg (show ¬ (t 54 k = 0 ∧ (z < 0 ∨ t 55 k < t 55 z.toNat)) from fun q => by first | exact absurd q.1 (by assumption) | (rcases q.2 with q2 | q2; omega; exact absurd q2 (Int.not_lt.mpr (by assumption))))]; done)
            · refine hy_iload (i := 23) rfl rfl ?_
              refine hy_istore (i := 24) rfl ?_
              refine hy_iinc (i := 25) rfl rfl (by omega) ?_
              refine hy_goto (i := 26) (tt := 4) rfl ?_
              refine ih (k + 1) _ (by omega) ?_
              simp only [pa_nearN]
              rw [← hz]
              first | (rw [if_pos (show t 54 k = 0 ∧ (z < 0 ∨ t 55 k < t 55 z.toNat) from ⟨by first | assumption | exact Decidable.not_not.mp (by assumption), by first | exact Or.inl (by omega) | exact Or.inr (Int.not_le.mp (by assumption))⟩)]; done) | (rw [if_neg (show ¬ (t 54 k = 0 ∧ (z < 0 ∨ t 55 k < t 55 z.toNat)) from fun q => by first | exact absurd q.1 (by assumption) | (rcases q.2 with q2 | q2; omega; exact absurd q2 (Int.not_lt.mpr (by assumption))))]; done)
  refine hy_const (i := 0) rfl (by decide) ?_
  refine hy_istore (i := 1) rfl ?_
  refine hy_const (i := 2) rfl (by decide) ?_
  refine hy_istore (i := 3) rfl ?_
  exact loop 64 0 _ rfl rfl
theorem c_A_leave {f : Int} (hi : pa_inv t) : hy_Ct sc hm_A_leave 1 [.inr (some 52), .inl f] t (hy_e none (pa_leave t f)) := by
  refine hy_mk_ct ok_A_leave ck_A_leave (Nat.le_of_ble_eq_true rfl) ?_
  have loop : 0 ≤ f ∧ f < 64 → ∀ (n : Nat), ∀ (k : Nat) (w : hy_V) (t1 : hy_T), n + k = 4 → t1 = pa_leaveN t f k → hy_W sc hm_A_leave 1 12 [.inr (some 52), .inl f, .inl (k : Int), w] [] t1 (hy_e none (pa_leave t f)) := by
    intro hf n
    induction n with
    | zero =>
      intro k w t1 hn ht
      obtain rfl : k = 4 := by omega
      refine hy_iload (i := 12) rfl rfl ?_
      refine hy_const (i := 13) rfl (by decide) ?_
      refine hy_ic_ge (i := 14) (tt := 47) rfl (fun zc1 => ?_) (fun zc1 => ?_)
      · refine hy_return (i := 47) rfl rfl ?_
        exact ⟨rfl, by unfold pa_leave; rw [if_pos hf]; exact ht⟩
      · omega
    | succ n ih =>
      intro k w t1 hn ht
      have hv := pa_leaveN_inv hi hf k
      rw [← ht] at hv
      have hg := pa_beside_in hf k
      have hx := hv f.toNat (by omega)
      refine hy_iload (i := 12) rfl rfl ?_
      refine hy_const (i := 13) rfl (by decide) ?_
      refine hy_ic_ge (i := 14) (tt := 47) rfl (fun zc1 => ?_) (fun zc1 => ?_)
      · omega
      · refine hy_iload (i := 15) rfl rfl ?_
        refine hy_iload (i := 16) rfl rfl ?_
        refine hy_cS2e (i := 17) rfl (by decide) mj_A_beside (by decide) rfl (Nat.le_of_ble_eq_true rfl) (c_A_beside (by omega)) ?_
        refine hy_istore (i := 18) rfl ?_
        refine hy_iload (i := 19) rfl rfl ?_
        refine hy_if_lt (i := 20) (tt := 45) rfl (fun zc2 => ?_) (fun zc2 => ?_)
        · refine hy_iinc (i := 45) rfl rfl (by omega) ?_
          refine hy_goto (i := 46) (tt := 12) rfl ?_
          refine ih (k + 1) _ _ (by omega) ?_
          simp only [pa_leaveN]
          rw [← ht]
          first | (rw [if_neg (show ¬ 0 ≤ pa_beside f k by omega)]; done) | (rw [if_pos (show 0 ≤ pa_beside f k by omega)]; unfold pa_cost; first | (rw [if_pos (show t1 53 (pa_beside f k).toNat = 0 by assumption)]; done) | (rw [if_neg (show ¬ t1 53 (pa_beside f k).toNat = 0 by assumption)]; done))
        · refine hy_aload (i := 21) rfl rfl ?_
          refine hy_getr (i := 22) rfl rfl ?_
          refine hy_iload (i := 23) rfl rfl ?_
          refine hy_aload (i := 24) rfl rfl ?_
          refine hy_getr (i := 25) rfl rfl ?_
          refine hy_iload (i := 26) rfl rfl ?_
          refine hy_iald (i := 27) rfl rfl (by omega) rfl ?_
          refine hy_aload (i := 28) rfl rfl ?_
          refine hy_getr (i := 29) rfl rfl ?_
          refine hy_iload (i := 30) rfl rfl ?_
          refine hy_iald (i := 31) rfl rfl (by omega) rfl ?_
          refine hy_const (i := 32) rfl (by decide) ?_
          refine hy_iadd (i := 33) rfl (by omega) ?_
          refine hy_aload (i := 34) rfl rfl ?_
          refine hy_getr (i := 35) rfl rfl ?_
          refine hy_iload (i := 36) rfl rfl ?_
          refine hy_bald (i := 37) rfl rfl (by decide) (by omega) rfl ?_
          refine hy_if_eq (i := 38) (tt := 41) rfl (fun zc3 => ?_) (fun zc3 => ?_)
          · refine hy_const (i := 41) rfl (by decide) ?_
            refine hy_iadd (i := 42) rfl (by omega) ?_
            refine hy_min (i := 43) rfl (Nat.le_of_ble_eq_true rfl) ?_
            refine hy_iast (i := 44) rfl rfl (by omega) rfl ?_
            refine hy_iinc (i := 45) rfl rfl (by omega) ?_
            refine hy_goto (i := 46) (tt := 12) rfl ?_
            refine ih (k + 1) _ _ (by omega) ?_
            simp only [pa_leaveN]
            rw [← ht]
            first | (rw [if_neg (show ¬ 0 ≤ pa_beside f k by omega)]; done) | (rw [if_pos (show 0 ≤ pa_beside f k by omega)]; unfold pa_cost; first | (rw [if_pos (show t1 53 (pa_beside f k).toNat = 0 by assumption)]; done) | (rw [if_neg (show ¬ t1 53 (pa_beside f k).toNat = 0 by assumption)]; done))
          · refine hy_const (i := 39) rfl (by decide) ?_
            refine hy_goto (i := 40) (tt := 42) rfl ?_
            refine hy_iadd (i := 42) rfl (by omega) ?_
            refine hy_min (i := 43) rfl (Nat.le_of_ble_eq_true rfl) ?_
            refine hy_iast (i := 44) rfl rfl (by omega) rfl ?_
            refine hy_iinc (i := 45) rfl rfl (by omega) ?_
            refine hy_goto (i := 46) (tt := 12) rfl ?_
            refine ih (k + 1) _ _ (by omega) ?_
            simp only [pa_leaveN]
            rw [← ht]
            first | (rw [if_neg (show ¬ 0 ≤ pa_beside f k by omega)]; done) | (rw [if_pos (show 0 ≤ pa_beside f k by omega)]; unfold pa_cost; first | (rw [if_pos (show t1 53 (pa_beside f k).toNat = 0 by assumption)]; done) | (rw [if_neg (show ¬ t1 53 (pa_beside f k).toNat = 0 by assumption)]; done))
  refine hy_iload (i := 0) rfl rfl ?_
  refine hy_const (i := 1) rfl (by decide) ?_
  refine hy_cS2e (i := 2) rfl (by decide) mj_W_isAmong (by decide) rfl (Nat.le_of_ble_eq_true rfl) (c_W_isAmong) ?_
  refine hy_ib_ne (i := 3) (tt := 5) rfl (fun zc1 => ?_) (fun zc1 => ?_)
  · refine hy_aload (i := 5) rfl rfl ?_
    refine hy_getr (i := 6) rfl rfl ?_
    refine hy_iload (i := 7) rfl rfl ?_
    refine hy_const (i := 8) rfl (by decide) ?_
    refine hy_zast (i := 9) rfl rfl (by simp at zc1; omega) rfl (by omega) ?_
    refine hy_const (i := 10) rfl (by decide) ?_
    refine hy_istore (i := 11) rfl ?_
    exact loop (by simp at zc1; omega) 4 0 _ _ rfl rfl
  · refine hy_return (i := 4) rfl rfl ?_
    exact ⟨rfl, by unfold pa_leave; rw [if_neg (by simp at zc1; omega)]⟩
theorem c_A_search {a : Int} : hy_Ct sc hm_A_search 2 [.inr (some 52), .inl a] t (hy_e none (pa_searchN (pa_search0 t a) 64)) := by
  refine hy_mk_ct ok_A_search ck_A_search (Nat.le_of_ble_eq_true rfl) ?_
  have loop : ∀ (n : Nat), ∀ (k : Nat) (t1 : hy_T), n + k = 64 → t1 = pa_searchN (pa_search0 t a) k → hy_W sc hm_A_search 2 13 [.inr (some 52), .inl a, .inl (k : Int)] [] t1 (hy_e none (pa_searchN (pa_search0 t a) 64)) := by
    intro n
    induction n with
    | zero =>
      intro k t1 hn ht
      obtain rfl : k = 64 := by omega
      refine hy_iload (i := 13) rfl rfl ?_
      refine hy_const (i := 14) rfl (by decide) ?_
      refine hy_ic_ge (i := 15) (tt := 22) rfl (fun zc1 => ?_) (fun zc1 => ?_)
      · refine hy_return (i := 22) rfl rfl ?_
        exact ⟨rfl, ht⟩
      · omega
    | succ n ih =>
      intro k t1 hn ht
      have hv : pa_inv t1 := by rw [ht]; exact pa_searchN_inv (pa_search0_inv t a) k
      refine hy_iload (i := 13) rfl rfl ?_
      refine hy_const (i := 14) rfl (by decide) ?_
      refine hy_ic_ge (i := 15) (tt := 22) rfl (fun zc1 => ?_) (fun zc1 => ?_)
      · omega
      · refine hy_aload (i := 16) rfl rfl ?_
        refine hy_aload (i := 17) rfl rfl ?_
        refine hy_cV0e (i := 18) rfl mj_A_nearest (by decide) rfl (Nat.le_of_ble_eq_true rfl) rfl rfl rfl (c_A_nearest) ?_
        refine hy_cV1v (i := 19) rfl mj_A_leave (by decide) rfl (Nat.le_of_ble_eq_true rfl) rfl rfl rfl (c_A_leave (by assumption)) ?_
        refine hy_iinc (i := 20) rfl rfl (by omega) ?_
        refine hy_goto (i := 21) (tt := 13) rfl ?_
        exact ih (k + 1) _ (by omega) (by subst ht; rfl)
  refine hy_aload (i := 0) rfl rfl ?_
  refine hy_cV0v (i := 1) rfl mj_A_forget (by decide) rfl (Nat.le_of_ble_eq_true rfl) rfl rfl rfl (c_A_forget) ?_
  refine hy_iload (i := 2) rfl rfl ?_
  refine hy_const (i := 3) rfl (by decide) ?_
  refine hy_cS2e (i := 4) rfl (by decide) mj_W_isAmong (by decide) rfl (Nat.le_of_ble_eq_true rfl) (c_W_isAmong) ?_
  refine hy_ib_eq (i := 5) (tt := 11) rfl (fun zc1 => ?_) (fun zc1 => ?_)
  · refine hy_const (i := 11) rfl (by decide) ?_
    refine hy_istore (i := 12) rfl ?_
    exact loop 64 0 _ rfl (by simp at zc1; show _ = pa_search0 t a; unfold pa_search0; first | (rw [if_pos (by omega)]; done) | (rw [if_neg (by omega)]; done))
  · refine hy_aload (i := 6) rfl rfl ?_
    refine hy_getr (i := 7) rfl rfl ?_
    refine hy_iload (i := 8) rfl rfl ?_
    refine hy_const (i := 9) rfl (by decide) ?_
    refine hy_iast (i := 10) rfl rfl (by simp at zc1; omega) rfl ?_
    refine hy_const (i := 11) rfl (by decide) ?_
    refine hy_istore (i := 12) rfl ?_
    exact loop 64 0 _ rfl (by simp at zc1; show _ = pa_search0 t a; unfold pa_search0; first | (rw [if_pos (by omega)]; done) | (rw [if_neg (by omega)]; done))
theorem c_A_push {f w : Int} : hy_Ct sc hm_A_push 1 [.inr (some 52), .inl f, .inl w] t (hy_e (some (pa_push t f w).2) (pa_push t f w).1) := by
  refine hy_mk_ct ok_A_push ck_A_push (Nat.le_of_ble_eq_true rfl) ?_
  refine hy_iload (i := 0) rfl rfl ?_
  refine hy_if_lt (i := 1) (tt := 9) rfl (fun zc1 => ?_) (fun zc1 => ?_)
  · refine hy_iload (i := 9) rfl rfl ?_
    refine hy_ireturn (i := 10) rfl rfl ?_
    refine ⟨?_, ?_⟩
    all_goals (unfold pa_push; first | (rw [if_neg (by omega)]; done) | (simp at zc3; rw [if_neg (by omega)]; done) | (simp at zc3; rw [if_pos (by omega)]; done))
  · refine hy_iload (i := 2) rfl rfl ?_
    refine hy_const (i := 3) rfl (by decide) ?_
    refine hy_ic_ge (i := 4) (tt := 9) rfl (fun zc2 => ?_) (fun zc2 => ?_)
    · refine hy_iload (i := 9) rfl rfl ?_
      refine hy_ireturn (i := 10) rfl rfl ?_
      refine ⟨?_, ?_⟩
      all_goals (unfold pa_push; first | (rw [if_neg (by omega)]; done) | (simp at zc3; rw [if_neg (by omega)]; done) | (simp at zc3; rw [if_pos (by omega)]; done))
    · refine hy_iload (i := 5) rfl rfl ?_
      refine hy_const (i := 6) rfl (by decide) ?_
      refine hy_cS2e (i := 7) rfl (by decide) mj_W_isAmong (by decide) rfl (Nat.le_of_ble_eq_true rfl) (c_W_isAmong) ?_
      refine hy_ib_ne (i := 8) (tt := 11) rfl (fun zc3 => ?_) (fun zc3 => ?_)
      · refine hy_aload (i := 11) rfl rfl ?_
        refine hy_getr (i := 12) rfl rfl ?_
        refine hy_iload (i := 13) rfl rfl ?_
        refine hy_const (i := 14) rfl (by decide) ?_
        refine hy_zast (i := 15) rfl rfl (by simp at zc3; omega) rfl (by omega) ?_
        refine hy_aload (i := 16) rfl rfl ?_
        refine hy_getr (i := 17) rfl rfl ?_
        refine hy_iload (i := 18) rfl rfl ?_
        refine hy_iload (i := 19) rfl rfl ?_
        refine hy_iast (i := 20) rfl rfl (by simp at zc3; omega) rfl ?_
        refine hy_iload (i := 21) rfl rfl ?_
        refine hy_const (i := 22) rfl (by decide) ?_
        refine hy_iadd (i := 23) rfl (by omega) ?_
        refine hy_ireturn (i := 24) rfl rfl ?_
        refine ⟨?_, ?_⟩
        all_goals (unfold pa_push; first | (rw [if_neg (by omega)]; done) | (simp at zc3; rw [if_neg (by omega)]; done) | (simp at zc3; rw [if_pos (by omega)]; done))
      · refine hy_iload (i := 9) rfl rfl ?_
        refine hy_ireturn (i := 10) rfl rfl ?_
        refine ⟨?_, ?_⟩
        all_goals (unfold pa_push; first | (rw [if_neg (by omega)]; done) | (simp at zc3; rw [if_neg (by omega)]; done) | (simp at zc3; rw [if_pos (by omega)]; done))
theorem c_A_fill {f : Int} (hs : pa_stk t) : hy_Ct sc hm_A_fill 2 [.inr (some 52), .inl f] t (hy_e (some (pa_fill t f).2) (pa_fill t f).1) := by
  refine hy_mk_ct ok_A_fill ck_A_fill (Nat.le_of_ble_eq_true rfl) ?_
  have loop : ∀ (n : Nat), ∀ (k : Nat) (z w : Int) (t1 : hy_T) (v5 v6 v7 : hy_V), n + k = 64 → pa_stk t1 → (0 ≤ w ∧ w ≤ 64) → (0 ≤ z ∧ z ≤ k) → hy_W sc hm_A_fill 2 9 [.inr (some 52), .inl f, .inl z, .inl w, .inl (k : Int), v5, v6, v7] [] t1 (hy_e (some (pa_fillN n t1 w z).2) (pa_fillN n t1 w z).1) := by
    intro n
    induction n with
    | zero =>
      intro k z w t1 v5 v6 v7 hn h1 hw hz
      obtain rfl : k = 64 := by omega
      refine hy_iload (i := 9) rfl rfl ?_
      refine hy_const (i := 10) rfl (by decide) ?_
      refine hy_ic_ge (i := 11) (tt := 51) rfl (fun zc1 => ?_) (fun zc1 => ?_)
      · refine hy_iload (i := 51) rfl rfl ?_
        refine hy_ireturn (i := 52) rfl rfl ?_
        exact ⟨rfl, rfl⟩
      · omega
    | succ n ih =>
      intro k z w t1 v5 v6 v7 hn h1 hw hz
      have inner : 0 < w → ∀ (m : Nat), ∀ (j : Nat) (p : hy_T × Int) (v7 : hy_V), m + j = 4 → p = pa_side t1 (t1 56 (w - 1).toNat) (w - 1) j → hy_W sc hm_A_fill 2 23 [.inr (some 52), .inl f, .inl (z + 1), .inl p.2, .inl (k : Int), .inl (t1 56 (w - 1).toNat), .inl (j : Int), v7] [] p.1 (hy_e (some (pa_fillN (n + 1) t1 w z).2) (pa_fillN (n + 1) t1 w z).1) := by
        intro hw0 m
        have hf := h1 (w - 1).toNat (by omega)
        induction m with
        | zero =>
          intro j p v7 hm hp
          obtain rfl : j = 4 := by omega
          have e := pa_side_s h1 (t1 56 (w - 1).toNat) (w := w - 1) (by omega) 4
          rw [← hp] at e
          have q : pa_fillN (n + 1) t1 w z = pa_fillN n p.1 p.2 (z + 1) := by subst hp; simp only [pa_fillN]; rw [if_pos hw0]
          rw [q]
          refine hy_iload (i := 23) rfl rfl ?_
          refine hy_const (i := 24) rfl (by decide) ?_
          refine hy_ic_ge (i := 25) (tt := 49) rfl (fun zc1 => ?_) (fun zc1 => ?_)
          · refine hy_iinc (i := 49) rfl rfl (by omega) ?_
            refine hy_goto (i := 50) (tt := 9) rfl ?_
            exact ih (k + 1) _ _ _ _ _ _ (by omega) e.1 e.2.1 (by omega)
          · omega
        | succ m ihm =>
          intro j p v7 hm hp
          have e := pa_side_s h1 (t1 56 (w - 1).toNat) (w := w - 1) (by omega) j
          rw [← hp] at e
          have hbs := pa_beside_in hf j
          refine hy_iload (i := 23) rfl rfl ?_
          refine hy_const (i := 24) rfl (by decide) ?_
          refine hy_ic_ge (i := 25) (tt := 49) rfl (fun zc1 => ?_) (fun zc1 => ?_)
          · omega
          · refine hy_iload (i := 26) rfl rfl ?_
            refine hy_iload (i := 27) rfl rfl ?_
            refine hy_cS2e (i := 28) rfl (by decide) mj_A_beside (by decide) rfl (Nat.le_of_ble_eq_true rfl) (c_A_beside (by omega)) ?_
            refine hy_istore (i := 29) rfl ?_
            refine hy_iload (i := 30) rfl rfl ?_
            refine hy_if_lt (i := 31) (tt := 47) rfl (fun zc2 => ?_) (fun zc2 => ?_)
            · refine hy_iinc (i := 47) rfl rfl (by omega) ?_
              refine hy_goto (i := 48) (tt := 23) rfl ?_
              first | exact ihm (j + 1) p _ (by omega) (by simp only [pa_side]; rw [← hp]; rw [if_neg (fun q => by first | omega | exact q.2.1 (by assumption) | exact absurd q.2.2 (by assumption))]) | exact ihm (j + 1) (pa_push p.1 (pa_beside (t1 56 (w - 1).toNat) j) p.2) _ (by omega) (by simp only [pa_side]; rw [← hp]; rw [if_pos ⟨by omega, by assumption, by first | assumption | exact Decidable.not_not.mp (by assumption)⟩])
            · refine hy_aload (i := 32) rfl rfl ?_
              refine hy_getr (i := 33) rfl rfl ?_
              refine hy_iload (i := 34) rfl rfl ?_
              refine hy_bald (i := 35) rfl rfl (by decide) (by omega) rfl ?_
              refine hy_if_eq (i := 36) (tt := 47) rfl (fun zc3 => ?_) (fun zc3 => ?_)
              · refine hy_iinc (i := 47) rfl rfl (by omega) ?_
                refine hy_goto (i := 48) (tt := 23) rfl ?_
                first | exact ihm (j + 1) p _ (by omega) (by simp only [pa_side]; rw [← hp]; rw [if_neg (fun q => by first | omega | exact q.2.1 (by assumption) | exact absurd q.2.2 (by assumption))]) | exact ihm (j + 1) (pa_push p.1 (pa_beside (t1 56 (w - 1).toNat) j) p.2) _ (by omega) (by simp only [pa_side]; rw [← hp]; rw [if_pos ⟨by omega, by assumption, by first | assumption | exact Decidable.not_not.mp (by assumption)⟩])
              · refine hy_aload (i := 37) rfl rfl ?_
                refine hy_getr (i := 38) rfl rfl ?_
                refine hy_iload (i := 39) rfl rfl ?_
                refine hy_bald (i := 40) rfl rfl (by decide) (by omega) rfl ?_
                refine hy_if_ne (i := 41) (tt := 47) rfl (fun zc4 => ?_) (fun zc4 => ?_)
                · refine hy_iinc (i := 47) rfl rfl (by omega) ?_
                  refine hy_goto (i := 48) (tt := 23) rfl ?_
                  first | exact ihm (j + 1) p _ (by omega) (by simp only [pa_side]; rw [← hp]; rw [if_neg (fun q => by first | omega | exact q.2.1 (by assumption) | exact absurd q.2.2 (by assumption))]) | exact ihm (j + 1) (pa_push p.1 (pa_beside (t1 56 (w - 1).toNat) j) p.2) _ (by omega) (by simp only [pa_side]; rw [← hp]; rw [if_pos ⟨by omega, by assumption, by first | assumption | exact Decidable.not_not.mp (by assumption)⟩])
                · refine hy_aload (i := 42) rfl rfl ?_
                  refine hy_iload (i := 43) rfl rfl ?_
                  refine hy_iload (i := 44) rfl rfl ?_
                  refine hy_cV2e (i := 45) rfl mj_A_push (by decide) rfl (Nat.le_of_ble_eq_true rfl) rfl rfl rfl (c_A_push) ?_
                  refine hy_istore (i := 46) rfl ?_
                  refine hy_iinc (i := 47) rfl rfl (by omega) ?_
                  refine hy_goto (i := 48) (tt := 23) rfl ?_
                  first | exact ihm (j + 1) p _ (by omega) (by simp only [pa_side]; rw [← hp]; rw [if_neg (fun q => by first | omega | exact q.2.1 (by assumption) | exact absurd q.2.2 (by assumption))]) | exact ihm (j + 1) (pa_push p.1 (pa_beside (t1 56 (w - 1).toNat) j) p.2) _ (by omega) (by simp only [pa_side]; rw [← hp]; rw [if_pos ⟨by omega, by assumption, by first | assumption | exact Decidable.not_not.mp (by assumption)⟩])
      refine hy_iload (i := 9) rfl rfl ?_
      refine hy_const (i := 10) rfl (by decide) ?_
      refine hy_ic_ge (i := 11) (tt := 51) rfl (fun zc1 => ?_) (fun zc1 => ?_)
      · omega
      · refine hy_iload (i := 12) rfl rfl ?_
        refine hy_if_le (i := 13) (tt := 51) rfl (fun zc2 => ?_) (fun zc2 => ?_)
        · refine hy_iload (i := 51) rfl rfl ?_
          refine hy_ireturn (i := 52) rfl rfl ?_
          have q : pa_fillN (n + 1) t1 w z = (t1, z) := by simp only [pa_fillN]; rw [if_neg (by omega)]
          rw [q]
          exact ⟨rfl, rfl⟩
        · refine hy_iinc (i := 14) rfl rfl (by omega) ?_
          refine hy_aload (i := 15) rfl rfl ?_
          refine hy_getr (i := 16) rfl rfl ?_
          refine hy_iload (i := 17) rfl rfl ?_
          refine hy_iald (i := 18) rfl rfl (by omega) rfl ?_
          refine hy_istore (i := 19) rfl ?_
          refine hy_iinc (i := 20) rfl rfl (by omega) ?_
          refine hy_const (i := 21) rfl (by decide) ?_
          refine hy_istore (i := 22) rfl ?_
          exact inner (by omega) 4 0 (t1, w - 1) _ rfl rfl
  refine hy_const (i := 0) rfl (by decide) ?_
  refine hy_istore (i := 1) rfl ?_
  refine hy_aload (i := 2) rfl rfl ?_
  refine hy_iload (i := 3) rfl rfl ?_
  refine hy_const (i := 4) rfl (by decide) ?_
  refine hy_cV2e (i := 5) rfl mj_A_push (by decide) rfl (Nat.le_of_ble_eq_true rfl) rfl rfl rfl (c_A_push) ?_
  refine hy_istore (i := 6) rfl ?_
  refine hy_const (i := 7) rfl (by decide) ?_
  refine hy_istore (i := 8) rfl ?_
  exact loop 64 0 0 _ _ _ _ _ rfl (pa_push_s hs f (w := 0) (by decide)).1 (pa_push_s hs f (w := 0) (by decide)).2.1 (by decide)
theorem c_A_findSeas (hs : pa_stk t) : hy_Ct sc hm_A_findSeas 3 [.inr (some 52)] t (hy_e none (pa_seaN t 64)) := by
  refine hy_mk_ct ok_A_findSeas ck_A_findSeas (Nat.le_of_ble_eq_true rfl) ?_
  have loop : ∀ (n : Nat), ∀ (k : Nat) (t1 : hy_T), n + k = 64 → t1 = pa_seaN t k → hy_W sc hm_A_findSeas 3 10 [.inr (some 52), .inl (k : Int)] [] t1 (hy_e none (pa_seaN t 64)) := by
    intro n
    induction n with
    | zero =>
      intro k t1 hn ht
      obtain rfl : k = 64 := by omega
      refine hy_iload (i := 10) rfl rfl ?_
      refine hy_const (i := 11) rfl (by decide) ?_
      refine hy_ic_ge (i := 12) (tt := 39) rfl (fun zc1 => ?_) (fun zc1 => ?_)
      · refine hy_return (i := 39) rfl rfl ?_
        exact ⟨rfl, ht⟩
      · omega
    | succ n ih =>
      intro k t1 hn ht
      have e := pa_sea_s hs k
      rw [← ht] at e
      have h4 : pa_stk (hy_up t1 52 4 (t1 52 4 + 1)) := pa_stk_F (X := fun r _ => r == 52) (hy_F.rf.up rfl) (fun _ => rfl) e.1
      refine hy_iload (i := 10) rfl rfl ?_
      refine hy_const (i := 11) rfl (by decide) ?_
      refine hy_ic_ge (i := 12) (tt := 39) rfl (fun zc1 => ?_) (fun zc1 => ?_)
      · omega
      · refine hy_aload (i := 13) rfl rfl ?_
        refine hy_getr (i := 14) rfl rfl ?_
        refine hy_iload (i := 15) rfl rfl ?_
        refine hy_bald (i := 16) rfl rfl (by decide) (by omega) rfl ?_
        refine hy_if_eq (i := 17) (tt := 37) rfl (fun zc2 => ?_) (fun zc2 => ?_)
        · refine hy_iinc (i := 37) rfl rfl (by omega) ?_
          refine hy_goto (i := 38) (tt := 10) rfl ?_
          refine ih (k + 1) _ (by omega) ?_
          simp only [pa_seaN]
          rw [← ht]
          first | (rw [if_neg (show ¬ (t1 53 k ≠ 0 ∧ t1 54 k = 0) from fun q => by first | exact q.1 (by assumption) | exact absurd q.2 (by assumption))]; done) | (rw [if_pos (show t1 53 k ≠ 0 ∧ t1 54 k = 0 from ⟨by assumption, by first | assumption | exact Decidable.not_not.mp (by assumption)⟩)] <;> first | (rw [if_pos (by assumption)]; done) | (rw [if_neg (by assumption)]; done) | (split <;> first | rfl | (exfalso; omega)))
        · refine hy_aload (i := 18) rfl rfl ?_
          refine hy_getr (i := 19) rfl rfl ?_
          refine hy_iload (i := 20) rfl rfl ?_
          refine hy_bald (i := 21) rfl rfl (by decide) (by omega) rfl ?_
          refine hy_if_ne (i := 22) (tt := 37) rfl (fun zc3 => ?_) (fun zc3 => ?_)
          · refine hy_iinc (i := 37) rfl rfl (by omega) ?_
            refine hy_goto (i := 38) (tt := 10) rfl ?_
            refine ih (k + 1) _ (by omega) ?_
            simp only [pa_seaN]
            rw [← ht]
            first | (rw [if_neg (show ¬ (t1 53 k ≠ 0 ∧ t1 54 k = 0) from fun q => by first | exact q.1 (by assumption) | exact absurd q.2 (by assumption))]; done) | (rw [if_pos (show t1 53 k ≠ 0 ∧ t1 54 k = 0 from ⟨by assumption, by first | assumption | exact Decidable.not_not.mp (by assumption)⟩)] <;> first | (rw [if_pos (by assumption)]; done) | (rw [if_neg (by assumption)]; done) | (split <;> first | rfl | (exfalso; omega)))
          · refine hy_aload (i := 23) rfl rfl ?_
            refine hy_dup (i := 24) rfl ?_
            refine hy_get (i := 25) (fk := 4) rfl rfl rfl ?_
            refine hy_const (i := 26) rfl (by decide) ?_
            refine hy_iadd (i := 27) rfl (by omega) ?_
            refine hy_put (i := 28) (fk := 4) rfl rfl rfl rfl ?_
            refine hy_aload (i := 29) rfl rfl ?_
            refine hy_aload (i := 30) rfl rfl ?_
            refine hy_get (i := 31) (fk := 5) rfl rfl rfl ?_
            refine hy_aload (i := 32) rfl rfl ?_
            refine hy_iload (i := 33) rfl rfl ?_
            refine hy_cV1e (i := 34) rfl mj_A_fill (by decide) rfl (Nat.le_of_ble_eq_true rfl) rfl rfl rfl (c_A_fill (by assumption)) ?_
            refine hy_max (i := 35) rfl (Nat.le_of_ble_eq_true rfl) ?_
            refine hy_put (i := 36) (fk := 5) rfl rfl rfl rfl ?_
            refine hy_iinc (i := 37) rfl rfl (by omega) ?_
            refine hy_goto (i := 38) (tt := 10) rfl ?_
            refine ih (k + 1) _ (by omega) ?_
            simp only [pa_seaN]
            rw [← ht]
            first | (rw [if_neg (show ¬ (t1 53 k ≠ 0 ∧ t1 54 k = 0) from fun q => by first | exact q.1 (by assumption) | exact absurd q.2 (by assumption))]; done) | (rw [if_pos (show t1 53 k ≠ 0 ∧ t1 54 k = 0 from ⟨by assumption, by first | assumption | exact Decidable.not_not.mp (by assumption)⟩)] <;> first | (rw [if_pos (by assumption)]; done) | (rw [if_neg (by assumption)]; done) | (split <;> first | rfl | (exfalso; omega)))
  refine hy_aload (i := 0) rfl rfl ?_
  refine hy_cV0v (i := 1) rfl mj_A_forget (by decide) rfl (Nat.le_of_ble_eq_true rfl) rfl rfl rfl (c_A_forget) ?_
  refine hy_aload (i := 2) rfl rfl ?_
  refine hy_const (i := 3) rfl (by decide) ?_
  refine hy_put (i := 4) (fk := 4) rfl rfl rfl rfl ?_
  refine hy_aload (i := 5) rfl rfl ?_
  refine hy_const (i := 6) rfl (by decide) ?_
  refine hy_put (i := 7) (fk := 5) rfl rfl rfl rfl ?_
  refine hy_const (i := 8) rfl (by decide) ?_
  refine hy_istore (i := 9) rfl ?_
  exact loop 64 0 _ rfl rfl
theorem c_A_watchedTo {f : Int} (hi : pa_inv t) : hy_Ct sc hm_A_watchedTo 1 [.inr (some 52), .inl f] t (hy_e (some (if 0 ≤ f ∧ f < 64 then t 55 f.toNat / 100 else 0)) t) := by
  refine hy_mk_ct ok_A_watchedTo ck_A_watchedTo (Nat.le_of_ble_eq_true rfl) ?_
  by_cases hf : 0 ≤ f ∧ f < 64
  · have hv := hi f.toNat (by omega)
    rw [if_pos hf]
    refine hy_iload (i := 0) rfl rfl ?_
    refine hy_const (i := 1) rfl (by decide) ?_
    refine hy_cS2e (i := 2) rfl (by decide) mj_W_isAmong (by decide) rfl (Nat.le_of_ble_eq_true rfl) (c_W_isAmong) ?_
    refine hy_ib_eq (i := 3) (tt := 11) rfl (fun zc1 => ?_) (fun zc1 => ?_)
    · simp at zc1; omega
    · refine hy_aload (i := 4) rfl rfl ?_
      refine hy_getr (i := 5) rfl rfl ?_
      refine hy_iload (i := 6) rfl rfl ?_
      refine hy_iald (i := 7) rfl rfl (by omega) rfl ?_
      refine hy_const (i := 8) rfl (by decide) ?_
      refine hy_idiv (i := 9) rfl (by omega) (by omega) ?_
      refine hy_goto (i := 10) (tt := 12) rfl ?_
      refine hy_ireturn (i := 12) rfl rfl ?_
      exact ⟨rfl, rfl⟩
  · rw [if_neg hf]
    refine hy_iload (i := 0) rfl rfl ?_
    refine hy_const (i := 1) rfl (by decide) ?_
    refine hy_cS2e (i := 2) rfl (by decide) mj_W_isAmong (by decide) rfl (Nat.le_of_ble_eq_true rfl) (c_W_isAmong) ?_
    refine hy_ib_eq (i := 3) (tt := 11) rfl (fun zc1 => ?_) (fun zc1 => ?_)
    · refine hy_const (i := 11) rfl (by decide) ?_
      refine hy_ireturn (i := 12) rfl rfl ?_
      exact ⟨rfl, rfl⟩
    · simp at zc1; omega
theorem c_A_stepsTo {f : Int} (hi : pa_inv t) : hy_Ct sc hm_A_stepsTo 1 [.inr (some 52), .inl f] t (hy_e (some (if 0 ≤ f ∧ f < 64 then t 55 f.toNat % 100 else 0)) t) := by
  refine hy_mk_ct ok_A_stepsTo ck_A_stepsTo (Nat.le_of_ble_eq_true rfl) ?_
  by_cases hf : 0 ≤ f ∧ f < 64
  · have hv := hi f.toNat (by omega)
    rw [if_pos hf]
    refine hy_iload (i := 0) rfl rfl ?_
    refine hy_const (i := 1) rfl (by decide) ?_
    refine hy_cS2e (i := 2) rfl (by decide) mj_W_isAmong (by decide) rfl (Nat.le_of_ble_eq_true rfl) (c_W_isAmong) ?_
    refine hy_ib_eq (i := 3) (tt := 11) rfl (fun zc1 => ?_) (fun zc1 => ?_)
    · simp at zc1; omega
    · refine hy_aload (i := 4) rfl rfl ?_
      refine hy_getr (i := 5) rfl rfl ?_
      refine hy_iload (i := 6) rfl rfl ?_
      refine hy_iald (i := 7) rfl rfl (by omega) rfl ?_
      refine hy_const (i := 8) rfl (by decide) ?_
      refine hy_irem (i := 9) rfl (by omega) (by omega) ?_
      refine hy_goto (i := 10) (tt := 12) rfl ?_
      refine hy_ireturn (i := 12) rfl rfl ?_
      exact ⟨rfl, rfl⟩
  · rw [if_neg hf]
    refine hy_iload (i := 0) rfl rfl ?_
    refine hy_const (i := 1) rfl (by decide) ?_
    refine hy_cS2e (i := 2) rfl (by decide) mj_W_isAmong (by decide) rfl (Nat.le_of_ble_eq_true rfl) (c_W_isAmong) ?_
    refine hy_ib_eq (i := 3) (tt := 11) rfl (fun zc1 => ?_) (fun zc1 => ?_)
    · refine hy_const (i := 11) rfl (by decide) ?_
      refine hy_ireturn (i := 12) rfl rfl ?_
      exact ⟨rfl, rfl⟩
    · simp at zc1; omega
theorem c_A_seas : hy_Ct sc hm_A_seas 0 [.inr (some 52)] t (hy_e (some (t 52 4)) t) := by
  refine hy_mk_ct ok_A_seas ck_A_seas (Nat.le_of_ble_eq_true rfl) ?_
  refine hy_aload (i := 0) rfl rfl ?_
  refine hy_get (i := 1) (fk := 4) rfl rfl rfl ?_
  refine hy_ireturn (i := 2) rfl rfl ?_
  exact ⟨rfl, rfl⟩
theorem c_A_largestSea : hy_Ct sc hm_A_largestSea 0 [.inr (some 52)] t (hy_e (some (t 52 5)) t) := by
  refine hy_mk_ct ok_A_largestSea ck_A_largestSea (Nat.le_of_ble_eq_true rfl) ?_
  refine hy_aload (i := 0) rfl rfl ?_
  refine hy_get (i := 1) (fk := 5) rfl rfl rfl ?_
  refine hy_ireturn (i := 2) rfl rfl ?_
  exact ⟨rfl, rfl⟩
end PA
