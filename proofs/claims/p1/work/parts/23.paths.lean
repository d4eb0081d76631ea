/-! the class's paths -/
def pa_beside (f s : Int) : Int :=
  if s = 0 then (if f % 8 < 7 then f + 1 else -1)
  else if s = 1 then (if 0 < f % 8 then f - 1 else -1)
  else if s = 2 then (if f + 8 < 64 then f + 8 else -1)
  else (if 8 ≤ f then f - 8 else -1)
theorem pa_beside_in {f : Int} (hf : 0 ≤ f ∧ f < 64) (s : Int) : -1 ≤ pa_beside f s ∧ pa_beside f s < 64 := by
  unfold pa_beside
  split
  · split <;> omega
  · split
    · split <;> omega
    · split
      · split <;> omega
      · split <;> omega
def pa_forgetN (t : hy_T) : Nat → hy_T
  | 0 => t
  | n + 1 => hy_up (hy_up (pa_forgetN t n) 54 n 0) 55 n 1000000
def pa_inv (t : hy_T) : Prop := ∀ j : Nat, j < 64 → 0 ≤ t 55 j ∧ t 55 j ≤ 1000000
def pa_nearN (t : hy_T) : Nat → Int
  | 0 => -1
  | n + 1 => if t 54 n = 0 ∧ (pa_nearN t n < 0 ∨ t 55 n < t 55 (pa_nearN t n).toNat) then (n : Int) else pa_nearN t n
theorem pa_near_in (t : hy_T) : ∀ n : Nat, -1 ≤ pa_nearN t n ∧ pa_nearN t n < n
  | 0 => by simp [pa_nearN]
  | n + 1 => by
    have h := pa_near_in t n
    simp only [pa_nearN]
    split <;> omega
def pa_cost (t : hy_T) (f nx : Int) : Int := t 55 f.toNat + 1 + (if t 53 nx.toNat = 0 then 100 else 0)
def pa_leaveN (t : hy_T) (f : Int) : Nat → hy_T
  | 0 => hy_up t 54 f.toNat 1
  | n + 1 =>
    let t1 := pa_leaveN t f n
    let nx := pa_beside f n
    if 0 ≤ nx then hy_up t1 55 nx.toNat (if pa_cost t1 f nx < t1 55 nx.toNat then pa_cost t1 f nx else t1 55 nx.toNat) else t1
def pa_leave (t : hy_T) (f : Int) : hy_T := if 0 ≤ f ∧ f < 64 then pa_leaveN t f 4 else t
theorem pa_inv_up {t : hy_T} (h : pa_inv t) {j : Nat} {v : Int} (hv : 0 ≤ v ∧ v ≤ 1000000) : pa_inv (hy_up t 55 j v) := by
  intro i hi
  unfold hy_up
  split
  · exact hv
  · exact h i hi
theorem pa_leaveN_inv {t : hy_T} (h : pa_inv t) {f : Int} (hf : 0 ≤ f ∧ f < 64) : ∀ n : Nat, pa_inv (pa_leaveN t f n)
  | 0 => fun j hj => by
    simp only [pa_leaveN]
    show 0 ≤ hy_up t 54 f.toNat 1 55 j ∧ hy_up t 54 f.toNat 1 55 j ≤ 1000000
    rw [show hy_up t 54 f.toNat 1 55 j = t 55 j by simp [hy_up]]
    exact h j hj
  | n + 1 => by
    have ih := pa_leaveN_inv h hf n
    simp only [pa_leaveN]
    split
    · have h1 := pa_beside_in hf n
      have h2 := ih (pa_beside f n).toNat (by omega)
      have h3 := ih f.toNat (by omega)
      refine pa_inv_up ih ?_
      unfold pa_cost
      split <;> split at * <;> omega
    · exact ih
theorem pa_leave_inv {t : hy_T} (h : pa_inv t) (f : Int) : pa_inv (pa_leave t f) := by
  unfold pa_leave
  split
  · exact pa_leaveN_inv h (by assumption) 4
  · exact h
def pa_searchN (t : hy_T) : Nat → hy_T
  | 0 => t
  | n + 1 => let t1 := pa_searchN t n; pa_leave t1 (pa_nearN t1 64)
theorem pa_searchN_inv {t : hy_T} (h : pa_inv t) : ∀ n : Nat, pa_inv (pa_searchN t n)
  | 0 => h
  | n + 1 => pa_leave_inv (pa_searchN_inv h n) _
def pa_search0 (t : hy_T) (a : Int) : hy_T := if 0 ≤ a ∧ a < 64 then hy_up (pa_forgetN t 64) 55 a.toNat 0 else pa_forgetN t 64
theorem pa_forget_inv (t : hy_T) : pa_inv (pa_forgetN t 64) := by
  have h : ∀ n : Nat, ∀ j : Nat, j < n → pa_forgetN t n 55 j = 1000000 := by
    intro n
    induction n with
    | zero => intro j hj; omega
    | succ n ih =>
      intro j hj
      simp only [pa_forgetN, hy_up]
      by_cases hjn : j = n
      · simp [hjn]
      · rw [if_neg (by omega), if_neg (by omega)]
        exact ih j (by omega)
  intro j hj
  rw [h 64 j hj]
  omega
theorem pa_search0_inv (t : hy_T) (a : Int) : pa_inv (pa_search0 t a) := by
  unfold pa_search0
  split
  · exact pa_inv_up (pa_forget_inv t) (by decide)
  · exact pa_forget_inv t
abbrev paX : Nat → Nat → Bool := fun r j => r == 54 || r == 55 || r == 56 || (r == 52 && (j == 4 || j == 5))
theorem pa_forgetN_F (t : hy_T) : ∀ n, hy_F paX t (pa_forgetN t n)
  | 0 => hy_F.rf
  | n + 1 => ((pa_forgetN_F t n).up rfl).up rfl
theorem pa_leaveN_F (t : hy_T) (f : Int) : ∀ n, hy_F paX t (pa_leaveN t f n)
  | 0 => hy_F.rf.up rfl
  | n + 1 => by
    simp only [pa_leaveN]
    split
    · exact (pa_leaveN_F t f n).up rfl
    · exact pa_leaveN_F t f n
theorem pa_leave_F (t : hy_T) (f : Int) : hy_F paX t (pa_leave t f) := by
  unfold pa_leave
  split
  · exact pa_leaveN_F t f 4
  · exact hy_F.rf
theorem pa_searchN_F (t : hy_T) : ∀ n, hy_F paX t (pa_searchN t n)
  | 0 => hy_F.rf
  | n + 1 => (pa_searchN_F t n).tr' (pa_leave_F _ _)
theorem pa_search0_F (t : hy_T) (a : Int) : hy_F paX t (pa_search0 t a) := by
  unfold pa_search0
  split
  · exact (pa_forgetN_F t 64).up rfl
  · exact pa_forgetN_F t 64
def pa_push (t : hy_T) (f w : Int) : hy_T × Int := if (0 ≤ w ∧ w < 64) ∧ 0 ≤ f ∧ f < 64 then (hy_up (hy_up t 54 f.toNat 1) 56 w.toNat f, w + 1) else (t, w)
def pa_side (t : hy_T) (f w : Int) : Nat → hy_T × Int
  | 0 => (t, w)
  | n + 1 =>
    let p := pa_side t f w n
    if 0 ≤ pa_beside f n ∧ p.1 53 (pa_beside f n).toNat ≠ 0 ∧ p.1 54 (pa_beside f n).toNat = 0 then pa_push p.1 (pa_beside f n) p.2 else p
def pa_fillN : Nat → hy_T → Int → Int → hy_T × Int
  | 0, t, _, z => (t, z)
  | n + 1, t, w, z => if 0 < w then (let p := pa_side t (t 56 (w - 1).toNat) (w - 1) 4; pa_fillN n p.1 p.2 (z + 1)) else (t, z)
def pa_fill (t : hy_T) (f : Int) : hy_T × Int := pa_fillN 64 (pa_push t f 0).1 (pa_push t f 0).2 0
def pa_stk (t : hy_T) : Prop := ∀ j : Nat, j < 64 → 0 ≤ t 56 j ∧ t 56 j < 64
theorem pa_push_s {t : hy_T} (h : pa_stk t) (f : Int) {w : Int} (hw : 0 ≤ w ∧ w ≤ 64) : pa_stk (pa_push t f w).1 ∧ (0 ≤ (pa_push t f w).2 ∧ (pa_push t f w).2 ≤ 64) ∧ hy_F paX t (pa_push t f w).1 := by
  unfold pa_push
  split
  · next hc =>
    refine ⟨fun j hj => ?_, by dsimp only; omega, (hy_F.rf.up rfl).up rfl⟩
    show 0 ≤ hy_up (hy_up t 54 f.toNat 1) 56 w.toNat f 56 j ∧ hy_up (hy_up t 54 f.toNat 1) 56 w.toNat f 56 j < 64
    by_cases hjw : j = w.toNat
    · rw [show hy_up (hy_up t 54 f.toNat 1) 56 w.toNat f 56 j = f by simp [hy_up, hjw]]; omega
    · rw [show hy_up (hy_up t 54 f.toNat 1) 56 w.toNat f 56 j = t 56 j by simp [hy_up, hjw]]; exact h j hj
  · exact ⟨h, hw, hy_F.rf⟩
theorem pa_side_s {t : hy_T} (h : pa_stk t) (f : Int) {w : Int} (hw : 0 ≤ w ∧ w ≤ 64) : ∀ n : Nat, pa_stk (pa_side t f w n).1 ∧ (0 ≤ (pa_side t f w n).2 ∧ (pa_side t f w n).2 ≤ 64) ∧ hy_F paX t (pa_side t f w n).1
  | 0 => ⟨h, hw, hy_F.rf⟩
  | n + 1 => by
    obtain ⟨h1, h2, h3⟩ := pa_side_s h f hw n
    simp only [pa_side]
    split
    · obtain ⟨g1, g2, g3⟩ := pa_push_s h1 (pa_beside f n) h2
      exact ⟨g1, g2, h3.tr' g3⟩
    · exact ⟨h1, h2, h3⟩
theorem pa_fillN_s : ∀ (n : Nat) {t : hy_T} {w z : Int}, pa_stk t → (0 ≤ w ∧ w ≤ 64) → pa_stk (pa_fillN n t w z).1 ∧ (z ≤ (pa_fillN n t w z).2 ∧ (pa_fillN n t w z).2 ≤ z + n) ∧ hy_F paX t (pa_fillN n t w z).1
  | 0, t, w, z, h, hw => ⟨h, by simp [pa_fillN], hy_F.rf⟩
  | n + 1, t, w, z, h, hw => by
    simp only [pa_fillN]
    split
    · obtain ⟨h1, h2, h3⟩ := pa_side_s h (t 56 (w - 1).toNat) (w := w - 1) (by omega) 4
      obtain ⟨g1, g2, g3⟩ := pa_fillN_s n (z := z + 1) h1 h2
      exact ⟨g1, by omega, h3.tr' g3⟩
    · exact ⟨h, by dsimp only; omega, hy_F.rf⟩
theorem pa_fill_s {t : hy_T} (h : pa_stk t) (f : Int) : pa_stk (pa_fill t f).1 ∧ (0 ≤ (pa_fill t f).2 ∧ (pa_fill t f).2 ≤ 64) ∧ hy_F paX t (pa_fill t f).1 := by
  obtain ⟨h1, h2, h3⟩ := pa_push_s h f (w := 0) (by decide)
  obtain ⟨g1, g2, g3⟩ := pa_fillN_s 64 (z := 0) h1 h2
  exact ⟨g1, by unfold pa_fill; omega, h3.tr' g3⟩
section PA
variable {sc : List Int32} {t : hy_T}
theorem c_A_mark {f m : Int} (hm : m = 0 ∨ m = 1) : hy_Ct sc hm_A_mark 1 [.inr (some 52), .inl f, .inl m] t (hy_e none (if 0 ≤ f ∧ f < 64 then hy_up t 53 f.toNat m else t)) := by
  refine hy_mk_ct ok_A_mark ck_A_mark (Nat.le_of_ble_eq_true rfl) ?_
  refine hy_iload (i := 0) rfl rfl ?_
  refine hy_const (i := 1) rfl (by decide) ?_
  refine hy_cS2e (i := 2) rfl (by decide) mj_W_isAmong (by decide) rfl (Nat.le_of_ble_eq_true rfl) (c_W_isAmong) ?_
  refine hy_ib_eq (i := 3) (tt := 9) rfl (fun zc1 => ?_) (fun zc1 => ?_)
  · refine hy_return (i := 9) rfl rfl ?_
    exact ⟨rfl, by simp at zc1; split <;> first | rfl | omega⟩
  · refine hy_aload (i := 4) rfl rfl ?_
    refine hy_getr (i := 5) rfl rfl ?_
    refine hy_iload (i := 6) rfl rfl ?_
    refine hy_iload (i := 7) rfl rfl ?_
    refine hy_zast (i := 8) rfl rfl (by simp at zc1; omega) rfl (by assumption) ?_
    refine hy_return (i := 9) rfl rfl ?_
    exact ⟨rfl, by simp at zc1; split <;> first | rfl | omega⟩
theorem c_A_beside {f s : Int} (hf : 0 ≤ f ∧ f < 64) : hy_Ct sc hm_A_beside 0 [.inl f, .inl s] t (hy_e (some (pa_beside f s)) t) := by
  refine hy_mk_ct ok_A_beside ck_A_beside (Nat.le_of_ble_eq_true rfl) ?_
  refine hy_iload (i := 0) rfl rfl ?_
  by_cases zq1 : s = 0
  · refine hy_tsw (i := 1) (tt := 2) rfl (by rw [zq1]; rfl) ?_
    refine hy_iload (i := 2) rfl rfl ?_
    refine hy_const (i := 3) rfl (by decide) ?_
    refine hy_irem (i := 4) rfl (by omega) (by omega) ?_
    refine hy_const (i := 5) rfl (by decide) ?_
    refine hy_ic_ge (i := 6) (tt := 11) rfl (fun zc2 => ?_) (fun zc2 => ?_)
    · refine hy_const (i := 11) rfl (by decide) ?_
      refine hy_ireturn (i := 12) rfl rfl ?_
      exact ⟨congrArg some (by unfold pa_beside; repeat (first | rw [if_pos (by omega)] | rw [if_neg (by omega)])), rfl⟩
    · refine hy_iload (i := 7) rfl rfl ?_
      refine hy_const (i := 8) rfl (by decide) ?_
      refine hy_iadd (i := 9) rfl (by omega) ?_
      refine hy_goto (i := 10) (tt := 12) rfl ?_
      refine hy_ireturn (i := 12) rfl rfl ?_
      exact ⟨congrArg some (by unfold pa_beside; repeat (first | rw [if_pos (by omega)] | rw [if_neg (by omega)])), rfl⟩
  · skip
    by_cases zq1 : s = 1
    · refine hy_tsw (i := 1) (tt := 13) rfl (by rw [zq1]; rfl) ?_
      refine hy_iload (i := 13) rfl rfl ?_
      refine hy_const (i := 14) rfl (by decide) ?_
      refine hy_irem (i := 15) rfl (by omega) (by omega) ?_
      refine hy_if_le (i := 16) (tt := 21) rfl (fun zc2 => ?_) (fun zc2 => ?_)
      · refine hy_const (i := 21) rfl (by decide) ?_
        refine hy_ireturn (i := 22) rfl rfl ?_
        exact ⟨congrArg some (by unfold pa_beside; repeat (first | rw [if_pos (by omega)] | rw [if_neg (by omega)])), rfl⟩
      · refine hy_iload (i := 17) rfl rfl ?_
        refine hy_const (i := 18) rfl (by decide) ?_
        refine hy_isub (i := 19) rfl (by omega) ?_
        refine hy_goto (i := 20) (tt := 22) rfl ?_
        refine hy_ireturn (i := 22) rfl rfl ?_
        exact ⟨congrArg some (by unfold pa_beside; repeat (first | rw [if_pos (by omega)] | rw [if_neg (by omega)])), rfl⟩
    · skip
      by_cases zq1 : s = 2
      · refine hy_tsw (i := 1) (tt := 23) rfl (by rw [zq1]; rfl) ?_
        refine hy_iload (i := 23) rfl rfl ?_
        refine hy_const (i := 24) rfl (by decide) ?_
        refine hy_iadd (i := 25) rfl (by omega) ?_
        refine hy_const (i := 26) rfl (by decide) ?_
        refine hy_ic_ge (i := 27) (tt := 32) rfl (fun zc2 => ?_) (fun zc2 => ?_)
        · refine hy_const (i := 32) rfl (by decide) ?_
          refine hy_ireturn (i := 33) rfl rfl ?_
          exact ⟨congrArg some (by unfold pa_beside; repeat (first | rw [if_pos (by omega)] | rw [if_neg (by omega)])), rfl⟩
        · refine hy_iload (i := 28) rfl rfl ?_
          refine hy_const (i := 29) rfl (by decide) ?_
          refine hy_iadd (i := 30) rfl (by omega) ?_
          refine hy_goto (i := 31) (tt := 33) rfl ?_
          refine hy_ireturn (i := 33) rfl rfl ?_
          exact ⟨congrArg some (by unfold pa_beside; repeat (first | rw [if_pos (by omega)] | rw [if_neg (by omega)])), rfl⟩
      · skip
        refine hy_tsw (i := 1) (tt := 34) rfl (by rcases (show s < 0 ∨ 2 < s by omega) with hh | hh <;> first | (rw [if_pos (by omega)]; rfl) | (rw [hh]; rfl)) ?_
        refine hy_iload (i := 34) rfl rfl ?_
        refine hy_const (i := 35) rfl (by decide) ?_
        refine hy_ic_lt (i := 36) (tt := 41) rfl (fun zc1 => ?_) (fun zc1 => ?_)
        · refine hy_const (i := 41) rfl (by decide) ?_
          refine hy_ireturn (i := 42) rfl rfl ?_
          exact ⟨congrArg some (by unfold pa_beside; repeat (first | rw [if_pos (by omega)] | rw [if_neg (by omega)])), rfl⟩
        · refine hy_iload (i := 37) rfl rfl ?_
          refine hy_const (i := 38) rfl (by decide) ?_
          refine hy_isub (i := 39) rfl (by omega) ?_
          refine hy_goto (i := 40) (tt := 42) rfl ?_
          refine hy_ireturn (i := 42) rfl rfl ?_
          exact ⟨congrArg some (by unfold pa_beside; repeat (first | rw [if_pos (by omega)] | rw [if_neg (by omega)])), rfl⟩
theorem c_A_forget : hy_Ct sc hm_A_forget 0 [.inr (some 52)] t (hy_e none (pa_forgetN t 64)) := by
  refine hy_mk_ct ok_A_forget ck_A_forget (Nat.le_of_ble_eq_true rfl) ?_
  have loop : ∀ (n : Nat), ∀ (k : Nat), n + k = 64 → hy_W sc hm_A_forget 0 2 [.inr (some 52), .inl (k : Int)] [] (pa_forgetN t k) (hy_e none (pa_forgetN t 64)) := by
    intro n
    induction n with
    | zero =>
      intro k hn
      obtain rfl : k = 64 := by omega
      refine hy_iload (i := 2) rfl rfl ?_
      refine hy_const (i := 3) rfl (by decide) ?_
      refine hy_ic_ge (i := 4) (tt := 17) rfl (fun zc1 => ?_) (fun zc1 => ?_)
      · refine hy_return (i := 17) rfl rfl ?_
        exact ⟨rfl, rfl⟩
      · omega
    | succ n ih =>
      intro k hn
      refine hy_iload (i := 2) rfl rfl ?_
      refine hy_const (i := 3) rfl (by decide) ?_
      refine hy_ic_ge (i := 4) (tt := 17) rfl (fun zc1 => ?_) (fun zc1 => ?_)
      · omega
      · refine hy_aload (i := 5) rfl rfl ?_
        refine hy_getr (i := 6) rfl rfl ?_
        refine hy_iload (i := 7) rfl rfl ?_
        refine hy_const (i := 8) rfl (by decide) ?_
        refine hy_zast (i := 9) rfl rfl (by omega) rfl (by first | omega | decide) ?_
        refine hy_aload (i := 10) rfl rfl ?_
        refine hy_getr (i := 11) rfl rfl ?_
        refine hy_iload (i := 12) rfl rfl ?_
        refine hy_const (i := 13) rfl (by decide) ?_
        refine hy_iast (i := 14) rfl rfl (by omega) rfl ?_
        refine hy_iinc (i := 15) rfl rfl (by first | omega | decide) ?_
        refine hy_goto (i := 16) (tt := 2) rfl ?_
        exact ih (k + 1) (by omega)
  refine hy_const (i := 0) rfl (by decide) ?_
  refine hy_istore (i := 1) rfl ?_
  exact loop 64 0 rfl
theorem c_A_nearest : hy_Ct sc hm_A_nearest 0 [.inr (some 52)] t (hy_e (some (pa_nearN t 64)) t) := by
  refine hy_mk_ct ok_A_nearest ck_A_nearest (Nat.le_of_ble_eq_true rfl) ?_
  have loop : ∀ (n : Nat), ∀ (k : Nat) (z : Int), n + k = 64 → z = pa_nearN t k → hy_W sc hm_A_nearest 0 4 [.inr (some 52), .inl z, .inl (k : Int)] [] t (hy_e (some (pa_nearN t 64)) t) := by
    intro n
    induction n with
    | zero =>
      intro k z hn hz
      obtain rfl : k = 64 := by omega
      refine hy_iload (i := 4) rfl rfl ?_
      refine hy_const (i := 5) rfl (by decide) ?_
      refine hy_ic_ge (i := 6) (tt := 27) rfl (fun zc1 => ?_) (fun zc1 => ?_)
      · refine hy_iload (i := 27) rfl rfl ?_
        refine hy_ireturn (i := 28) rfl rfl ?_
        exact ⟨congrArg some hz, rfl⟩
      · omega
    | succ n ih =>
      intro k z hn hz
      have hb := pa_near_in t k
      rw [← hz] at hb
      refine hy_iload (i := 4) rfl rfl ?_
      refine hy_const (i := 5) rfl (by decide) ?_
      refine hy_ic_ge (i := 6) (tt := 27) rfl (fun zc1 => ?_) (fun zc1 => ?_)
      · omega
      · refine hy_aload (i := 7) rfl rfl ?_
        refine hy_getr (i := 8) rfl rfl ?_
        refine hy_iload (i := 9) rfl rfl ?_
        refine hy_bald (i := 10) rfl rfl (by decide) (by omega) rfl ?_
        refine hy_if_ne (i := 11) (tt := 25) rfl (fun zc2 => ?_) (fun zc2 => ?_)
        · refine hy_iinc (i := 25) rfl rfl (by omega) ?_
          refine hy_goto (i := 26) (tt := 4) rfl ?_
          refine ih (k + 1) _ (by omega) ?_
          simp only [pa_nearN]
          rw [← hz]
          first | (rw [if_pos (show t 54 k = 0 ∧ (z < 0 ∨ t 55 k < t 55 z.toNat) from ⟨by first | assumption | exact Decidable.not_not.mp (by assumption), by first | exact Or.inl (by omega) | exact Or.inr (Int.not_le.mp (by assumption))⟩)]; done) | (rw [if_neg (show ¬ (t 54 k = 0 ∧ (z < 0 ∨ t 55 k < t 55 z.toNat)) from fun q => by first | exact absurd q.1 (by assumption) | (rcases q.2 with q2 | q2; omega; exact absurd q2 (Int.not_lt.mpr (by assumption))))]; done)
        · refine hy_iload (i := 12) rfl rfl ?_
          refine hy_if_lt (i := 13) (tt := 23) rfl (fun zc3 => ?_) (fun zc3 => ?_)
          · refine hy_iload (i := 23) rfl rfl ?_
            refine hy_istore (i := 24) rfl ?_
            refine hy_iinc (i := 25) rfl rfl (by omega) ?_
            refine hy_goto (i := 26) (tt := 4) rfl ?_
            refine ih (k + 1) _ (by omega) ?_
            simp only [pa_nearN]
            rw [← hz]
            first | (rw [if_pos (show t 54 k = 0 ∧ (z < 0 ∨ t 55 k < t 55 z.toNat) from ⟨by first | assumption | exact Decidable.not_not.mp (by assumption), by first | exact Or.inl (by omega) | exact Or.inr (Int.not_le.mp (by assumption))⟩)]; done) | (rw [if_neg (show ¬ (t 54 k = 0 ∧ (z < 0 ∨ t 55 k < t 55 z.toNat)) from fun q => by first | exact absurd q.1 (by assumption) | (rcases q.2 with q2 | q2; omega; exact absurd q2 (Int.not_lt.mpr (by assumption))))]; done)
          · refine hy_aload (i := 14) rfl rfl ?_
            refine hy_getr (i := 15) rfl rfl ?_
            refine hy_iload (i := 16) rfl rfl ?_
            refine hy_iald (i := 17) rfl rfl (by omega) rfl ?_
            refine hy_aload (i := 18) rfl rfl ?_
            refine hy_getr (i := 19) rfl rfl ?_
            refine hy_iload (i := 20) rfl rfl ?_
            refine hy_iald (i := 21) rfl rfl (by omega) rfl ?_
            refine hy_ic_ge (i := 22) (tt := 25) rfl (fun zc4 => ?_) (fun zc4 => ?_)
            · refine hy_iinc (i := 25) rfl rfl (by omega) ?_
              refine hy_goto (i := 26) (tt := 4) rfl ?_
              refine ih (k + 1) _ (by omega) ?_
              simp only [pa_nearN]
              rw [← hz]
              first | (rw [if_pos (show t 54 k = 0 ∧ (z < 0 ∨ t 55 k < t 55 z.toNat) from ⟨by first | assumption | exact Decidable.not_not.mp (by assumption), by first | exact Or.inl (by omega) | exact Or.inr (Int.not_le.mp (by assumption))⟩)]; done) | (rw [if_neg (show ¬ (t 54 k = 0 ∧ (z < 0 ∨ t 55 k < t 55 z.toNat)) from fun q => by first | exact absurd q.1 (by assumption) | (rcases q.2 with q2 | q2; omega; exact absurd q2 (Int.not_lt.mpr (by assumption))))]; done)
            · refine hy_iload (i := 23) rfl rfl ?_
              refine hy_istore (i := 24) rfl ?_
              refine hy_iinc (i := 25) rfl rfl (by omega) ?_
              refine hy_goto (i := 26) (tt := 4) rfl ?_
              refine ih (k + 1) _ (by omega) ?_
              simp only [pa_nearN]
              rw [← hz]
              first | (rw [if_pos (show t 54 k = 0 ∧ (z < 0 ∨ t 55 k < t 55 z.toNat) from ⟨by first | assumption | exact Decidable.not_not.mp (by assumption), by first | exact Or.inl (by omega) | exact Or.inr (Int.not_le.mp (by assumption))⟩)]; done) | (rw [if_neg (show ¬ (t 54 k = 0 ∧ (z < 0 ∨ t 55 k < t 55 z.toNat)) from fun q => by first | exact absurd q.1 (by assumption) | (rcases q.2 with q2 | q2; omega; exact absurd q2 (Int.not_lt.mpr (by assumption))))]; done)
  refine hy_const (i := 0) rfl (by decide) ?_
  refine hy_istore (i := 1) rfl ?_
  refine hy_const (i := 2) rfl (by decide) ?_
  refine hy_istore (i := 3) rfl ?_
  exact loop 64 0 _ rfl rfl
end PA
