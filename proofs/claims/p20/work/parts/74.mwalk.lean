/-! the model's law as it is read: its methods -/
def az_row (g : Nat → Int) : List Int → Prop
  | [] => True
  | x :: w => g w.length = x ∧ az_row g w
theorem az_row_up {g : Nat → Int} {k : Nat} (v : Int) : ∀ (w : List Int), w.length ≤ k → az_row g w → az_row (su g k v) w
  | [], _, _ => trivial
  | x :: w, hk, h => ⟨by simp only [su]; rw [if_neg (by simp only [List.length_cons] at hk; omega)]; exact h.1, az_row_up v w (by simp only [List.length_cons] at hk; omega) h.2⟩
/-- the machine's state lies in the heap -/
def az_R (t : hy_T) (s : Zs) : Prop := t 59 10 = s.1 ∧ t 59 15 = (s.2.1 : Int) ∧ (∀ j : Nat, j < s.2.1 → t 66 j = s.2.2.1 j) ∧ t 59 16 = (s.2.2.2.1.length : Int) ∧ az_row (t 67) s.2.2.2.1 ∧ t 59 14 = s.2.2.2.2
abbrev mrX : Nat → Nat → Bool := fun r j => r == 66 || r == 67 || (r == 59 && (j == 10 || j == 12 || j == 13 || j == 14 || j == 15 || j == 16))
def az_B (t : hy_T) : Int → Int := fun p => if p < t 59 11 then hz_iand (t 65 p.toNat) 255 else -1
def az_C (t : hy_T) (B : Int → Int) : Prop := az_B t = B ∧ t 59 11 ≤ 240
theorem az_C_F {X : Nat → Nat → Bool} {t t1 : hy_T} {B : Int → Int} (h : hy_F X t t1) (h11 : X 59 11 = false) (h65 : ∀ j, X 65 j = false) (hC : az_C t B) : az_C t1 B := by
  obtain ⟨c1, c2⟩ := hC
  refine ⟨?_, by rw [h 59 11 h11]; exact c2⟩
  rw [← c1]
  funext p
  unfold az_B
  rw [h 59 11 h11, h 65 _ (h65 _)]
theorem az_C_by {t : hy_T} {B : Int → Int} (hC : az_C t B) : az_by B := fun p => by
  obtain ⟨c1, c2⟩ := hC
  rw [← c1]
  unfold az_B
  have := mby_in t p.toNat
  have m1 : 0 ≤ hz_iand (t 65 p.toNat) 255 ∧ hz_iand (t 65 p.toNat) 255 ≤ 255 := this
  split
  · exact ⟨by omega, m1.2, fun q => by omega⟩
  · exact ⟨by decide, by decide, fun _ => rfl⟩
theorem az_mpok {t : hy_T} {B : Int → Int} (hC : az_C t B) (hp : 0 ≤ t 59 10 ∧ t 59 10 ≤ 240) : mp_ok t := ⟨⟨hp.1, by omega⟩, by have := hC.2; omega⟩
theorem az_here {t : hy_T} {B : Int → Int} (hC : az_C t B) : mp_here t = B (t 59 10) := by
  rw [← hC.1]
  rfl
def mz_note (t : hy_T) (x : Int) : hy_T := hy_up (hy_up t 66 (t 59 15).toNat x) 59 15 (t 59 15 + 1)
theorem az_R_note {t : hy_T} {s : Zs} (h : az_R t s) (x : Int) : az_R (mz_note t x) (s.1, s.2.1 + 1, su s.2.2.1 s.2.1 x, s.2.2.2.1, s.2.2.2.2) := by
  obtain ⟨h1, h2, h3, h4, h5, h6⟩ := h
  refine ⟨h1, ?_, ?_, h4, h5, h6⟩
  · show t 59 15 + 1 = _; rw [h2]; dsimp only; omega
  · intro j hj
    dsimp only at hj ⊢
    show hy_up (hy_up t 66 (t 59 15).toNat x) 59 15 (t 59 15 + 1) 66 j = _
    rw [hy_up_ne (by decide), h2, show ((s.2.1 : Nat) : Int).toNat = s.2.1 from rfl]
    simp only [hy_up, su, true_and]
    split
    · rfl
    · exact h3 j (by omega)
theorem az_R_pop {t : hy_T} {p : Int} {m : Nat} {f : Nat → Int} {x : Int} {w : List Int} {o : Int} (h : az_R t (p, m, f, x :: w, o)) : az_R (hy_up t 59 16 (t 59 16 - 1)) (p, m, f, w, o) := by
  obtain ⟨h1, h2, h3, h4, h5, h6⟩ := h
  refine ⟨h1, h2, h3, ?_, h5.2, h6⟩
  show t 59 16 - 1 = _
  rw [h4]
  simp only [List.length_cons]
  omega
theorem az_R_step {t : hy_T} {s : Zs} (h : az_R t s) : az_R (hy_up t 59 10 (t 59 10 + 1)) (s.1 + 1, s.2.1, s.2.2.1, s.2.2.2.1, s.2.2.2.2) := by
  obtain ⟨h1, h2, h3, h4, h5, h6⟩ := h
  exact ⟨by show t 59 10 + 1 = _; rw [h1], h2, h3, h4, h5, h6⟩
theorem az_R_o {t : hy_T} {s : Zs} (h : az_R t s) (v : Int) : az_R (hy_up t 59 14 v) (s.1, s.2.1, s.2.2.1, s.2.2.2.1, v) := by
  obtain ⟨h1, h2, h3, h4, h5, h6⟩ := h
  exact ⟨h1, h2, h3, h4, h5, rfl⟩
theorem az_R_num {t : hy_T} {s : Zs} (h : az_R t s) (v : Int) : az_R (hy_up t 59 13 v) s := by
  obtain ⟨h1, h2, h3, h4, h5, h6⟩ := h
  exact ⟨h1, h2, h3, h4, h5, h6⟩
theorem az_R_push {t : hy_T} {s : Zs} (h : az_R t s) (x : Int) : az_R (hy_up (hy_up t 67 (t 59 16).toNat x) 59 16 (t 59 16 + 1)) (s.1, s.2.1, s.2.2.1, x :: s.2.2.2.1, s.2.2.2.2) := by
  obtain ⟨h1, h2, h3, h4, h5, h6⟩ := h
  have e : (t 59 16).toNat = s.2.2.2.1.length := by rw [h4]; rfl
  refine ⟨h1, h2, h3, ?_, ?_, h6⟩
  · show t 59 16 + 1 = _
    rw [h4]
    simp only [List.length_cons]
    omega
  · show az_row ((hy_up (hy_up t 67 (t 59 16).toNat x) 59 16 (t 59 16 + 1)) 67) _
    rw [e, show (hy_up (hy_up t 67 s.2.2.2.1.length x) 59 16 (t 59 16 + 1)) 67 = su (t 67) s.2.2.2.1.length x by
      rw [← hy_up_row]; funext j; exact hy_up_ne (by decide)]
    exact ⟨by simp [su], az_row_up x _ (Nat.le_refl _) h5⟩
/-- what a method that reads answers and leaves -/
def az_P (t0 : hy_T) (res : Int ⊕ Zs) (r : Option Int) (t' : hy_T) : Prop := hy_F mrX t0 t' ∧ match res with
  | .inl e => r = some (hy_b false) ∧ t' 59 12 = e
  | .inr s => r = some (hy_b true) ∧ az_R t' s
def az_PN (t0 : hy_T) (res : Int ⊕ (Int × Int)) (r : Option Int) (t' : hy_T) : Prop := hy_F (fun r j => r == 59 && (j == 10 || j == 12 || j == 13)) t0 t' ∧ match res with
  | .inl e => r = some (hy_b false) ∧ t' 59 12 = e
  | .inr q => r = some (hy_b true) ∧ t' 59 10 = q.1 ∧ t' 59 13 = q.2
def az_top : List Int → Int
  | [] => -1
  | x :: _ => x / 1048576
section MV
variable {sc : List Int32} {t : hy_T} {B : Int → Int}
theorem c_M_notes {op v : Int} (hm : 0 ≤ t 59 15 ∧ t 59 15 < 260) (ho : 0 ≤ op ∧ op ≤ 12) (hv : 0 ≤ v ∧ v < 1048576) : hy_Ct sc hm_M_notes 0 [.inr (some 59), .inl op, .inl v] t (hy_e none (mz_note t (1048576 * op + v))) := by
  refine hy_mk_ct ok_M_notes ck_M_notes (Nat.le_of_ble_eq_true rfl) ?_
  refine hy_aload (i := 0) rfl rfl ?_
  refine hy_getr (i := 1) rfl rfl ?_
  refine hy_aload (i := 2) rfl rfl ?_
  refine hy_get (i := 3) (fk := 15) rfl rfl rfl ?_
  refine hy_const (i := 4) rfl (by decide) ?_
  refine hy_iload (i := 5) rfl rfl ?_
  refine hy_imul (i := 6) rfl (by omega) ?_
  refine hy_iload (i := 7) rfl rfl ?_
  refine hy_iadd (i := 8) rfl (by omega) ?_
  refine hy_iast (i := 9) rfl rfl (by omega) rfl ?_
  refine hy_aload (i := 10) rfl rfl ?_
  refine hy_aload (i := 11) rfl rfl ?_
  refine hy_get (i := 12) (fk := 15) rfl rfl rfl ?_
  refine hy_const (i := 13) rfl (by decide) ?_
  rw [hy_up_ne (by decide)]
  refine hy_iadd (i := 14) rfl (by omega) ?_
  refine hy_put (i := 15) (fk := 15) rfl rfl rfl rfl ?_
  refine hy_return (i := 16) rfl rfl ?_
  exact ⟨rfl, rfl⟩
theorem c_M_waitTop {s : Zs} (hR : az_R t s) (hl : s.2.2.2.1.length ≤ 250) (he : ∀ x, x ∈ s.2.2.2.1 → az_ent x) : hy_Ct sc hm_M_waitTop 0 [.inr (some 59)] t (hy_e (some (az_top s.2.2.2.1)) t) := by
  refine hy_mk_ct ok_M_waitTop ck_M_waitTop (Nat.le_of_ble_eq_true rfl) ?_
  obtain ⟨h1, h2, h3, h4, h5, h6⟩ := hR
  cases hw : s.2.2.2.1 with
  | nil =>
    rw [hw] at h4
    refine hy_aload (i := 0) rfl rfl ?_
    refine hy_get (i := 1) (fk := 16) rfl rfl rfl ?_
    refine hy_if_ne (i := 2) (tt := 5) rfl (fun zc1 => ?_) (fun zc1 => ?_)
    · simp only [List.length_nil] at h4; omega
    · refine hy_const (i := 3) rfl (by decide) ?_
      refine hy_goto (i := 4) (tt := 14) rfl ?_
      refine hy_ireturn (i := 14) rfl rfl ?_
      exact ⟨rfl, rfl⟩
  | cons x w =>
    rw [hw] at h4 h5 he hl
    have hx := he x List.mem_cons_self
    have h5a := h5.1
    simp only [List.length_cons] at h4 hl
    refine hy_aload (i := 0) rfl rfl ?_
    refine hy_get (i := 1) (fk := 16) rfl rfl rfl ?_
    refine hy_if_ne (i := 2) (tt := 5) rfl (fun zc1 => ?_) (fun zc1 => ?_)
    · refine hy_aload (i := 5) rfl rfl ?_
      refine hy_getr (i := 6) rfl rfl ?_
      refine hy_aload (i := 7) rfl rfl ?_
      refine hy_get (i := 8) (fk := 16) rfl rfl rfl ?_
      refine hy_const (i := 9) rfl (by decide) ?_
      refine hy_isub (i := 10) rfl (by omega) ?_
      refine hy_iald (i := 11) rfl rfl (by omega) (k := w.length) (by omega) ?_
      rw [h5a]
      refine hy_const (i := 12) rfl (by decide) ?_
      refine hy_idiv (i := 13) rfl (by omega) (by omega) ?_
      refine hy_ireturn (i := 14) rfl rfl ?_
      exact ⟨rfl, rfl⟩
    · omega
theorem c_M_closesSums {s : Zs} {all : Bool} (hR : az_R t s) (hm : s.2.1 + az_cnt s.2.2.2.1 ≤ 250) (hl : s.2.2.2.1.length ≤ 250) (he : ∀ x, x ∈ s.2.2.2.1 → az_ent x) : hy_Ct sc hm_M_closesSums 1 [.inr (some 59), .inl (hy_b all)] t (fun r t' => r = none ∧ hy_F mrX t t' ∧ az_R t' (s.1, (az_close all s.2.2.2.1 s.2.1 s.2.2.1).2.1, (az_close all s.2.2.2.1 s.2.1 s.2.2.1).2.2, (az_close all s.2.2.2.1 s.2.1 s.2.2.1).1, s.2.2.2.2)) := by
  refine hy_mk_ct ok_M_closesSums ck_M_closesSums (Nat.le_of_ble_eq_true rfl) ?_
  have loop : ∀ (w : List Int) (m : Nat) (f : Nat → Int) (t1 : hy_T), hy_F mrX t t1 → az_R t1 (s.1, m, f, w, s.2.2.2.2) → m + az_cnt w ≤ 250 → w.length ≤ 250 → (∀ x, x ∈ w → az_ent x) → hy_W sc hm_M_closesSums 1 0 [.inr (some 59), .inl (hy_b all)] [] t1 (fun r t' => r = none ∧ hy_F mrX t t' ∧ az_R t' (s.1, (az_close all w m f).2.1, (az_close all w m f).2.2, (az_close all w m f).1, s.2.2.2.2)) := by
    intro w
    induction w with
    | nil =>
      intro m f t1 hF hR1 hm hl he
      refine hy_aload (i := 0) rfl rfl ?_
      refine hy_cV0e (i := 1) rfl mj_M_waitTop (by decide) rfl (Nat.le_of_ble_eq_true rfl) rfl rfl rfl (c_M_waitTop (by assumption) (by first | assumption | omega) (by assumption)) ?_
      rw [show az_top (([] : List Int)) = -1 from rfl]
      refine hy_const (i := 2) rfl (by decide) ?_
      refine hy_ic_lt (i := 3) (tt := 8) rfl (fun zc1 => ?_) (fun zc1 => ?_)
      · refine hy_iload (i := 8) rfl rfl ?_
        refine hy_ib_eq (i := 9) (tt := 30) rfl (fun zc2 => ?_) (fun zc2 => ?_)
        · refine hy_return (i := 30) rfl rfl ?_
          exact ⟨rfl, hF, hR1⟩
        · refine hy_aload (i := 10) rfl rfl ?_
          refine hy_cV0e (i := 11) rfl mj_M_waitTop (by decide) rfl (Nat.le_of_ble_eq_true rfl) rfl rfl rfl (c_M_waitTop (by assumption) (by first | assumption | omega) (by assumption)) ?_
          rw [show az_top (([] : List Int)) = -1 from rfl]
          refine hy_const (i := 12) rfl (by decide) ?_
          refine hy_ic_eq (i := 13) (tt := 18) rfl (fun zc3 => ?_) (fun zc3 => ?_)
          · omega
          · refine hy_aload (i := 14) rfl rfl ?_
            refine hy_cV0e (i := 15) rfl mj_M_waitTop (by decide) rfl (Nat.le_of_ble_eq_true rfl) rfl rfl rfl (c_M_waitTop (by assumption) (by first | assumption | omega) (by assumption)) ?_
            rw [show az_top (([] : List Int)) = -1 from rfl]
            refine hy_const (i := 16) rfl (by decide) ?_
            refine hy_ic_ne (i := 17) (tt := 30) rfl (fun zc4 => ?_) (fun zc4 => ?_)
            · refine hy_return (i := 30) rfl rfl ?_
              exact ⟨rfl, hF, hR1⟩
            · omega
      · omega
    | cons x w ih =>
      intro m f t1 hF hR1 hm hl he
      have hx := he x List.mem_cons_self
      have h15 : t1 59 15 = (m : Int) := hR1.2.1
      have h16 : t1 59 16 = ((w.length + 1 : Nat) : Int) := hR1.2.2.2.1
      by_cases hp : az_popc all x
      · have e : az_close all (x :: w) m f = az_close all w (m + 1) (su f m (1048576 * (x / 1048576))) := by simp only [az_close]; rw [if_pos hp]
        rw [e]
        simp only [az_cnt] at hm
        rw [if_pos (by omega)] at hm
        simp only [List.length_cons] at hl
        have hq : ∀ (t2 : hy_T), t2 = hy_up (mz_note t1 (1048576 * (x / 1048576) + 0)) 59 16 ((mz_note t1 (1048576 * (x / 1048576) + 0)) 59 16 - 1) → hy_W sc hm_M_closesSums 1 0 [.inr (some 59), .inl (hy_b all)] [] t2 (fun r t' => r = none ∧ hy_F mrX t t' ∧ az_R t' (s.1, (az_close all w (m + 1) (su f m (1048576 * (x / 1048576)))).2.1, (az_close all w (m + 1) (su f m (1048576 * (x / 1048576)))).2.2, (az_close all w (m + 1) (su f m (1048576 * (x / 1048576)))).1, s.2.2.2.2)) := by
          intro t2 ht
          rw [ht, Int.add_zero]
          exact ih (m + 1) _ _ (((hF.up (r := 66) rfl).up (r := 59) (j := 15) rfl).up (r := 59) (j := 16) rfl) (az_R_pop (az_R_note hR1 _)) (by omega) (by omega) (fun y hy => he y (List.mem_cons_of_mem _ hy))
        have hst : hy_W sc hm_M_closesSums 1 18 [.inr (some 59), .inl (hy_b all)] [] t1 (fun r t' => r = none ∧ hy_F mrX t t' ∧ az_R t' (s.1, (az_close all w (m + 1) (su f m (1048576 * (x / 1048576)))).2.1, (az_close all w (m + 1) (su f m (1048576 * (x / 1048576)))).2.2, (az_close all w (m + 1) (su f m (1048576 * (x / 1048576)))).1, s.2.2.2.2)) := by
          refine hy_aload (i := 18) rfl rfl ?_
          refine hy_aload (i := 19) rfl rfl ?_
          refine hy_cV0e (i := 20) rfl mj_M_waitTop (by decide) rfl (Nat.le_of_ble_eq_true rfl) rfl rfl rfl (c_M_waitTop (by assumption) (by first | assumption | omega) (by assumption)) ?_
          rw [show az_top (x :: w) = x / 1048576 from rfl]
          refine hy_const (i := 21) rfl (by decide) ?_
          refine hy_cV2v (i := 22) rfl mj_M_notes (by decide) rfl (Nat.le_of_ble_eq_true rfl) rfl rfl rfl (c_M_notes (by omega) (by omega) (by decide)) ?_
          refine hy_aload (i := 23) rfl rfl ?_
          refine hy_aload (i := 24) rfl rfl ?_
          refine hy_get (i := 25) (fk := 16) rfl rfl rfl ?_
          refine hy_const (i := 26) rfl (by decide) ?_
          refine hy_isub (i := 27) rfl (by show -2147483648 ≤ t1 59 16 - 1 ∧ t1 59 16 - 1 ≤ 2147483647; omega) ?_
          refine hy_put (i := 28) (fk := 16) rfl rfl rfl rfl ?_
          refine hy_goto (i := 29) (tt := 0) rfl ?_
          exact hq _ rfl
        refine hy_aload (i := 0) rfl rfl ?_
        refine hy_cV0e (i := 1) rfl mj_M_waitTop (by decide) rfl (Nat.le_of_ble_eq_true rfl) rfl rfl rfl (c_M_waitTop (by assumption) (by first | assumption | omega) (by assumption)) ?_
        rw [show az_top (x :: w) = x / 1048576 from rfl]
        refine hy_const (i := 2) rfl (by decide) ?_
        refine hy_ic_lt (i := 3) (tt := 8) rfl (fun zc1 => ?_) (fun zc1 => ?_)
        · refine hy_iload (i := 8) rfl rfl ?_
          refine hy_ib_eq (i := 9) (tt := 30) rfl (fun zc2 => ?_) (fun zc2 => ?_)
          · exfalso; rcases hp with hp | hp; omega; exact bb_abs hp.1 (by assumption)
          · refine hy_aload (i := 10) rfl rfl ?_
            refine hy_cV0e (i := 11) rfl mj_M_waitTop (by decide) rfl (Nat.le_of_ble_eq_true rfl) rfl rfl rfl (c_M_waitTop (by assumption) (by first | assumption | omega) (by assumption)) ?_
            rw [show az_top (x :: w) = x / 1048576 from rfl]
            refine hy_const (i := 12) rfl (by decide) ?_
            refine hy_ic_eq (i := 13) (tt := 18) rfl (fun zc3 => ?_) (fun zc3 => ?_)
            · exact hst
            · refine hy_aload (i := 14) rfl rfl ?_
              refine hy_cV0e (i := 15) rfl mj_M_waitTop (by decide) rfl (Nat.le_of_ble_eq_true rfl) rfl rfl rfl (c_M_waitTop (by assumption) (by first | assumption | omega) (by assumption)) ?_
              rw [show az_top (x :: w) = x / 1048576 from rfl]
              refine hy_const (i := 16) rfl (by decide) ?_
              refine hy_ic_ne (i := 17) (tt := 30) rfl (fun zc4 => ?_) (fun zc4 => ?_)
              · omega
              · exact hst
        · refine hy_aload (i := 4) rfl rfl ?_
          refine hy_cV0e (i := 5) rfl mj_M_waitTop (by decide) rfl (Nat.le_of_ble_eq_true rfl) rfl rfl rfl (c_M_waitTop (by assumption) (by first | assumption | omega) (by assumption)) ?_
          rw [show az_top (x :: w) = x / 1048576 from rfl]
          refine hy_const (i := 6) rfl (by decide) ?_
          refine hy_ic_le (i := 7) (tt := 18) rfl (fun zc2 => ?_) (fun zc2 => ?_)
          · exact hst
          · refine hy_iload (i := 8) rfl rfl ?_
            refine hy_ib_eq (i := 9) (tt := 30) rfl (fun zc3 => ?_) (fun zc3 => ?_)
            · exfalso; rcases hp with hp | hp; omega; exact bb_abs hp.1 (by assumption)
            · refine hy_aload (i := 10) rfl rfl ?_
              refine hy_cV0e (i := 11) rfl mj_M_waitTop (by decide) rfl (Nat.le_of_ble_eq_true rfl) rfl rfl rfl (c_M_waitTop (by assumption) (by first | assumption | omega) (by assumption)) ?_
              rw [show az_top (x :: w) = x / 1048576 from rfl]
              refine hy_const (i := 12) rfl (by decide) ?_
              refine hy_ic_eq (i := 13) (tt := 18) rfl (fun zc4 => ?_) (fun zc4 => ?_)
              · exact hst
              · refine hy_aload (i := 14) rfl rfl ?_
                refine hy_cV0e (i := 15) rfl mj_M_waitTop (by decide) rfl (Nat.le_of_ble_eq_true rfl) rfl rfl rfl (c_M_waitTop (by assumption) (by first | assumption | omega) (by assumption)) ?_
                rw [show az_top (x :: w) = x / 1048576 from rfl]
                refine hy_const (i := 16) rfl (by decide) ?_
                refine hy_ic_ne (i := 17) (tt := 30) rfl (fun zc5 => ?_) (fun zc5 => ?_)
                · omega
                · exact hst
      · have e : az_close all (x :: w) m f = (x :: w, m, f) := by simp only [az_close]; rw [if_neg hp]
        rw [e]
        refine hy_aload (i := 0) rfl rfl ?_
        refine hy_cV0e (i := 1) rfl mj_M_waitTop (by decide) rfl (Nat.le_of_ble_eq_true rfl) rfl rfl rfl (c_M_waitTop (by assumption) (by first | assumption | omega) (by assumption)) ?_
        rw [show az_top (x :: w) = x / 1048576 from rfl]
        refine hy_const (i := 2) rfl (by decide) ?_
        refine hy_ic_lt (i := 3) (tt := 8) rfl (fun zc1 => ?_) (fun zc1 => ?_)
        · refine hy_iload (i := 8) rfl rfl ?_
          refine hy_ib_eq (i := 9) (tt := 30) rfl (fun zc2 => ?_) (fun zc2 => ?_)
          · refine hy_return (i := 30) rfl rfl ?_
            exact ⟨rfl, hF, hR1⟩
          · refine hy_aload (i := 10) rfl rfl ?_
            refine hy_cV0e (i := 11) rfl mj_M_waitTop (by decide) rfl (Nat.le_of_ble_eq_true rfl) rfl rfl rfl (c_M_waitTop (by assumption) (by first | assumption | omega) (by assumption)) ?_
            rw [show az_top (x :: w) = x / 1048576 from rfl]
            refine hy_const (i := 12) rfl (by decide) ?_
            refine hy_ic_eq (i := 13) (tt := 18) rfl (fun zc3 => ?_) (fun zc3 => ?_)
            · exact absurd (.inr ⟨by assumption, .inl (by assumption)⟩) hp
            · refine hy_aload (i := 14) rfl rfl ?_
              refine hy_cV0e (i := 15) rfl mj_M_waitTop (by decide) rfl (Nat.le_of_ble_eq_true rfl) rfl rfl rfl (c_M_waitTop (by assumption) (by first | assumption | omega) (by assumption)) ?_
              rw [show az_top (x :: w) = x / 1048576 from rfl]
              refine hy_const (i := 16) rfl (by decide) ?_
              refine hy_ic_ne (i := 17) (tt := 30) rfl (fun zc4 => ?_) (fun zc4 => ?_)
              · refine hy_return (i := 30) rfl rfl ?_
                exact ⟨rfl, hF, hR1⟩
              · exact absurd (.inr ⟨by assumption, .inr (by assumption)⟩) hp
        · refine hy_aload (i := 4) rfl rfl ?_
          refine hy_cV0e (i := 5) rfl mj_M_waitTop (by decide) rfl (Nat.le_of_ble_eq_true rfl) rfl rfl rfl (c_M_waitTop (by assumption) (by first | assumption | omega) (by assumption)) ?_
          rw [show az_top (x :: w) = x / 1048576 from rfl]
          refine hy_const (i := 6) rfl (by decide) ?_
          refine hy_ic_le (i := 7) (tt := 18) rfl (fun zc2 => ?_) (fun zc2 => ?_)
          · exact absurd (.inl ⟨by omega, by omega⟩) hp
          · refine hy_iload (i := 8) rfl rfl ?_
            refine hy_ib_eq (i := 9) (tt := 30) rfl (fun zc3 => ?_) (fun zc3 => ?_)
            · refine hy_return (i := 30) rfl rfl ?_
              exact ⟨rfl, hF, hR1⟩
            · refine hy_aload (i := 10) rfl rfl ?_
              refine hy_cV0e (i := 11) rfl mj_M_waitTop (by decide) rfl (Nat.le_of_ble_eq_true rfl) rfl rfl rfl (c_M_waitTop (by assumption) (by first | assumption | omega) (by assumption)) ?_
              rw [show az_top (x :: w) = x / 1048576 from rfl]
              refine hy_const (i := 12) rfl (by decide) ?_
              refine hy_ic_eq (i := 13) (tt := 18) rfl (fun zc4 => ?_) (fun zc4 => ?_)
              · exact absurd (.inr ⟨by assumption, .inl (by assumption)⟩) hp
              · refine hy_aload (i := 14) rfl rfl ?_
                refine hy_cV0e (i := 15) rfl mj_M_waitTop (by decide) rfl (Nat.le_of_ble_eq_true rfl) rfl rfl rfl (c_M_waitTop (by assumption) (by first | assumption | omega) (by assumption)) ?_
                rw [show az_top (x :: w) = x / 1048576 from rfl]
                refine hy_const (i := 16) rfl (by decide) ?_
                refine hy_ic_ne (i := 17) (tt := 30) rfl (fun zc5 => ?_) (fun zc5 => ?_)
                · refine hy_return (i := 30) rfl rfl ?_
                  exact ⟨rfl, hF, hR1⟩
                · exact absurd (.inr ⟨by assumption, .inr (by assumption)⟩) hp
  exact loop _ _ _ t hy_F.rf hR hm hl he
theorem c_M_readsNumber {s : Zs} (hC : az_C t B) (hR : az_R t s) (hp : 0 ≤ s.1 ∧ s.1 ≤ 240) : hy_Ct sc hm_M_readsNumber 2 [.inr (some 59)] t (az_PN t (az_num B 5 s.1 0)) := by
  refine hy_mk_ct ok_M_readsNumber ck_M_readsNumber (Nat.le_of_ble_eq_true rfl) ?_
  have hB := az_C_by hC
  have hp0 : t 59 10 = s.1 := hR.1
  generalize hG : az_num B 5 s.1 0 = G
  have loop : ∀ (n : Nat), ∀ (p v : Int) (t1 : hy_T), p + n = s.1 + 5 → (0 ≤ p ∧ p ≤ 240) → t1 59 10 = p → t1 59 13 = v → hy_F (fun r j => r == 59 && (j == 10 || j == 12 || j == 13)) t t1 → 0 ≤ v → (n = 5 → v = 0) → (n = 4 → v ≤ 9) → (n = 3 → v ≤ 99) → (n = 2 → v ≤ 999) → (n = 1 → v ≤ 9999) → n ≤ 5 → az_num B n p v = G → hy_W sc hm_M_readsNumber 2 6 [.inr (some 59), .inl s.1] [] t1 (az_PN t G) := by
    intro n
    induction n with
    | zero =>
      intro p v t1 hn hp1 h10 h13 hF hv0 v5 v4 v3 v2 v1 h5 hv
      have hC1 := az_C_F hF rfl (fun _ => rfl) hC
      have hok := az_mpok hC1 (by omega)
      have hh := az_here hC1
      rw [h10] at hh
      simp only [az_num] at hv
      by_cases hd : 48 ≤ B p ∧ B p ≤ 57
      · rw [if_pos hd] at hv
        refine hy_aload (i := 6) rfl rfl ?_
        refine hy_cV0e (i := 7) rfl mj_M_isDigit (by decide) rfl (Nat.le_of_ble_eq_true rfl) rfl rfl rfl (c_M_isDigit (by assumption)) ?_
        refine hy_ib_eq (i := 8) (tt := 39) rfl (fun zc1 => ?_) (fun zc1 => ?_)
        · have := mp_dig_n (by assumption); omega
        · refine hy_aload (i := 9) rfl rfl ?_
          refine hy_get (i := 10) (fk := 10) rfl rfl rfl ?_
          refine hy_iload (i := 11) rfl rfl ?_
          refine hy_const (i := 12) rfl (by decide) ?_
          refine hy_iadd (i := 13) rfl (by omega) ?_
          refine hy_ic_ne (i := 14) (tt := 21) rfl (fun zc2 => ?_) (fun zc2 => ?_)
          · omega
          · refine hy_aload (i := 15) rfl rfl ?_
            refine hy_const (i := 16) rfl (by decide) ?_
            refine hy_aload (i := 17) rfl rfl ?_
            refine hy_get (i := 18) (fk := 10) rfl rfl rfl ?_
            refine hy_cV2e (i := 19) rfl mj_M_wrongAt (by decide) rfl (Nat.le_of_ble_eq_true rfl) rfl rfl rfl (c_M_wrongAt (by decide) (by first | exact mp_ok.1 (by assumption) | omega)) ?_
            refine hy_zreturn (i := 20) rfl rfl (by first | decide | exact hy_b01 _) ?_
            rw [← hv]
            refine ⟨hF.up rfl, rfl, ?_⟩
            show -1000 * 2 - t1 59 10 = _
            rw [h10]
            omega
      · rw [if_neg hd] at hv
        refine hy_aload (i := 6) rfl rfl ?_
        refine hy_cV0e (i := 7) rfl mj_M_isDigit (by decide) rfl (Nat.le_of_ble_eq_true rfl) rfl rfl rfl (c_M_isDigit (by assumption)) ?_
        refine hy_ib_eq (i := 8) (tt := 39) rfl (fun zc1 => ?_) (fun zc1 => ?_)
        · refine hy_const (i := 39) rfl (by decide) ?_
          refine hy_zreturn (i := 40) rfl rfl (by first | decide | exact hy_b01 _) ?_
          rw [← hv]
          exact ⟨hF, rfl, h10, h13⟩
        · have := mp_dig_h (by assumption); omega
    | succ n ih =>
      intro p v t1 hn hp1 h10 h13 hF hv0 v5 v4 v3 v2 v1 h5 hv
      have hC1 := az_C_F hF rfl (fun _ => rfl) hC
      have hok := az_mpok hC1 (by omega)
      have hh := az_here hC1
      rw [h10] at hh
      have hb := hB p
      simp only [az_num] at hv
      by_cases hd : 48 ≤ B p ∧ B p ≤ 57
      · rw [if_pos hd] at hv
        have hlt : p < 240 := by
          refine Decidable.byContradiction (fun q => ?_)
          have := hb.2.2 (by omega); omega
        refine hy_aload (i := 6) rfl rfl ?_
        refine hy_cV0e (i := 7) rfl mj_M_isDigit (by decide) rfl (Nat.le_of_ble_eq_true rfl) rfl rfl rfl (c_M_isDigit (by assumption)) ?_
        refine hy_ib_eq (i := 8) (tt := 39) rfl (fun zc1 => ?_) (fun zc1 => ?_)
        · have := mp_dig_n (by assumption); omega
        · refine hy_aload (i := 9) rfl rfl ?_
          refine hy_get (i := 10) (fk := 10) rfl rfl rfl ?_
          refine hy_iload (i := 11) rfl rfl ?_
          refine hy_const (i := 12) rfl (by decide) ?_
          refine hy_iadd (i := 13) rfl (by omega) ?_
          refine hy_ic_ne (i := 14) (tt := 21) rfl (fun zc2 => ?_) (fun zc2 => ?_)
          · refine hy_aload (i := 21) rfl rfl ?_
            refine hy_const (i := 22) rfl (by decide) ?_
            refine hy_aload (i := 23) rfl rfl ?_
            refine hy_get (i := 24) (fk := 13) rfl rfl rfl ?_
            refine hy_imul (i := 25) rfl (by omega) ?_
            refine hy_aload (i := 26) rfl rfl ?_
            refine hy_cV0e (i := 27) rfl mj_M_here (by decide) rfl (Nat.le_of_ble_eq_true rfl) rfl rfl rfl (c_M_here (by assumption)) ?_
            refine hy_iadd (i := 28) rfl (by omega) ?_
            refine hy_const (i := 29) rfl (by decide) ?_
            refine hy_isub (i := 30) rfl (by omega) ?_
            refine hy_put (i := 31) (fk := 13) rfl rfl rfl rfl ?_
            refine hy_aload (i := 32) rfl rfl ?_
            refine hy_aload (i := 33) rfl rfl ?_
            refine hy_get (i := 34) (fk := 10) rfl rfl rfl ?_
            refine hy_const (i := 35) rfl (by decide) ?_
            refine hy_iadd (i := 36) rfl (by show -2147483648 ≤ t1 59 10 + 1 ∧ t1 59 10 + 1 ≤ 2147483647; omega) ?_
            refine hy_put (i := 37) (fk := 10) rfl rfl rfl rfl ?_
            refine hy_goto (i := 38) (tt := 6) rfl ?_
            refine ih (p + 1) (10 * v + B p - 48) _ (by omega) (by omega) (by show t1 59 10 + 1 = _; omega) (by show 10 * t1 59 13 + mp_here t1 - 48 = _; omega) ((hF.up rfl).up rfl) (by omega) (by omega) (by omega) (by omega) (by omega) (by omega) (by omega) hv
          · omega
      · rw [if_neg hd] at hv
        refine hy_aload (i := 6) rfl rfl ?_
        refine hy_cV0e (i := 7) rfl mj_M_isDigit (by decide) rfl (Nat.le_of_ble_eq_true rfl) rfl rfl rfl (c_M_isDigit (by assumption)) ?_
        refine hy_ib_eq (i := 8) (tt := 39) rfl (fun zc1 => ?_) (fun zc1 => ?_)
        · refine hy_const (i := 39) rfl (by decide) ?_
          refine hy_zreturn (i := 40) rfl rfl (by first | decide | exact hy_b01 _) ?_
          rw [← hv]
          exact ⟨hF, rfl, h10, h13⟩
        · have := mp_dig_h (by assumption); omega
  refine hy_aload (i := 0) rfl rfl ?_
  refine hy_get (i := 1) (fk := 10) rfl rfl rfl ?_
  refine hy_istore (i := 2) rfl ?_
  refine hy_aload (i := 3) rfl rfl ?_
  refine hy_const (i := 4) rfl (by decide) ?_
  refine hy_put (i := 5) (fk := 13) rfl rfl rfl rfl ?_
  rw [hp0]
  exact loop 5 s.1 0 _ (by omega) hp hp0 rfl (hy_F.rf.up rfl) (by decide) (fun _ => rfl) (by omega) (by omega) (by omega) (by omega) (by omega) hG
theorem c_M_opens {s : Zs} {what : Int} {sl : Nat} (hw : 0 ≤ what ∧ what ≤ 14) (hR : az_R t s) (hk : az_ok sl s) : hy_Ct sc hm_M_opens 1 [.inr (some 59), .inl what] t (az_P t (az_open what s)) := by
  refine hy_mk_ct ok_M_opens ck_M_opens (Nat.le_of_ble_eq_true rfl) ?_
  obtain ⟨k1, k2, k3, k4, k5, k6⟩ := id hk
  obtain ⟨r1, r2, r3, r4, r5, r6⟩ := id hR
  unfold az_open
  by_cases h6 : s.2.2.2.2 = 6
  · rw [if_pos h6]
    refine hy_aload (i := 0) rfl rfl ?_
    refine hy_get (i := 1) (fk := 14) rfl rfl rfl ?_
    refine hy_const (i := 2) rfl (by decide) ?_
    refine hy_ic_ne (i := 3) (tt := 10) rfl (fun zc1 => ?_) (fun zc1 => ?_)
    · omega
    · refine hy_aload (i := 4) rfl rfl ?_
      refine hy_const (i := 5) rfl (by decide) ?_
      refine hy_aload (i := 6) rfl rfl ?_
      refine hy_get (i := 7) (fk := 10) rfl rfl rfl ?_
      refine hy_cV2e (i := 8) rfl mj_M_wrongAt (by decide) rfl (Nat.le_of_ble_eq_true rfl) rfl rfl rfl (c_M_wrongAt (by decide) (by omega)) ?_
      refine hy_zreturn (i := 9) rfl rfl (by first | decide | exact hy_b01 _) ?_
      exact ⟨hy_F.rf.up rfl, rfl, by show -1000 * 5 - t 59 10 = _; omega⟩
  · rw [if_neg h6]
    have e14 : t 59 14 + 1 = s.2.2.2.2 + 1 := by omega
    have hR2 := az_R_step (az_R_push (az_R_o hR (s.2.2.2.2 + 1)) (1048576 * what))
    refine hy_aload (i := 0) rfl rfl ?_
    refine hy_get (i := 1) (fk := 14) rfl rfl rfl ?_
    refine hy_const (i := 2) rfl (by decide) ?_
    refine hy_ic_ne (i := 3) (tt := 10) rfl (fun zc1 => ?_) (fun zc1 => ?_)
    · refine hy_aload (i := 10) rfl rfl ?_
      refine hy_aload (i := 11) rfl rfl ?_
      refine hy_get (i := 12) (fk := 14) rfl rfl rfl ?_
      refine hy_const (i := 13) rfl (by decide) ?_
      refine hy_iadd (i := 14) rfl (by omega) ?_
      rw [e14]
      refine hy_put (i := 15) (fk := 14) rfl rfl rfl rfl ?_
      refine hy_aload (i := 16) rfl rfl ?_
      refine hy_getr (i := 17) rfl rfl ?_
      refine hy_aload (i := 18) rfl rfl ?_
      refine hy_get (i := 19) (fk := 16) rfl rfl rfl ?_
      refine hy_const (i := 20) rfl (by decide) ?_
      refine hy_iload (i := 21) rfl rfl ?_
      refine hy_imul (i := 22) rfl (by omega) ?_
      refine hy_iast (i := 23) rfl rfl (by show 0 ≤ t 59 16 ∧ t 59 16 < 260; omega) rfl ?_
      refine hy_aload (i := 24) rfl rfl ?_
      refine hy_aload (i := 25) rfl rfl ?_
      refine hy_get (i := 26) (fk := 16) rfl rfl rfl ?_
      refine hy_const (i := 27) rfl (by decide) ?_
      refine hy_iadd (i := 28) rfl (by show -2147483648 ≤ t 59 16 + 1 ∧ t 59 16 + 1 ≤ 2147483647; omega) ?_
      refine hy_put (i := 29) (fk := 16) rfl rfl rfl rfl ?_
      refine hy_aload (i := 30) rfl rfl ?_
      refine hy_aload (i := 31) rfl rfl ?_
      refine hy_get (i := 32) (fk := 10) rfl rfl rfl ?_
      refine hy_const (i := 33) rfl (by decide) ?_
      refine hy_iadd (i := 34) rfl (by show -2147483648 ≤ t 59 10 + 1 ∧ t 59 10 + 1 ≤ 2147483647; omega) ?_
      refine hy_put (i := 35) (fk := 10) rfl rfl rfl rfl ?_
      refine hy_const (i := 36) rfl (by decide) ?_
      refine hy_zreturn (i := 37) rfl rfl (by first | decide | exact hy_b01 _) ?_
      exact ⟨((((hy_F.rf.up rfl).up rfl).up rfl).up rfl), rfl, hR2⟩
    · omega
theorem c_M_factOf {c : Int} : hy_Ct sc hm_M_factOf 0 [.inl c] t (hy_e (some (lp_letter c)) t) := by
  refine hy_mk_ct ok_M_factOf ck_M_factOf (Nat.le_of_ble_eq_true rfl) ?_
  refine hy_iload (i := 0) rfl rfl ?_
  by_cases zq1 : c = 97
  · refine hy_tsw (i := 1) (tt := 12) rfl (by rw [zq1]; rfl) ?_
    refine hy_const (i := 12) rfl (by decide) ?_
    refine hy_ireturn (i := 13) rfl rfl ?_
    exact ⟨congrArg some (by unfold lp_letter; (repeat (first | (rw [if_pos (by omega)]; done) | rw [if_neg (by omega)]))), rfl⟩
  · skip
    by_cases zq1 : c = 98
    · refine hy_tsw (i := 1) (tt := 14) rfl (by rw [zq1]; rfl) ?_
      refine hy_const (i := 14) rfl (by decide) ?_
      refine hy_ireturn (i := 15) rfl rfl ?_
      exact ⟨congrArg some (by unfold lp_letter; (repeat (first | (rw [if_pos (by omega)]; done) | rw [if_neg (by omega)]))), rfl⟩
    · skip
      by_cases zq1 : c = 99
      · refine hy_tsw (i := 1) (tt := 4) rfl (by rw [zq1]; rfl) ?_
        refine hy_const (i := 4) rfl (by decide) ?_
        refine hy_ireturn (i := 5) rfl rfl ?_
        exact ⟨congrArg some (by unfold lp_letter; (repeat (first | (rw [if_pos (by omega)]; done) | rw [if_neg (by omega)]))), rfl⟩
      · skip
        by_cases zq1 : c = 100
        · refine hy_tsw (i := 1) (tt := 8) rfl (by rw [zq1]; rfl) ?_
          refine hy_const (i := 8) rfl (by decide) ?_
          refine hy_ireturn (i := 9) rfl rfl ?_
          exact ⟨congrArg some (by unfold lp_letter; (repeat (first | (rw [if_pos (by omega)]; done) | rw [if_neg (by omega)]))), rfl⟩
        · skip
          by_cases zq1 : c = 101
          · refine hy_tsw (i := 1) (tt := 2) rfl (by rw [zq1]; rfl) ?_
            refine hy_const (i := 2) rfl (by decide) ?_
            refine hy_ireturn (i := 3) rfl rfl ?_
            exact ⟨congrArg some (by unfold lp_letter; (repeat (first | (rw [if_pos (by omega)]; done) | rw [if_neg (by omega)]))), rfl⟩
          · skip
            by_cases zq1 : c = 103
            · refine hy_tsw (i := 1) (tt := 18) rfl (by rw [zq1]; rfl) ?_
              refine hy_const (i := 18) rfl (by decide) ?_
              refine hy_ireturn (i := 19) rfl rfl ?_
              exact ⟨congrArg some (by unfold lp_letter; (repeat (first | (rw [if_pos (by omega)]; done) | rw [if_neg (by omega)]))), rfl⟩
            · skip
              by_cases zq1 : c = 109
              · refine hy_tsw (i := 1) (tt := 10) rfl (by rw [zq1]; rfl) ?_
                refine hy_const (i := 10) rfl (by decide) ?_
                refine hy_ireturn (i := 11) rfl rfl ?_
                exact ⟨congrArg some (by unfold lp_letter; (repeat (first | (rw [if_pos (by omega)]; done) | rw [if_neg (by omega)]))), rfl⟩
              · skip
                by_cases zq1 : c = 110
                · refine hy_tsw (i := 1) (tt := 16) rfl (by rw [zq1]; rfl) ?_
                  refine hy_const (i := 16) rfl (by decide) ?_
                  refine hy_ireturn (i := 17) rfl rfl ?_
                  exact ⟨congrArg some (by unfold lp_letter; (repeat (first | (rw [if_pos (by omega)]; done) | rw [if_neg (by omega)]))), rfl⟩
                · skip
                  by_cases zq1 : c = 111
                  · refine hy_tsw (i := 1) (tt := 20) rfl (by rw [zq1]; rfl) ?_
                    refine hy_const (i := 20) rfl (by decide) ?_
                    refine hy_ireturn (i := 21) rfl rfl ?_
                    exact ⟨congrArg some (by unfold lp_letter; (repeat (first | (rw [if_pos (by omega)]; done) | rw [if_neg (by omega)]))), rfl⟩
                  · skip
                    by_cases zq1 : c = 113
                    · refine hy_tsw (i := 1) (tt := 6) rfl (by rw [zq1]; rfl) ?_
                      refine hy_const (i := 6) rfl (by decide) ?_
                      refine hy_ireturn (i := 7) rfl rfl ?_
                      exact ⟨congrArg some (by unfold lp_letter; (repeat (first | (rw [if_pos (by omega)]; done) | rw [if_neg (by omega)]))), rfl⟩
                    · skip
                      refine hy_tsw (i := 1) (tt := 22) rfl (by rcases (show c < 97 ∨ 113 < c ∨ c = 102 ∨ c = 104 ∨ c = 105 ∨ c = 106 ∨ c = 107 ∨ c = 108 ∨ c = 112 by omega) with hh | hh | hh | hh | hh | hh | hh | hh | hh <;> first | (rw [if_pos (by omega)]; rfl) | (rw [hh]; rfl)) ?_
                      refine hy_const (i := 22) rfl (by decide) ?_
                      refine hy_ireturn (i := 23) rfl rfl ?_
                      exact ⟨congrArg some (by unfold lp_letter; (repeat (first | (rw [if_pos (by omega)]; done) | rw [if_neg (by omega)]))), rfl⟩
theorem c_M_sumSign {c : Int} : hy_Ct sc hm_M_sumSign 0 [.inl c] t (hy_e (some (az_sgn c)) t) := by
  refine hy_mk_ct ok_M_sumSign ck_M_sumSign (Nat.le_of_ble_eq_true rfl) ?_
  refine hy_iload (i := 0) rfl rfl ?_
  refine hy_const (i := 1) rfl (by decide) ?_
  refine hy_ic_ne (i := 2) (tt := 5) rfl (fun zc1 => ?_) (fun zc1 => ?_)
  · refine hy_iload (i := 5) rfl rfl ?_
    refine hy_const (i := 6) rfl (by decide) ?_
    refine hy_ic_ne (i := 7) (tt := 10) rfl (fun zc2 => ?_) (fun zc2 => ?_)
    · refine hy_iload (i := 10) rfl rfl ?_
      refine hy_const (i := 11) rfl (by decide) ?_
      refine hy_ic_ne (i := 12) (tt := 15) rfl (fun zc3 => ?_) (fun zc3 => ?_)
      · refine hy_iload (i := 15) rfl rfl ?_
        refine hy_const (i := 16) rfl (by decide) ?_
        refine hy_ic_ne (i := 17) (tt := 20) rfl (fun zc4 => ?_) (fun zc4 => ?_)
        · refine hy_iload (i := 20) rfl rfl ?_
          refine hy_const (i := 21) rfl (by decide) ?_
          refine hy_ic_ne (i := 22) (tt := 25) rfl (fun zc5 => ?_) (fun zc5 => ?_)
          · refine hy_const (i := 25) rfl (by decide) ?_
            refine hy_ireturn (i := 26) rfl rfl ?_
            exact ⟨congrArg some (by unfold az_sgn; (repeat (first | (rw [if_pos (by omega)]; done) | rw [if_neg (by omega)]))), rfl⟩
          · refine hy_const (i := 23) rfl (by decide) ?_
            refine hy_goto (i := 24) (tt := 26) rfl ?_
            refine hy_ireturn (i := 26) rfl rfl ?_
            exact ⟨congrArg some (by unfold az_sgn; (repeat (first | (rw [if_pos (by omega)]; done) | rw [if_neg (by omega)]))), rfl⟩
        · refine hy_const (i := 18) rfl (by decide) ?_
          refine hy_goto (i := 19) (tt := 26) rfl ?_
          refine hy_ireturn (i := 26) rfl rfl ?_
          exact ⟨congrArg some (by unfold az_sgn; (repeat (first | (rw [if_pos (by omega)]; done) | rw [if_neg (by omega)]))), rfl⟩
      · refine hy_const (i := 13) rfl (by decide) ?_
        refine hy_goto (i := 14) (tt := 26) rfl ?_
        refine hy_ireturn (i := 26) rfl rfl ?_
        exact ⟨congrArg some (by unfold az_sgn; (repeat (first | (rw [if_pos (by omega)]; done) | rw [if_neg (by omega)]))), rfl⟩
    · refine hy_const (i := 8) rfl (by decide) ?_
      refine hy_goto (i := 9) (tt := 26) rfl ?_
      refine hy_ireturn (i := 26) rfl rfl ?_
      exact ⟨congrArg some (by unfold az_sgn; (repeat (first | (rw [if_pos (by omega)]; done) | rw [if_neg (by omega)]))), rfl⟩
  · refine hy_const (i := 3) rfl (by decide) ?_
    refine hy_goto (i := 4) (tt := 26) rfl ?_
    refine hy_ireturn (i := 26) rfl rfl ?_
    exact ⟨congrArg some (by unfold az_sgn; (repeat (first | (rw [if_pos (by omega)]; done) | rw [if_neg (by omega)]))), rfl⟩
end MV
