/-! the model's law as it is read: conditions -/
/-- what waits in a condition -/
def az_E1 (w : List Int) : Prop := ∀ x, x ∈ w → x / 1048576 = 10 ∨ x / 1048576 = 11 ∨ x / 1048576 = 12 ∨ x / 1048576 = 13
def az_E2 (a m : Nat) (f : Nat → Int) (w : List Int) : Prop := ∀ x, x ∈ w → (x / 1048576 = 11 ∨ x / 1048576 = 12) → a ≤ (x % 1048576).toNat ∧ (x % 1048576).toNat < m ∧ f (x % 1048576).toNat / 1048576 = x / 1048576 ∧ az_dep f a (x % 1048576).toNat = 1
def az_lst (w : List Int) : Prop := ∃ w', w = w' ++ [13631488]
abbrev az_rows (f : Nat → Int) : Prop := ∀ j : Nat, j < 260 → 0 ≤ f j ∧ f j < 13631488
theorem az_E1_t {x : Int} {w : List Int} (h : az_E1 (x :: w)) : az_E1 w := fun y hy => h y (List.mem_cons_of_mem _ hy)
theorem az_E2_t {a m : Nat} {f : Nat → Int} {x : Int} {w : List Int} (h : az_E2 a m f (x :: w)) : az_E2 a m f w := fun y hy => h y (List.mem_cons_of_mem _ hy)
theorem az_lst_t {x : Int} {w : List Int} (h : az_lst (x :: w)) (hx : x ≠ 13631488) : az_lst w := by
  obtain ⟨w', hw⟩ := h
  cases w' with
  | nil => simp at hw; exact absurd hw.1 hx
  | cons y w' => simp at hw; exact ⟨w', hw.2⟩
theorem az_E2_su {a m : Nat} {f : Nat → Int} {w : List Int} (h : az_E2 a m f w) (v : Int) : az_E2 a (m + 1) (su f m v) w := fun x hx ho => by
  obtain ⟨h1, h2, h3, h4⟩ := h x hx ho
  refine ⟨h1, by omega, ?_, by rw [az_dep_su f a m v _ (by omega)]; exact h4⟩
  simp only [su]
  rw [if_neg (by omega)]
  exact h3
theorem az_hd_E1 {w : List Int} (h : az_E1 w) : az_hd w := fun x hx => by
  cases w with
  | nil => cases hx
  | cons y w =>
    simp at hx
    subst hx
    have := h y List.mem_cons_self
    omega
theorem az_ends_s {a : Nat} : ∀ (w : List Int) (m : Nat) (f : Nat → Int) (o : Int), az_E1 w → az_E2 a m f w → az_dep f a m = 1 → az_lc f a m w → a ≤ m → m + az_cnt w ≤ 250 → az_rows f → o = az_cno w → az_lst w →
    az_E1 (az_ends w m f o).1 ∧ az_E2 a (az_ends w m f o).2.1 (az_ends w m f o).2.2.1 (az_ends w m f o).1 ∧ az_dep (az_ends w m f o).2.2.1 a (az_ends w m f o).2.1 = 1 ∧ az_lc (az_ends w m f o).2.2.1 a (az_ends w m f o).2.1 (az_ends w m f o).1 ∧ m ≤ (az_ends w m f o).2.1 ∧ (az_ends w m f o).2.1 + az_cnt (az_ends w m f o).1 = m + az_cnt w ∧ az_rows (az_ends w m f o).2.2.1 ∧ (az_ends w m f o).2.2.2 = az_cno (az_ends w m f o).1 ∧ (az_ends w m f o).2.2.2 ≤ o ∧ az_lst (az_ends w m f o).1 ∧ (az_ends w m f o).1.length ≤ w.length ∧ (∀ x, x ∈ (az_ends w m f o).1 → x ∈ w) ∧ (∀ j, j < m → (az_ends w m f o).2.2.1 j = f j)
  | [], m, f, o, h1, h2, h3, h4, h5, h6, h7, h8, h9 => by
    obtain ⟨w', hw⟩ := h9
    simp at hw
  | x :: w, m, f, o, h1, h2, h3, h4, h5, h6, h7, h8, h9 => by
    by_cases hx : x / 1048576 = 10
    · have e : az_ends (x :: w) m f o = az_ends w (m + 1) (su f m 10485760) (o - 1) := by simp only [az_ends]; rw [if_pos hx]
      simp only [az_cnt, az_cno] at h6 h8
      rw [if_pos (by omega)] at h6 h8
      have hlw : az_lc f a m w := az_lc_w h4 (fun k ⟨y, hy, hy2, hy3⟩ => by
        rcases List.mem_cons.mp hy with rfl | hy
        · omega
        · exact ⟨y, hy, hy2, hy3⟩)
      obtain ⟨n1, n2⟩ := az_lc_note hlw h5 (x := 10485760) (by decide) (by omega) (by decide) (by omega) (by omega) (by omega)
      obtain ⟨r1, r2, r3, r4, r5, r6, r7, r8, r9, r10, r11, r12, r13⟩ := az_ends_s w (m + 1) (su f m 10485760) (o - 1) (az_E1_t h1) (az_E2_su (az_E2_t h2) _) (by rw [n2, h3]; rfl) n1 (by omega) (by omega) (az_row_su h7 m (by decide)) (by omega) (az_lst_t h9 (by omega))
      rw [e]
      refine ⟨r1, r2, r3, r4, by omega, ?_, r7, r8, by omega, r10, by simp only [List.length_cons]; omega, fun y hy => List.mem_cons_of_mem _ (r12 y hy), fun j hj => ?_⟩
      · simp only [az_cnt]; rw [if_pos (by omega)]; omega
      · rw [r13 j (by omega)]; simp only [su]; rw [if_neg (by omega)]
    · have e : az_ends (x :: w) m f o = (x :: w, m, f, o) := by simp only [az_ends]; rw [if_neg hx]
      rw [e]
      exact ⟨h1, h2, h3, h4, Nat.le_refl _, rfl, h7, h8, Int.le_refl _, h9, Nat.le_refl _, fun y hy => hy, fun _ _ => rfl⟩
theorem az_land_s (all : Bool) {a : Nat} {m : Nat} (hm : m < 260) : ∀ (w : List Int) (f : Nat → Int), az_E1 w → az_E2 a m f w → az_dep f a m = 1 → az_lc f a m w → az_rows f → az_lst w → (∀ x, x ∈ w → az_ent x) →
    az_E1 (az_land all w m f).1 ∧ az_E2 a m (az_land all w m f).2 (az_land all w m f).1 ∧ az_dep (az_land all w m f).2 a m = 1 ∧ az_lc (az_land all w m f).2 a m (az_land all w m f).1 ∧ az_cnt (az_land all w m f).1 = az_cnt w ∧ az_rows (az_land all w m f).2 ∧ az_cno (az_land all w m f).1 = az_cno w ∧ az_lst (az_land all w m f).1 ∧ (az_land all w m f).1.length ≤ w.length ∧ (∀ x, x ∈ (az_land all w m f).1 → x ∈ w) ∧ (∀ j, j < a → (az_land all w m f).2 j = f j) ∧ (∀ j, (az_land all w m f).2 j / 1048576 = f j / 1048576) ∧ (all = true → ∀ x r, (az_land all w m f).1 = x :: r → x / 1048576 = 10 ∨ x / 1048576 = 13)
  | [], f, h1, h2, h3, h4, h5, h6, h7 => by
    obtain ⟨w', hw⟩ := h6
    simp at hw
  | x :: w, f, h1, h2, h3, h4, h5, h6, h7 => by
    by_cases hx : x / 1048576 = 11 ∨ (all = true ∧ x / 1048576 = 12)
    · have e : az_land all (x :: w) m f = az_land all w m (su f (x % 1048576).toNat (1048576 * (f (x % 1048576).toNat / 1048576) + m)) := by simp only [az_land]; rw [if_pos hx]
      obtain ⟨p1, p2, p3, p4⟩ := h2 x List.mem_cons_self (by omega)
      obtain ⟨t1, t2, t3⟩ := h7 x List.mem_cons_self
      generalize hpos : (x % 1048576).toNat = pos at e p1 p2 p3 p4
      have hrow := h5 pos (by omega)
      have sg : ∀ j, su f pos (1048576 * (f pos / 1048576) + m) j / 1048576 = f j / 1048576 := fun j => by
        simp only [su]
        split
        · next hj => rw [hj]; omega
        · rfl
      have dp : ∀ k, az_dep (su f pos (1048576 * (f pos / 1048576) + m)) a k = az_dep f a k := fun k => az_dep_eq k (fun j _ => sg j)
      have hE2 : az_E2 a m (su f pos (1048576 * (f pos / 1048576) + m)) w := fun y hy ho => by
        obtain ⟨q1, q2, q3, q4⟩ := h2 y (List.mem_cons_of_mem _ hy) ho
        exact ⟨q1, q2, by rw [sg]; exact q3, by rw [dp]; exact q4⟩
      have hl : az_lc (su f pos (1048576 * (f pos / 1048576) + m)) a m w := fun k k1 k2 => by
        obtain ⟨c0, c1, c2, c3, c4⟩ := h4 k k1 k2
        by_cases hk : k = pos
        · subst hk
          have ev : su f k (1048576 * (f k / 1048576) + m) k = 1048576 * (f k / 1048576) + m := by simp [su]
          unfold az_okc
          rw [sg, dp, ev]
          refine ⟨⟨by omega, by omega, c0.2.2⟩, by omega, by omega, fun _ => ⟨by omega, .inr ⟨by omega, by omega, ?_⟩⟩, by omega⟩
          rw [show ((1048576 * (f k / 1048576) + m) % 1048576).toNat = m by omega, dp, h3, p4]
        · have ev : su f pos (1048576 * (f pos / 1048576) + m) k = f k := by simp [su, hk]
          unfold az_okc
          rw [dp, ev]
          refine ⟨c0, c1, c2, fun q => ⟨(c3 q).1, ?_⟩, c4⟩
          rcases (c3 q).2 with ⟨y, hy, hy2, hy3⟩ | ⟨q1, q2, q3⟩
          · left
            rcases List.mem_cons.mp hy with rfl | hy
            · exact absurd (by omega) hk
            · exact ⟨y, hy, hy2, hy3⟩
          · exact .inr ⟨q1, q2, by rw [dp]; exact q3⟩
      obtain ⟨r1, r2, r3, r4, r5, r6, r7, r8, r9, r10, r11, r12, r13⟩ := az_land_s all hm w _ (az_E1_t h1) hE2 (by rw [dp]; exact h3) hl (az_row_su h5 pos ⟨by omega, by omega⟩) (az_lst_t h6 (by omega)) (fun y hy => h7 y (List.mem_cons_of_mem _ hy))
      rw [e]
      refine ⟨r1, r2, r3, r4, ?_, r6, ?_, r8, by simp only [List.length_cons]; omega, fun y hy => List.mem_cons_of_mem _ (r10 y hy), fun j hj => ?_, fun j => by rw [r12, sg], r13⟩
      · rw [r5]; simp only [az_cnt]; rw [if_neg (by omega)]; omega
      · rw [r7]; simp only [az_cno]; rw [if_neg (by omega)]; omega
      · rw [r11 j hj]; simp only [su]; rw [if_neg (by omega)]
    · have e : az_land all (x :: w) m f = (x :: w, f) := by simp only [az_land]; rw [if_neg hx]
      rw [e]
      refine ⟨h1, h2, h3, h4, rfl, h5, rfl, h6, Nat.le_refl _, fun y hy => hy, fun _ _ => rfl, fun _ => rfl, fun hall y r h => ?_⟩
      obtain ⟨rfl, -⟩ := List.cons.inj h
      have := h1 x List.mem_cons_self
      simp only [hall, true_and] at hx
      omega
/-- a condition is read: ahead of a piece (b = 0), behind one (b = 1) -/
def az_cI (b : Int) (a : Nat) (f0 : Nat → Int) (s : Zs) : Prop :=
  az_E1 s.2.2.2.1 ∧ az_E2 a s.2.1 s.2.2.1 s.2.2.2.1 ∧ az_lst s.2.2.2.1 ∧ az_dep s.2.2.1 a s.2.1 = b ∧ az_lc s.2.2.1 a s.2.1 s.2.2.2.1 ∧ a ≤ s.2.1 ∧ az_ok 0 s ∧ ∀ j, j < a → s.2.2.1 j = f0 j
theorem az_how_in {c : Int} (h : az_how c ≠ -1) : 7 ≤ az_how c ∧ az_how c ≤ 9 ∧ 0 ≤ c := by
  unfold az_how at h ⊢
  repeat' split
  all_goals first | omega | (exfalso; apply h; repeat' split; all_goals omega)
theorem az_cmp_s {B : Int → Int} (hB : az_by B) {a : Nat} {f0 : Nat → Int} {s s1 : Zs} (h : az_cI 0 a f0 s) (he : az_cmp B s = .inr s1) : az_cI 1 a f0 s1 ∧ s.1 < s1.1 := by
  obtain ⟨h1, h2, h3, h4, h5, h6, h7, h8⟩ := h
  unfold az_cmp at he
  cases e1 : az_rs B s with
  | inl e => rw [e1] at he; cases he
  | inr s2 =>
    rw [e1] at he
    dsimp only at he
    obtain ⟨r1, r2, r3, r4, r5, ⟨r6, r7⟩, r8⟩ := az_rs_s hB (Int.le_refl 0) (a0 := s.2.1) (f0 := s.2.2.1) (az_hd_E1 h1) h4 h5 h6 h7 (Nat.le_refl _) (fun _ _ => rfl) e1
    by_cases hw : az_how (B s2.1) = -1
    · rw [if_pos hw] at he; cases he
    · rw [if_neg hw] at he
      have hh := az_how_in hw
      have hp : s2.1 < 240 := by
        refine Decidable.byContradiction (fun q => ?_)
        have := (hB s2.1).2.2 (by omega); omega
      obtain ⟨k1, k2, k3, k4, k5, k6⟩ := id r5
      cases e2 : az_rs B (s2.1 + 1, s2.2.1, s2.2.2.1, s2.2.2.2.1, s2.2.2.2.2) with
      | inl e => rw [e2] at he; cases he
      | inr s3 =>
        rw [e2] at he
        cases he
        obtain ⟨q1, q2, q3, q4, q5, ⟨q6, q7⟩, q8⟩ := az_rs_s hB (d0 := 1) (by decide) (a0 := s2.2.1) (f0 := s2.2.2.1) (sl := 1) (s := (s2.1 + 1, s2.2.1, s2.2.2.1, s2.2.2.2.1, s2.2.2.2.2)) (by dsimp only; rw [r1]; exact az_hd_E1 h1) (by dsimp only; omega) (by dsimp only; rw [r1]; exact r3) r4 ⟨⟨by dsimp only; omega, by dsimp only; omega⟩, by dsimp only; omega, by dsimp only; omega, k4, k5, k6⟩ (Nat.le_refl _) (fun _ _ => rfl) e2
        dsimp only at q1 q3 q4 q6 q7 q8
        rw [r1] at q1 q3
        obtain ⟨m1, m2, m3, m4, m5, m6⟩ := q5
        rw [q1] at m2 m3 m4 m5
        have hE2 : az_E2 a s3.2.1 s3.2.2.1 s.2.2.2.1 := fun x hx ho => by
          obtain ⟨c1, c2, c3, c4⟩ := h2 x hx ho
          refine ⟨c1, by omega, ?_, ?_⟩
          · rw [q7 _ (by omega), r7 _ c2]; exact c3
          · rw [az_dep_eq (g := s.2.2.1) _ (fun j hj => by rw [q7 j (by omega), r7 j (by omega)])]; exact c4
        obtain ⟨n1, n2⟩ := az_lc_note q3 q4 (x := 1048576 * az_how (B s2.1)) ⟨by omega, by omega⟩ (by omega) (by omega) (by omega) (by omega) (by omega)
        have ee : az_eff (1048576 * az_how (B s2.1) / 1048576) = -1 := by unfold az_eff; rw [if_neg (by omega), if_neg (by omega)]
        rw [ee] at n2
        obtain ⟨g1, g2, g3, g4, g5, g6, g7, g8, g9, g10, g11, g12, g13⟩ := az_ends_s (a := a) s.2.2.2.1 (s3.2.1 + 1) (su s3.2.2.1 s3.2.1 (1048576 * az_how (B s2.1))) s3.2.2.2.2 h1 (az_E2_su hE2 _) (by omega) n1 (by omega) (by omega) (az_row_su m6 _ ⟨by omega, by omega⟩) m4.1 h3
        unfold az_cmp2
        rw [q1]
        refine ⟨⟨g1, g2, g10, g3, g4, by dsimp only; omega, ⟨m1, by dsimp only; omega, by dsimp only; omega, ⟨g8, by dsimp only; omega⟩, fun x hx => m5 x (g12 x hx), g7⟩, fun j hj => ?_⟩, by dsimp only; omega⟩
        dsimp only
        rw [g13 j (by omega)]
        simp only [su]
        rw [if_neg (by omega), q7 j (by omega), r7 j (by omega)]
        exact h8 j hj
theorem az_jop_in (c : Int) : az_jop c = 11 ∨ az_jop c = 12 := by
  unfold az_jop
  split
  · exact .inl rfl
  · exact .inr rfl
theorem az_cond_s {B : Int → Int} (hB : az_by B) {a : Nat} {f0 : Nat → Int} : ∀ (n : Nat) (b : Bool) (s s1 : Zs), az_cI (if b = true then 0 else 1) a f0 s → az_cond B n b s = .inr s1 → s1.2.2.2.1 = [] ∧ az_dep s1.2.2.1 a s1.2.1 = 1 ∧ az_lc s1.2.2.1 a s1.2.1 [] ∧ a ≤ s1.2.1 ∧ (∀ j, j < a → s1.2.2.1 j = f0 j) ∧ ((0 ≤ s1.1 ∧ s1.1 ≤ 240) ∧ (s1.2.1 : Int) ≤ s1.1 ∧ az_rows s1.2.2.1) ∧ s.1 ≤ s1.1
  | 0, _, s, s1, h, he => by cases he
  | n + 1, true, s, s1, h, he => by
    obtain ⟨h1, h2, h3, h4, h5, h6, h7, h8⟩ := id h
    simp only [az_cond] at he
    by_cases hb : B s.1 = 33 ∨ B s.1 = 40
    · rw [if_pos hb] at he
      have hp : s.1 < 240 := by
        refine Decidable.byContradiction (fun q => ?_)
        have := (hB s.1).2.2 (by omega); omega
      cases e1 : az_open (if B s.1 = 33 then 10 else 13) s with
      | inl e => rw [e1] at he; cases he
      | inr s2 =>
        rw [e1] at he
        have hwh : (if B s.1 = 33 then (10 : Int) else 13) = 10 ∨ (if B s.1 = 33 then (10 : Int) else 13) = 13 := by split; exact .inl rfl; exact .inr rfl
        generalize (if B s.1 = 33 then (10 : Int) else 13) = wh at e1 hwh
        obtain ⟨o1, o2⟩ := az_open_s (by omega) h7 hp e1
        have hI : az_cI (if true = true then 0 else 1) a f0 s2 := by
          rw [o2]
          refine ⟨fun x hx => ?_, fun x hx ho => ?_, ?_, h4, az_lc_w h5 (fun k ⟨y, hy, hy2⟩ => ⟨y, List.mem_cons_of_mem _ hy, hy2⟩), h6, by rw [← o2]; exact o1, h8⟩
          · rcases List.mem_cons.mp hx with rfl | hx
            · omega
            · exact h1 x hx
          · rcases List.mem_cons.mp hx with rfl | hx
            · omega
            · exact h2 x hx ho
          · obtain ⟨w', hw⟩ := h3
            exact ⟨(1048576 * wh) :: w', by dsimp only; rw [hw]; rfl⟩
        obtain ⟨r1, r2, r3, r4, r5, r6, r7⟩ := az_cond_s hB n true s2 s1 hI he
        refine ⟨r1, r2, r3, r4, r5, r6, ?_⟩
        rw [o2] at r7
        dsimp only at r7
        omega
    · rw [if_neg hb] at he
      cases e1 : az_cmp B s with
      | inl e => rw [e1] at he; cases he
      | inr s2 =>
        rw [e1] at he
        obtain ⟨c1, c2⟩ := az_cmp_s hB h e1
        obtain ⟨r1, r2, r3, r4, r5, r6, r7⟩ := az_cond_s hB n false s2 s1 c1 he
        exact ⟨r1, r2, r3, r4, r5, r6, by omega⟩
  | n + 1, false, s, s1, h, he => by
    obtain ⟨h1, h2, h3, h4, h5, h6, h7, h8⟩ := id h
    obtain ⟨k1, k2, k3, k4, k5, k6⟩ := id h7
    have hm : s.2.1 < 260 := by omega
    simp only [az_cond] at he
    by_cases hb : B s.1 = 41
    · rw [if_pos hb] at he
      have hp : s.1 < 240 := by
        refine Decidable.byContradiction (fun q => ?_)
        have := (hB s.1).2.2 (by omega); omega
      obtain ⟨l1, l2, l3, l4, l5, l6, l7, l8, l9, l10, l11, l12, l13⟩ := az_land_s true hm s.2.2.2.1 s.2.2.1 h1 h2 h4 h5 k6 h3 k5
      unfold az_shut az_shut2 at he
      dsimp only at he
      revert he l1 l2 l3 l4 l5 l6 l7 l8 l9 l10 l11 l13
      generalize az_land true s.2.2.2.1 s.2.1 s.2.2.1 = c
      intro he l1 l2 l3 l4 l5 l6 l7 l8 l9 l10 l11 l13
      cases hc : c.1 with
      | nil =>
        obtain ⟨w', hw⟩ := l8
        rw [hc] at hw
        simp at hw
      | cons x r =>
        rw [hc] at l1 l2 l4 l5 l7 l8 l9 l10
        have hx := l13 rfl x r hc
        rw [hc, List.tail_cons] at he
        have lr : az_lc c.2 a s.2.1 r := az_lc_w l4 (fun k ⟨y, hy, hy2, hy3⟩ => by
          rcases List.mem_cons.mp hy with rfl | hy
          · omega
          · exact ⟨y, hy, hy2, hy3⟩)
        simp only [az_cnt, az_cno, List.length_cons] at l5 l7 l9
        rw [if_pos (by omega)] at l7
        by_cases hr : r = []
        · subst hr
          rw [if_pos rfl] at he
          cases he
          have hc5 : az_cnt ([] : List Int) = 0 := rfl
          refine ⟨rfl, l3, lr, h6, fun j hj => by dsimp only; rw [l11 j hj]; exact h8 j hj, ⟨⟨by dsimp only; omega, by dsimp only; omega⟩, by dsimp only; omega, l6⟩, by dsimp only; omega⟩
        · rw [if_neg hr] at he
          have lst : az_lst r := by
            obtain ⟨w', hw⟩ := l8
            cases w' with
            | nil => simp at hw; exact absurd hw.2 hr
            | cons y w' => simp at hw; exact ⟨w', hw.2⟩
          obtain ⟨g1, g2, g3, g4, g5, g6, g7, g8, g9, g10, g11, g12, g13⟩ := az_ends_s (a := a) r s.2.1 c.2 (s.2.2.2.2 - 1) (az_E1_t l1) (az_E2_t l2) l3 lr h6 (by omega) l6 (by omega) lst
          have hI : az_cI (if false = true then 0 else 1) a f0 (s.1 + 1, (az_ends r s.2.1 c.2 (s.2.2.2.2 - 1)).2.1, (az_ends r s.2.1 c.2 (s.2.2.2.2 - 1)).2.2.1, (az_ends r s.2.1 c.2 (s.2.2.2.2 - 1)).1, (az_ends r s.2.1 c.2 (s.2.2.2.2 - 1)).2.2.2) := by
            refine ⟨g1, g2, g10, g3, g4, by dsimp only; omega, ⟨⟨by dsimp only; omega, by dsimp only; omega⟩, by dsimp only; omega, by dsimp only; omega, ⟨g8, by dsimp only; omega⟩, fun y hy => k5 y (l10 y (List.mem_cons_of_mem _ (g12 y hy))), g7⟩, fun j hj => ?_⟩
            dsimp only
            rw [g13 j (by omega), l11 j hj]
            exact h8 j hj
          obtain ⟨r1, r2, r3, r4, r5, r6, r7⟩ := az_cond_s hB n false _ s1 hI he
          exact ⟨r1, r2, r3, r4, r5, r6, by dsimp only at r7; omega⟩
    · rw [if_neg hb] at he
      by_cases hb2 : B s.1 = 38 ∨ B s.1 = 124
      · rw [if_pos hb2] at he
        have hp : s.1 < 240 := by
          refine Decidable.byContradiction (fun q => ?_)
          have := (hB s.1).2.2 (by omega); omega
        obtain ⟨l1, l2, l3, l4, l5, l6, l7, l8, l9, l10, l11, l12, l13⟩ := az_land_s (decide (B s.1 = 124)) hm s.2.2.2.1 s.2.2.1 h1 h2 h4 h5 k6 h3 k5
        have hj := az_jop_in (B s.1)
        unfold az_jump at he
        revert he l1 l2 l3 l4 l5 l6 l7 l8 l9 l10 l11
        generalize az_land (decide (B s.1 = 124)) s.2.2.2.1 s.2.1 s.2.2.1 = c
        generalize az_jop (B s.1) = jo at hj
        intro he l1 l2 l3 l4 l5 l6 l7 l8 l9 l10 l11
        have lw : az_lc c.2 a s.2.1 ((1048576 * jo + s.2.1) :: c.1) := az_lc_w l4 (fun k ⟨y, hy, hy2⟩ => ⟨y, List.mem_cons_of_mem _ hy, hy2⟩)
        have hx1 : (1048576 * jo + (s.2.1 : Int)) / 1048576 = jo := by omega
        have hx2 : (1048576 * jo + (s.2.1 : Int)) % 1048576 = s.2.1 := by omega
        obtain ⟨n1, n2⟩ := az_lc_note lw h6 (x := 1048576 * jo) ⟨by omega, by omega⟩ (by omega) (by omega) (by omega) (fun _ => ⟨by omega, _, List.mem_cons_self, hx2, by rw [hx1]; exact hj⟩) (by omega)
        have ee : az_eff (1048576 * jo / 1048576) = -1 := by unfold az_eff; rw [if_neg (by omega), if_neg (by omega)]
        rw [ee] at n2
        have hI : az_cI (if true = true then 0 else 1) a f0 (s.1 + 1, s.2.1 + 1, su c.2 s.2.1 (1048576 * jo), (1048576 * jo + s.2.1) :: c.1, s.2.2.2.2) := by
          refine ⟨fun x hx => ?_, fun x hx ho => ?_, ?_, ?_, n1, by dsimp only; omega, ⟨⟨by dsimp only; omega, by dsimp only; omega⟩, ?_, ?_, ⟨?_, k4.2⟩, fun x hx => ?_, az_row_su l6 _ ⟨by omega, by omega⟩⟩, fun j hj => ?_⟩
          · rcases List.mem_cons.mp hx with rfl | hx
            · rw [hx1]; omega
            · exact l1 x hx
          · rcases List.mem_cons.mp hx with rfl | hx
            · rw [hx1, hx2]
              refine ⟨by (try dsimp only); omega, by (try dsimp only); omega, ?_, ?_⟩
              · rw [show ((s.2.1 : Nat) : Int).toNat = s.2.1 from rfl]
                dsimp only
                simp only [su, if_true]
                omega
              · rw [show ((s.2.1 : Nat) : Int).toNat = s.2.1 from rfl]
                dsimp only
                rw [az_dep_su _ _ _ _ _ (Nat.le_refl _)]
                exact l3
            · exact az_E2_su l2 _ x hx ho
          · obtain ⟨w', hw⟩ := l8
            exact ⟨(1048576 * jo + s.2.1) :: w', by dsimp only; rw [hw]; rfl⟩
          · dsimp only
            rw [n2, l3]
            rfl
          · dsimp only
            simp only [az_cnt]
            rw [if_neg (by omega), l5]
            omega
          · dsimp only
            simp only [List.length_cons]
            omega
          · dsimp only
            simp only [az_cno]
            rw [if_neg (by omega), l7]
            omega
          · rcases List.mem_cons.mp hx with rfl | hx
            · exact ⟨by omega, by omega, by rw [hx2]; omega⟩
            · exact k5 x (l10 x hx)
          · dsimp only
            simp only [su]
            rw [if_neg (by omega), l11 j hj]
            exact h8 j hj
        obtain ⟨r1, r2, r3, r4, r5, r6, r7⟩ := az_cond_s hB n true _ s1 hI he
        exact ⟨r1, r2, r3, r4, r5, r6, by dsimp only at r7; omega⟩
      · rw [if_neg hb2] at he; cases he
