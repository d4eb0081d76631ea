/-! the model's law as it is read: single steps -/

theorem az_sI_cl {a a0 : Nat} {d0 : Int} (hd : 0 ≤ d0) {w0 : List Int} (hh : az_hd w0) {f0 : Nat → Int} {sl : Nat} {s : Zs} (h : az_sI 1 a a0 d0 w0 f0 sl s) : s.2.1 + az_cnt s.2.2.2.1 ≤ 250 ∧ s.2.2.2.1.length ≤ 250 ∧ (0 ≤ s.1 ∧ s.1 ≤ 240) ∧ (∀ x, x ∈ s.2.2.2.1 → az_ent x) := by
  obtain ⟨ops, h1, h2, h3, h4, h5, h6, h8, h7⟩ := id h
  obtain ⟨k1, k2, k3, k4, k5, k6⟩ := id h6
  exact ⟨by omega, by omega, k1, k5⟩
def az_sg (g : Int) (s : Zs) : Zs := (s.1 + 1, (az_close (decide (g < 4)) s.2.2.2.1 s.2.1 s.2.2.1).2.1, (az_close (decide (g < 4)) s.2.2.2.1 s.2.1 s.2.2.1).2.2, (1048576 * g) :: (az_close (decide (g < 4)) s.2.2.2.1 s.2.1 s.2.2.1).1, s.2.2.2.2)
theorem az_sg_s {B : Int → Int} (hB : az_by B) {a a0 : Nat} {d0 : Int} (hd : 0 ≤ d0) {w0 : List Int} (hh : az_hd w0) {f0 : Nat → Int} {sl : Nat} {s : Zs} (h : az_sI 1 a a0 d0 w0 f0 sl s) (hs : az_sgn (B s.1) ≠ -1) : az_sI 0 a a0 d0 w0 f0 sl (az_sg (az_sgn (B s.1)) s) := by
  obtain ⟨ops, h1, h2, h3, h4, h5, h6, h8, h7⟩ := id h
  obtain ⟨k1, k2, k3, k4, k5, k6⟩ := id h6
  rw [h1, az_cnt_a] at k2
  rw [h1, az_cno_a] at k4
  rw [h1, List.length_append] at k3
  have hb := hB s.1
  have cl := fun all => az_close_s all hd hh ops s.2.1 s.2.2.1 h2 h3 h4 h5 (by omega) k6
  rw [← h1] at cl
  have hsg := az_sgn_in hs
  have hp : s.1 < 240 := by
    refine Decidable.byContradiction (fun q => ?_)
    have := hb.2.2 (by omega); omega
  obtain ⟨ops', r1, r2, r3, r4, r5, r6, r7, r8, r9, r10, r11, r12⟩ := cl (decide (az_sgn (B s.1) < 4))
  unfold az_sg
  revert r1 r3 r4 r5 r6 r9 r10
  generalize az_close (decide (az_sgn (B s.1) < 4)) s.2.2.2.1 s.2.1 s.2.2.1 = c
  intro r1 r3 r4 r5 r6 r9 r10
  have hent : ∀ x, x ∈ (1048576 * az_sgn (B s.1)) :: c.1 → az_ent x := fun x hx => by
    rcases List.mem_cons.mp hx with rfl | hx
    · exact ⟨by omega, by omega, by omega⟩
    · rw [r1] at hx
      refine k5 x ?_
      rw [h1]
      rcases List.mem_append.mp hx with hx | hx
      · exact List.mem_append_left _ (r2 x hx)
      · exact List.mem_append_right _ hx
  refine ⟨(1048576 * az_sgn (B s.1)) :: ops', by dsimp only; rw [r1]; rfl, fun x hx => ?_, ?_, r4, by dsimp only; omega, ⟨⟨by dsimp only; omega, by dsimp only; omega⟩, ?_, ?_, ⟨?_, by dsimp only; omega⟩, hent, r9⟩, by dsimp only; omega, fun j hj => by dsimp only; rw [r10 j (by omega)]; exact h7 j hj⟩
  · rcases List.mem_cons.mp hx with rfl | hx
    · left; omega
    · exact h2 x (r2 x hx)
  · dsimp only
    rw [r3]
    simp only [az_bin]
    rw [if_pos (by omega)]
    omega
  · dsimp only
    rw [r1]
    simp only [az_cnt]
    rw [if_pos (by omega), az_cnt_a]
    omega
  · dsimp only
    rw [r1, List.length_cons, List.length_append]
    omega
  · dsimp only
    rw [r1]
    simp only [az_cno]
    rw [if_neg (by omega), az_cno_a]
    omega

def az_bk (s : Zs) : Zs := (s.1 + 1, (az_close true s.2.2.2.1 s.2.1 s.2.2.1).2.1, (az_close true s.2.2.2.1 s.2.1 s.2.2.1).2.2, (az_close true s.2.2.2.1 s.2.1 s.2.2.1).1.tail, s.2.2.2.2 - 1)
theorem az_bk_s {B : Int → Int} (hB : az_by B) {a a0 : Nat} {d0 : Int} (hd : 0 ≤ d0) {w0 : List Int} (hh : az_hd w0) {f0 : Nat → Int} {sl : Nat} {s : Zs} (h : az_sI 1 a a0 d0 w0 f0 sl s) (hc : B s.1 = 93 ∧ az_has (s.2.2.2.1.length - w0.length) s.2.2.2.1 = true) : az_sI 1 a a0 d0 w0 f0 sl (az_bk s) ∧ (az_close true s.2.2.2.1 s.2.1 s.2.2.1).1 ≠ [] := by
  obtain ⟨ops, h1, h2, h3, h4, h5, h6, h8, h7⟩ := id h
  obtain ⟨k1, k2, k3, k4, k5, k6⟩ := id h6
  rw [h1, az_cnt_a] at k2
  rw [h1, az_cno_a] at k4
  rw [h1, List.length_append] at k3
  have hb := hB s.1
  have cl := fun all => az_close_s all hd hh ops s.2.1 s.2.2.1 h2 h3 h4 h5 (by omega) k6
  rw [← h1] at cl
  have hp : s.1 < 240 := by
    refine Decidable.byContradiction (fun q => ?_)
    have := hb.2.2 (by omega); omega
  obtain ⟨ops', r1, r2, r3, r4, r5, r6, r7, r8, r9, r10, r11, r12⟩ := cl true
  have h14 := hc.2
  rw [h1, az_has_a] at h14
  have hne := r12 h14
  unfold az_bk
  revert r1 r3 r4 r5 r6 r9 r10
  generalize az_close true s.2.2.2.1 s.2.1 s.2.2.1 = c
  intro r1 r3 r4 r5 r6 r9 r10
  cases hop : ops' with
  | nil => exact absurd hop hne
  | cons x r =>
    have hx := r11 rfl x r hop
    subst hop
    have et : c.1.tail = r ++ w0 := by rw [r1]; rfl
    simp only [az_bin, az_cnt, az_cno, List.length_cons] at r3 r6 r7 r8
    rw [if_neg (by omega)] at r3 r6
    rw [if_pos (by omega)] at r7
    refine ⟨?_, by rw [r1]; exact List.cons_ne_nil _ _⟩
    refine ⟨r, et, fun y hy => h2 y (r2 y (List.mem_cons_of_mem _ hy)), by dsimp only; omega, r4, by dsimp only; omega, ⟨⟨by dsimp only; omega, by dsimp only; omega⟩, ?_, ?_, ⟨?_, by dsimp only; omega⟩, fun y hy => ?_, r9⟩, by dsimp only; omega, fun j hj => by dsimp only; rw [r10 j (by omega)]; exact h7 j hj⟩
    · dsimp only; rw [et, az_cnt_a]; omega
    · dsimp only; rw [et, List.length_append]; omega
    · dsimp only; rw [et, az_cno_a]; omega
    · dsimp only at hy
      rw [et] at hy
      refine k5 y ?_
      rw [h1]
      rcases List.mem_append.mp hy with hy | hy
      · exact List.mem_append_left _ (r2 y (List.mem_cons_of_mem _ hy))
      · exact List.mem_append_right _ hy

theorem az_op_s {B : Int → Int} (hB : az_by B) {a : Nat} {f0 : Nat → Int} {s s2 : Zs} {wh : Int} (hwh : wh = 10 ∨ wh = 13) (h : az_cI 0 a f0 s) (hb : B s.1 = 33 ∨ B s.1 = 40) (e1 : az_open wh s = .inr s2) : az_cI 0 a f0 s2 := by
  obtain ⟨h1, h2, h3, h4, h5, h6, h7, h8⟩ := id h
  have hp : s.1 < 240 := by
    refine Decidable.byContradiction (fun q => ?_)
    have := (hB s.1).2.2 (by omega); omega
  obtain ⟨o1, o2⟩ := az_open_s (by omega) h7 hp e1
  rw [o2]
  refine ⟨fun x hx => ?_, fun x hx ho => ?_, ?_, h4, az_lc_w h5 (fun k ⟨y, hy, hy2⟩ => ⟨y, List.mem_cons_of_mem _ hy, hy2⟩), h6, by rw [← o2]; exact o1, h8⟩
  · rcases List.mem_cons.mp hx with rfl | hx
    · omega
    · exact h1 x hx
  · rcases List.mem_cons.mp hx with rfl | hx
    · omega
    · exact h2 x hx ho
  · obtain ⟨w', hw⟩ := h3
    exact ⟨(1048576 * wh) :: w', by dsimp only; rw [hw]; rfl⟩

theorem az_sh_s {B : Int → Int} (hB : az_by B) {a : Nat} {f0 : Nat → Int} {s : Zs} (h : az_cI 1 a f0 s) (hb : B s.1 = 41) : (az_land true s.2.2.2.1 s.2.1 s.2.2.1).1 ≠ [] ∧ ((az_shut s).2.2.2.1 ≠ [] → az_cI 1 a f0 (az_shut2 (az_shut s))) := by
  obtain ⟨h1, h2, h3, h4, h5, h6, h7, h8⟩ := id h
  obtain ⟨k1, k2, k3, k4, k5, k6⟩ := id h7
  have hm : s.2.1 < 260 := by omega
  have hp : s.1 < 240 := by
    refine Decidable.byContradiction (fun q => ?_)
    have := (hB s.1).2.2 (by omega); omega
  obtain ⟨l1, l2, l3, l4, l5, l6, l7, l8, l9, l10, l11, l12, l13⟩ := az_land_s true hm s.2.2.2.1 s.2.2.1 h1 h2 h4 h5 k6 h3 k5
  unfold az_shut2 az_shut
  dsimp only
  revert l1 l2 l3 l4 l5 l6 l7 l8 l9 l10 l11 l13
  generalize az_land true s.2.2.2.1 s.2.1 s.2.2.1 = c
  intro l1 l2 l3 l4 l5 l6 l7 l8 l9 l10 l11 l13
  cases hc : c.1 with
  | nil =>
    obtain ⟨w', hw⟩ := l8
    rw [hc] at hw
    simp at hw
  | cons x r =>
    rw [hc] at l1 l2 l4 l5 l7 l8 l9 l10
    have hx := l13 rfl x r hc
    rw [List.tail_cons]
    have lr : az_lc c.2 a s.2.1 r := az_lc_w l4 (fun k ⟨y, hy, hy2, hy3⟩ => by
      rcases List.mem_cons.mp hy with rfl | hy
      · omega
      · exact ⟨y, hy, hy2, hy3⟩)
    simp only [az_cnt, az_cno, List.length_cons] at l5 l7 l9
    rw [if_pos (by omega)] at l7
    refine ⟨List.cons_ne_nil _ _, fun hr => ?_⟩
    have lst : az_lst r := by
      obtain ⟨w', hw⟩ := l8
      cases w' with
      | nil => simp at hw; exact absurd hw.2 hr
      | cons y w' => simp at hw; exact ⟨w', hw.2⟩
    obtain ⟨g1, g2, g3, g4, g5, g6, g7, g8, g9, g10, g11, g12, g13⟩ := az_ends_s (a := a) r s.2.1 c.2 (s.2.2.2.2 - 1) (az_E1_t l1) (az_E2_t l2) l3 lr h6 (by omega) l6 (by omega) lst
    refine ⟨g1, g2, g10, g3, g4, by dsimp only; omega, ⟨⟨by dsimp only; omega, by dsimp only; omega⟩, by dsimp only; omega, by dsimp only; omega, ⟨g8, by dsimp only; omega⟩, fun y hy => k5 y (l10 y (List.mem_cons_of_mem _ (g12 y hy))), g7⟩, fun j hj => ?_⟩
    dsimp only
    rw [g13 j (by omega), l11 j hj]
    exact h8 j hj

theorem az_jm_s {B : Int → Int} (hB : az_by B) {a : Nat} {f0 : Nat → Int} {s : Zs} (h : az_cI 1 a f0 s) (hb2 : B s.1 = 38 ∨ B s.1 = 124) : az_cI 0 a f0 (az_jump (B s.1) s) := by
  obtain ⟨h1, h2, h3, h4, h5, h6, h7, h8⟩ := id h
  obtain ⟨k1, k2, k3, k4, k5, k6⟩ := id h7
  have hm : s.2.1 < 260 := by omega
  have hp : s.1 < 240 := by
    refine Decidable.byContradiction (fun q => ?_)
    have := (hB s.1).2.2 (by omega); omega
  obtain ⟨l1, l2, l3, l4, l5, l6, l7, l8, l9, l10, l11, l12, l13⟩ := az_land_s (decide (B s.1 = 124)) hm s.2.2.2.1 s.2.2.1 h1 h2 h4 h5 k6 h3 k5
  have hj := az_jop_in (B s.1)
  unfold az_jump
  revert l1 l2 l3 l4 l5 l6 l7 l8 l9 l10 l11
  generalize az_land (decide (B s.1 = 124)) s.2.2.2.1 s.2.1 s.2.2.1 = c
  generalize az_jop (B s.1) = jo at hj
  intro l1 l2 l3 l4 l5 l6 l7 l8 l9 l10 l11
  have lw : az_lc c.2 a s.2.1 ((1048576 * jo + s.2.1) :: c.1) := az_lc_w l4 (fun k ⟨y, hy, hy2⟩ => ⟨y, List.mem_cons_of_mem _ hy, hy2⟩)
  have hx1 : (1048576 * jo + (s.2.1 : Int)) / 1048576 = jo := by omega
  have hx2 : (1048576 * jo + (s.2.1 : Int)) % 1048576 = s.2.1 := by omega
  obtain ⟨n1, n2⟩ := az_lc_note lw h6 (x := 1048576 * jo) ⟨by omega, by omega⟩ (by omega) (by omega) (by omega) (fun _ => ⟨by omega, _, List.mem_cons_self, hx2, by rw [hx1]; exact hj⟩) (by omega)
  have ee : az_eff (1048576 * jo / 1048576) = -1 := by unfold az_eff; rw [if_neg (by omega), if_neg (by omega)]
  rw [ee] at n2
  refine ⟨fun x hx => ?_, fun x hx ho => ?_, ?_, ?_, n1, by dsimp only; omega, ⟨⟨by dsimp only; omega, by dsimp only; omega⟩, ?_, ?_, ⟨?_, k4.2⟩, fun x hx => ?_, az_row_su l6 _ ⟨by omega, by omega⟩⟩, fun j hj => ?_⟩
  · rcases List.mem_cons.mp hx with rfl | hx
    · rw [hx1]; omega
    · exact l1 x hx
  · rcases List.mem_cons.mp hx with rfl | hx
    · rw [hx1, hx2]
      refine ⟨by (try dsimp only); omega, by (try dsimp only); omega, ?_, ?_⟩
      · rw [show ((s.2.1 : Nat) : Int).toNat = s.2.1 from rfl]
        dsimp only
        simp only [su, if_true]
        omega
      · rw [show ((s.2.1 : Nat) : Int).toNat = s.2.1 from rfl]
        dsimp only
        rw [az_dep_su _ _ _ _ _ (Nat.le_refl _)]
        exact l3
    · exact az_E2_su l2 _ x hx ho
  · obtain ⟨w', hw⟩ := l8
    exact ⟨(1048576 * jo + s.2.1) :: w', by dsimp only; rw [hw]; rfl⟩
  · dsimp only
    rw [n2, l3]
    rfl
  · dsimp only
    simp only [az_cnt]
    rw [if_neg (by omega), l5]
    omega
  · dsimp only
    simp only [List.length_cons]
    omega
  · dsimp only
    simp only [az_cno]
    rw [if_neg (by omega), l7]
    omega
  · rcases List.mem_cons.mp hx with rfl | hx
    · exact ⟨by omega, by omega, by rw [hx2]; omega⟩
    · exact k5 x (l10 x hx)
  · dsimp only
    simp only [su]
    rw [if_neg (by omega), l11 j hj]
    exact h8 j hj
