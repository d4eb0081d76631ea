/-! the model's law as it is read: what is kept -/
theorem az_cnt_a (u v : List Int) : az_cnt (u ++ v) = az_cnt u + az_cnt v := by
  induction u with
  | nil => simp [az_cnt]
  | cons x u ih => simp only [List.cons_append, az_cnt, ih]; omega
theorem az_cno_a (u v : List Int) : az_cno (u ++ v) = az_cno u + az_cno v := by
  induction u with
  | nil => simp [az_cno]
  | cons x u ih => simp only [List.cons_append, az_cno, ih]; omega
theorem az_has_a : ∀ (u v : List Int), az_has ((u ++ v).length - v.length) (u ++ v) = true ↔ ∃ x, x ∈ u ∧ x / 1048576 = 14 := by
  have key : ∀ (u v : List Int), az_has u.length (u ++ v) = true ↔ ∃ x, x ∈ u ∧ x / 1048576 = 14 := by
    intro u
    induction u with
    | nil => intro v; simp [az_has]
    | cons x u ih => intro v; simp [az_has, ih]
  intro u v
  rw [show (u ++ v).length - v.length = u.length by simp]
  exact key u v
/-- a sum is read over what waits (w0): with an operand behind (b = 1), or wanted (b = 0) -/
def az_sI (b a a0 : Nat) (d0 : Int) (w0 : List Int) (f0 : Nat → Int) (sl : Nat) (s : Zs) : Prop :=
  ∃ ops, s.2.2.2.1 = ops ++ w0 ∧ (∀ x, x ∈ ops → (2 ≤ x / 1048576 ∧ x / 1048576 ≤ 6) ∨ x / 1048576 = 14) ∧ az_dep s.2.2.1 a s.2.1 = d0 + b + az_bin ops ∧ az_lc s.2.2.1 a s.2.1 w0 ∧ a ≤ s.2.1 ∧ az_ok sl s ∧ a0 ≤ s.2.1 ∧ ∀ j, j < a0 → s.2.2.1 j = f0 j
abbrev az_hd (w0 : List Int) : Prop := ∀ x, w0.head? = some x → ¬ (2 ≤ x / 1048576 ∧ x / 1048576 ≤ 6)
theorem az_open_s {what : Int} (hw : what = 10 ∨ what = 13 ∨ what = 14) {sl : Nat} {s s1 : Zs} (h : az_ok sl s) (hp : s.1 < 240) (he : az_open what s = .inr s1) : az_ok sl s1 ∧ s1 = (s.1 + 1, s.2.1, s.2.2.1, (1048576 * what) :: s.2.2.2.1, s.2.2.2.2 + 1) := by
  unfold az_open at he
  split at he
  · cases he
  · next h6 =>
    cases he
    obtain ⟨h1, h2, h3, h4, h5, h7⟩ := h
    refine ⟨⟨⟨by omega, by omega⟩, ?_, ?_, ⟨?_, by dsimp only; omega⟩, ?_, h7⟩, rfl⟩
    · simp only [az_cnt]
      split <;> omega
    · simp only [List.length_cons]; omega
    · simp only [az_cno]
      rw [if_pos (by omega)]; omega
    · intro x hx
      rcases List.mem_cons.mp hx with rfl | hx
      · exact ⟨by omega, by omega, by omega⟩
      · exact h5 x hx
theorem az_close_s (all : Bool) {a : Nat} {d0 : Int} (hd : 0 ≤ d0) {w0 : List Int} (hh : az_hd w0) : ∀ (ops : List Int) (m : Nat) (f : Nat → Int), (∀ x, x ∈ ops → (2 ≤ x / 1048576 ∧ x / 1048576 ≤ 6) ∨ x / 1048576 = 14) → az_dep f a m = d0 + 1 + az_bin ops → az_lc f a m w0 → a ≤ m → m + az_cnt ops ≤ 250 → (∀ j : Nat, j < 260 → 0 ≤ f j ∧ f j < 13631488) →
    ∃ ops', (az_close all (ops ++ w0) m f).1 = ops' ++ w0 ∧ (∀ x, x ∈ ops' → x ∈ ops) ∧ az_dep (az_close all (ops ++ w0) m f).2.2 a (az_close all (ops ++ w0) m f).2.1 = d0 + 1 + az_bin ops' ∧ az_lc (az_close all (ops ++ w0) m f).2.2 a (az_close all (ops ++ w0) m f).2.1 w0 ∧ m ≤ (az_close all (ops ++ w0) m f).2.1 ∧ (az_close all (ops ++ w0) m f).2.1 + az_cnt ops' = m + az_cnt ops ∧ az_cno ops' = az_cno ops ∧ ops'.length ≤ ops.length ∧ (∀ j : Nat, j < 260 → 0 ≤ (az_close all (ops ++ w0) m f).2.2 j ∧ (az_close all (ops ++ w0) m f).2.2 j < 13631488) ∧ (∀ j, j < m → (az_close all (ops ++ w0) m f).2.2 j = f j) ∧ (all = true → ∀ x r, ops' = x :: r → x / 1048576 = 14) ∧ ((∃ x, x ∈ ops ∧ x / 1048576 = 14) → ops' ≠ [])
  | [], m, f, ho, hdep, hl, ha, hm, hf => by
    have e : az_close all ([] ++ w0) m f = (w0, m, f) := by
      cases w0 with
      | nil => rfl
      | cons x w =>
        have := hh x rfl
        simp only [List.nil_append, az_close]
        rw [if_neg (by omega)]
    rw [e]
    exact ⟨[], rfl, fun x hx => hx, hdep, hl, Nat.le_refl _, rfl, rfl, Nat.le_refl _, hf, fun _ _ => rfl, (fun _ x r h => by cases h), (fun ⟨x, hx, _⟩ => by cases hx)⟩
  | x :: ops, m, f, ho, hdep, hl, ha, hm, hf => by
    have hx := ho x List.mem_cons_self
    by_cases hp : az_popc all x
    · have hb : 2 ≤ x / 1048576 ∧ x / 1048576 ≤ 6 := by omega
      have e : az_close all (x :: ops ++ w0) m f = az_close all (ops ++ w0) (m + 1) (su f m (1048576 * (x / 1048576))) := by
        simp only [List.cons_append, az_close]
        rw [if_pos hp]
      simp only [az_bin, az_cnt, if_pos hb, if_pos (Or.inl hb : (2 ≤ x / 1048576 ∧ x / 1048576 ≤ 6) ∨ x / 1048576 = 10)] at hdep hm
      have q : 1048576 * (x / 1048576) / 1048576 = x / 1048576 := by omega
      obtain ⟨n1, n2⟩ := az_lc_note hl ha (x := 1048576 * (x / 1048576)) ⟨by omega, by omega⟩ (by omega) (by omega) (by omega) (by omega) (by omega)
      have ee : az_eff (1048576 * (x / 1048576) / 1048576) = -1 := by unfold az_eff; rw [if_neg (by omega), if_neg (by omega)]
      rw [ee] at n2
      obtain ⟨ops', r1, r2, r3, r4, r5, r6, r7, r8, r9, r10, r11, r12⟩ := az_close_s all hd hh ops (m + 1) (su f m (1048576 * (x / 1048576))) (fun y hy => ho y (List.mem_cons_of_mem _ hy)) (by omega) n1 (by omega) (by omega) (az_row_su hf m ⟨by omega, by omega⟩)
      rw [e]
      refine ⟨ops', r1, fun y hy => List.mem_cons_of_mem _ (r2 y hy), r3, r4, by omega, ?_, ?_, by simp only [List.length_cons]; omega, r9, fun j hj => ?_, r11, ?_⟩
      · simp only [az_cnt, if_pos (Or.inl hb : (2 ≤ x / 1048576 ∧ x / 1048576 ≤ 6) ∨ x / 1048576 = 10)]; omega
      · simp only [az_cno]; rw [if_neg (by omega)]; omega
      · rw [r10 j (by omega)]; simp only [su]; rw [if_neg (by omega)]
      · intro ⟨y, hy, hy14⟩
        refine r12 ?_
        rcases List.mem_cons.mp hy with rfl | hy
        · omega
        · exact ⟨y, hy, hy14⟩
    · have e : az_close all (x :: ops ++ w0) m f = (x :: ops ++ w0, m, f) := by
        simp only [List.cons_append, az_close]
        rw [if_neg hp]
      rw [e]
      refine ⟨x :: ops, rfl, fun y hy => hy, hdep, hl, Nat.le_refl _, rfl, rfl, Nat.le_refl _, hf, fun _ _ => rfl, fun hall y r h => ?_, fun _ h => by cases h⟩
      obtain ⟨rfl, -⟩ := List.cons.inj h
      simp only [az_popc, hall, true_and] at hp
      omega
theorem az_letter_in {c : Int} (h : lp_letter c ≠ -1) : 0 ≤ lp_letter c ∧ lp_letter c < 10 ∧ 0 ≤ c := by
  unfold lp_letter at h ⊢
  repeat' split
  all_goals first | omega | (exfalso; apply h; repeat' split; all_goals omega)
theorem az_fac_s {B : Int → Int} (hB : az_by B) {a a0 : Nat} {d0 : Int} (hd : 0 ≤ d0) {w0 : List Int} {f0 : Nat → Int} {sl : Nat} : ∀ (n : Nat) (s s1 : Zs), az_sI 0 a a0 d0 w0 f0 sl s → az_fac B n s = .inr s1 → az_sI 1 a a0 d0 w0 f0 sl s1 ∧ s.1 < s1.1
  | 0, s, s1, h, he => by cases he
  | n + 1, s, s1, h, he => by
    obtain ⟨ops, h1, h2, h3, h4, h5, h6, h8, h7⟩ := id h
    obtain ⟨k1, k2, k3, k4, k5, k6⟩ := id h6
    have hb := hB s.1
    simp only [az_fac] at he
    split at he
    · next h91 =>
      have hp : s.1 < 240 := by
        refine Decidable.byContradiction (fun q => ?_)
        have := hb.2.2 (by omega); omega
      cases ho : az_open 14 s with
      | inl e => rw [ho] at he; cases he
      | inr s2 =>
        rw [ho] at he
        obtain ⟨o1, o2⟩ := az_open_s (.inr (.inr rfl)) h6 hp ho
        obtain ⟨r1, r2⟩ := az_fac_s hB hd n s2 s1 ⟨14680064 :: ops, by rw [o2]; dsimp only; rw [h1]; rfl, fun x hx => by rcases List.mem_cons.mp hx with rfl | hx; exact .inr rfl; exact h2 x hx, by rw [o2]; dsimp only; rw [h3]; simp only [az_bin]; rw [if_neg (by decide)]; omega, by rw [o2]; exact h4, by rw [o2]; exact h5, o1, by rw [o2]; exact h8, by rw [o2]; exact h7⟩ he
        rw [o2] at r2
        exact ⟨r1, by dsimp only at r2; omega⟩
    · split at he
      · next h91 hdg =>
        have hp : s.1 < 240 := by
          refine Decidable.byContradiction (fun q => ?_)
          have := hb.2.2 (by omega); omega
        cases hn : az_num B 5 s.1 0 with
        | inl e => rw [hn] at he; cases he
        | inr q =>
          rw [hn] at he
          cases he
          obtain ⟨q1, q2, q3, q4, q5⟩ := az_num_s hB 5 s.1 0 q 100000 (by decide) (by decide) hn
          have q6 := q3 hdg (by decide)
          obtain ⟨n1, n2⟩ := az_lc_note h4 h5 (x := q.2) ⟨by omega, by omega⟩ (by omega) (by omega) (by omega) (by omega) (by omega)
          rw [show q.2 / 1048576 = 0 by omega] at n2
          refine ⟨⟨ops, h1, h2, ?_, n1, by dsimp only; omega, ⟨⟨by dsimp only; omega, by dsimp only; omega⟩, by dsimp only; omega, by dsimp only; omega, k4, k5, az_row_su k6 _ ⟨by omega, by omega⟩⟩, by dsimp only; omega, fun j hj => ?_⟩, q6⟩
          · dsimp only
            rw [n2, h3]
            first | (rw [show az_eff 0 = 1 from rfl]; omega) | (rw [show az_eff 1 = 1 from rfl]; omega)
          · dsimp only; simp only [su]; rw [if_neg (by omega)]; exact h7 j hj
      · split at he
        · cases he
        · next h91 hdg hlt =>
          cases he
          have hl := az_letter_in hlt
          have hp : s.1 < 240 := by
            refine Decidable.byContradiction (fun q => ?_)
            have := hb.2.2 (by omega); omega
          obtain ⟨n1, n2⟩ := az_lc_note h4 h5 (x := 1048576 + lp_letter (B s.1)) ⟨by omega, by omega⟩ (by omega) (by omega) (by omega) (by omega) (by omega)
          rw [show (1048576 + lp_letter (B s.1)) / 1048576 = 1 by omega] at n2
          refine ⟨⟨ops, h1, h2, ?_, n1, by dsimp only; omega, ⟨⟨by dsimp only; omega, by dsimp only; omega⟩, by dsimp only; omega, by dsimp only; omega, k4, k5, az_row_su k6 _ ⟨by omega, by omega⟩⟩, by dsimp only; omega, fun j hj => ?_⟩, by dsimp only; omega⟩
          · dsimp only
            rw [n2, h3]
            first | (rw [show az_eff 0 = 1 from rfl]; omega) | (rw [show az_eff 1 = 1 from rfl]; omega)
          · dsimp only; simp only [su]; rw [if_neg (by omega)]; exact h7 j hj
theorem az_sgn_in {c : Int} (h : az_sgn c ≠ -1) : 2 ≤ az_sgn c ∧ az_sgn c ≤ 6 ∧ 0 ≤ c := by
  unfold az_sgn at h ⊢
  repeat' split
  all_goals first | omega | (exfalso; apply h; repeat' split; all_goals omega)
theorem az_sum_s {B : Int → Int} (hB : az_by B) {a a0 : Nat} {d0 : Int} (hd : 0 ≤ d0) {w0 : List Int} (hh : az_hd w0) {f0 : Nat → Int} {sl : Nat} : ∀ (n : Nat) (s s1 : Zs), az_sI 1 a a0 d0 w0 f0 sl s → az_sum B w0.length n s = .inr s1 → az_sI 1 a a0 d0 w0 f0 sl s1 ∧ s1.2.2.2.1 = w0 ∧ s.1 ≤ s1.1
  | 0, s, s1, h, he => by cases he
  | n + 1, s, s1, h, he => by
    obtain ⟨ops, h1, h2, h3, h4, h5, h6, h8, h7⟩ := id h
    obtain ⟨k1, k2, k3, k4, k5, k6⟩ := id h6
    rw [h1, az_cnt_a] at k2
    rw [h1, az_cno_a] at k4
    rw [h1, List.length_append] at k3
    have hb := hB s.1
    have cl := fun all => az_close_s all hd hh ops s.2.1 s.2.2.1 h2 h3 h4 h5 (by omega) k6
    rw [← h1] at cl
    simp only [az_sum] at he
    by_cases hs : az_sgn (B s.1) ≠ -1
    · rw [if_pos hs] at he
      have hsg := az_sgn_in hs
      have hp : s.1 < 240 := by
        refine Decidable.byContradiction (fun q => ?_)
        have := hb.2.2 (by omega); omega
      obtain ⟨ops', r1, r2, r3, r4, r5, r6, r7, r8, r9, r10, r11, r12⟩ := cl (decide (az_sgn (B s.1) < 4))
      revert he r1 r3 r4 r5 r6 r9 r10
      generalize az_close (decide (az_sgn (B s.1) < 4)) s.2.2.2.1 s.2.1 s.2.2.1 = c
      intro he r1 r3 r4 r5 r6 r9 r10
      have hent : ∀ x, x ∈ (1048576 * az_sgn (B s.1)) :: c.1 → az_ent x := fun x hx => by
        rcases List.mem_cons.mp hx with rfl | hx
        · exact ⟨by omega, by omega, by omega⟩
        · rw [r1] at hx
          refine k5 x ?_
          rw [h1]
          rcases List.mem_append.mp hx with hx | hx
          · exact List.mem_append_left _ (r2 x hx)
          · exact List.mem_append_right _ hx
      have hI : az_sI 0 a a0 d0 w0 f0 sl (s.1 + 1, c.2.1, c.2.2, (1048576 * az_sgn (B s.1)) :: c.1, s.2.2.2.2) := by
        refine ⟨(1048576 * az_sgn (B s.1)) :: ops', by dsimp only; rw [r1]; rfl, fun x hx => ?_, ?_, r4, by dsimp only; omega, ⟨⟨by dsimp only; omega, by dsimp only; omega⟩, ?_, ?_, ⟨?_, by dsimp only; omega⟩, hent, r9⟩, by dsimp only; omega, fun j hj => by dsimp only; rw [r10 j (by omega)]; exact h7 j hj⟩
        · rcases List.mem_cons.mp hx with rfl | hx
          · left; omega
          · exact h2 x (r2 x hx)
        · dsimp only
          rw [r3]
          simp only [az_bin]
          rw [if_pos (by omega)]
          omega
        · dsimp only
          rw [r1]
          simp only [az_cnt]
          rw [if_pos (by omega), az_cnt_a]
          omega
        · dsimp only
          rw [r1, List.length_cons, List.length_append]
          omega
        · dsimp only
          rw [r1]
          simp only [az_cno]
          rw [if_neg (by omega), az_cno_a]
          omega
      cases hf : az_fac B 8 (s.1 + 1, c.2.1, c.2.2, (1048576 * az_sgn (B s.1)) :: c.1, s.2.2.2.2) with
      | inl e => rw [hf] at he; cases he
      | inr s2 =>
        rw [hf] at he
        obtain ⟨f1, f2⟩ := az_fac_s hB hd 8 _ _ hI hf
        obtain ⟨g1, g2, g3⟩ := az_sum_s hB hd hh n s2 s1 f1 he
        exact ⟨g1, g2, by dsimp only at f2; omega⟩
    · rw [if_neg hs] at he
      by_cases hc : B s.1 = 93 ∧ az_has (s.2.2.2.1.length - w0.length) s.2.2.2.1 = true
      · rw [if_pos hc] at he
        have hp : s.1 < 240 := by
          refine Decidable.byContradiction (fun q => ?_)
          have := hb.2.2 (by omega); omega
        obtain ⟨ops', r1, r2, r3, r4, r5, r6, r7, r8, r9, r10, r11, r12⟩ := cl true
        have h14 := hc.2
        rw [h1, az_has_a] at h14
        have hne := r12 h14
        revert he r1 r3 r4 r5 r6 r9 r10
        generalize az_close true s.2.2.2.1 s.2.1 s.2.2.1 = c
        intro he r1 r3 r4 r5 r6 r9 r10
        cases hop : ops' with
        | nil => exact absurd hop hne
        | cons x r =>
          have hx := r11 rfl x r hop
          subst hop
          have et : c.1.tail = r ++ w0 := by rw [r1]; rfl
          simp only [az_bin, az_cnt, az_cno, List.length_cons] at r3 r6 r7 r8
          rw [if_neg (by omega)] at r3 r6
          rw [if_pos (by omega)] at r7
          have hI : az_sI 1 a a0 d0 w0 f0 sl (s.1 + 1, c.2.1, c.2.2, c.1.tail, s.2.2.2.2 - 1) := by
            refine ⟨r, et, fun y hy => h2 y (r2 y (List.mem_cons_of_mem _ hy)), by dsimp only; omega, r4, by dsimp only; omega, ⟨⟨by dsimp only; omega, by dsimp only; omega⟩, ?_, ?_, ⟨?_, by dsimp only; omega⟩, fun y hy => ?_, r9⟩, by dsimp only; omega, fun j hj => by dsimp only; rw [r10 j (by omega)]; exact h7 j hj⟩
            · dsimp only; rw [et, az_cnt_a]; omega
            · dsimp only; rw [et, List.length_append]; omega
            · dsimp only; rw [et, az_cno_a]; omega
            · dsimp only at hy
              rw [et] at hy
              refine k5 y ?_
              rw [h1]
              rcases List.mem_append.mp hy with hy | hy
              · exact List.mem_append_left _ (r2 y (List.mem_cons_of_mem _ hy))
              · exact List.mem_append_right _ hy
          obtain ⟨g1, g2, g3⟩ := az_sum_s hB hd hh n _ s1 hI he
          exact ⟨g1, g2, by dsimp only at g3; omega⟩
      · rw [if_neg hc] at he
        by_cases hn : az_has (s.2.2.2.1.length - w0.length) s.2.2.2.1 = true
        · rw [if_pos hn] at he; cases he
        · rw [if_neg hn] at he
          have hno : ¬ ∃ x, x ∈ ops ∧ x / 1048576 = 14 := fun q => hn (by rw [h1, az_has_a]; exact q)
          obtain ⟨ops', r1, r2, r3, r4, r5, r6, r7, r8, r9, r10, r11, r12⟩ := cl true
          have he0 : ops' = [] := by
            cases hop : ops' with
            | nil => rfl
            | cons x r => exact absurd ⟨x, r2 x (by rw [hop]; exact List.mem_cons_self), r11 rfl x r hop⟩ hno
          subst he0
          cases he
          refine ⟨⟨[], r1, (fun x hx => by cases hx), r3, r4, by dsimp only; omega, ⟨k1, ?_, ?_, ⟨?_, k4.2⟩, fun y hy => ?_, r9⟩, by dsimp only; omega, fun j hj => by dsimp only; rw [r10 j (by omega)]; exact h7 j hj⟩, r1, Int.le_refl _⟩
          · dsimp only; rw [r1, az_cnt_a]; omega
          · dsimp only; rw [r1, List.length_append]; omega
          · dsimp only; rw [r1, az_cno_a]; omega
          · dsimp only at hy
            rw [r1] at hy
            refine k5 y ?_
            rw [h1]
            exact List.mem_append_right _ (by simpa using hy)
/-- a sum, from the first sign on -/
theorem az_rs_s {B : Int → Int} (hB : az_by B) {a a0 : Nat} {d0 : Int} (hd : 0 ≤ d0) {f0 : Nat → Int} {sl : Nat} {s s1 : Zs} (hh : az_hd s.2.2.2.1) (hdep : az_dep s.2.2.1 a s.2.1 = d0) (hl : az_lc s.2.2.1 a s.2.1 s.2.2.2.1) (ha : a ≤ s.2.1) (hok : az_ok sl s) (h8 : a0 ≤ s.2.1) (h0 : ∀ j, j < a0 → s.2.2.1 j = f0 j) (he : az_rs B s = .inr s1) : s1.2.2.2.1 = s.2.2.2.1 ∧ az_dep s1.2.2.1 a s1.2.1 = d0 + 1 ∧ az_lc s1.2.2.1 a s1.2.1 s.2.2.2.1 ∧ a ≤ s1.2.1 ∧ az_ok sl s1 ∧ (a0 ≤ s1.2.1 ∧ ∀ j, j < a0 → s1.2.2.1 j = f0 j) ∧ s.1 < s1.1 := by
  unfold az_rs at he
  cases hf : az_fac B 8 s with
  | inl e => rw [hf] at he; cases he
  | inr s2 =>
    rw [hf] at he
    obtain ⟨f1, f2⟩ := az_fac_s hB hd 8 s s2 (w0 := s.2.2.2.1) (f0 := f0) (sl := sl) ⟨[], rfl, (fun x hx => by cases hx), by rw [hdep]; simp [az_bin], hl, ha, hok, h8, h0⟩ hf
    obtain ⟨⟨ops, g1, g2, g3, g4, g5, g6, g7⟩, g8, g9⟩ := az_sum_s hB hd hh 250 s2 s1 f1 he
    have : ops = [] := by
      rw [g8] at g1
      have := congrArg List.length g1
      simp at this
      exact this
    subst this
    refine ⟨g8, by rw [g3]; simp [az_bin], g4, g5, g6, g7, by omega⟩
