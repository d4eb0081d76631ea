/-! the law in force, on both sides -/
def fl_law (t : hy_T) : Prop := (t 11 7 = t 59 18 ∧ 0 ≤ t 11 7 ∧ t 11 7 ≤ 16) ∧ ∀ i : Nat, (i : Int) < t 11 7 → tl_cl (t 12) (t 13) (t 14) (t 15) (t 16) (t 11 3) (t 72) 240 (t 73) (t 74) (t 75) (t 76) i
theorem fl_law_F {t t1 : hy_T} (h : fl_law t) (hY : ∀ r j, (lawX r j || mlawX r j) = true → t1 r j = t r j) : fl_law t1 := by
  have row : ∀ r, (∀ j, (lawX r j || mlawX r j) = true) → t1 r = t r := fun r q => funext fun j => hY r j (q j)
  unfold fl_law
  rw [hY 11 7 rfl, hY 59 18 rfl, hY 11 3 rfl, row 12 (fun _ => rfl), row 13 (fun _ => rfl), row 14 (fun _ => rfl), row 15 (fun _ => rfl), row 16 (fun _ => rfl), row 72 (fun _ => rfl), row 73 (fun _ => rfl), row 74 (fun _ => rfl), row 75 (fun _ => rfl), row 76 (fun _ => rfl)]
  exact h
theorem fl_co {t : hy_T} (h : fl_law t) (hk : ml_ok t) {V V' : Nat → Int} (hV : ∀ j, j < 10 → V j = V' j) {i : Nat} (hi : (i : Int) < t 11 7) : lc_val t V (t 16 i) = mc_val (t 72) V' (t 75 i) (t 76 i) ∧ 0 ≤ lc_val t V (t 16 i) ∧ lc_val t V (t 16 i) ≤ 1 := by
  obtain ⟨⟨h1, h2, h3⟩, h4⟩ := h
  obtain ⟨-, ⟨⟨a, b, D, ⟨e1, e2, e3⟩, ⟨e4, e5⟩, ⟨e6, e7⟩, ⟨e8, e9⟩, e10⟩, e11⟩, -⟩ := h4 i hi
  obtain ⟨Dm, hw⟩ := (hk.2 i (by omega) (by omega)).1
  rw [e1, e2] at hw
  unfold lc_val mc_val
  rw [e1, e2, e4]
  have hD0 : Dm a = 0 := by
    have := hw.2.1
    rw [Int.toNat_natCast] at this
    exact this
  obtain ⟨r1, r2⟩ := tl_run (ops := t 12) (args := t 13) (steps := t 11 3) (V := V) (V' := V') hw (by omega) e6 e7 e8 e10 hV 240 260 a 0 (fun _ => 0) (Nat.le_refl _) e3 (by omega) (by omega) hD0 (fun c => absurd c.1 (Nat.lt_irrefl a))
  exact ⟨r1, r2 e9⟩
theorem fl_am {t : hy_T} (h : fl_law t) (hk : ml_ok t) {V V' : Nat → Int} (hV : ∀ j, j < 10 → V j = V' j) {i : Nat} (hi : (i : Int) < t 11 7) (ha : t 14 i = 98 ∨ t 14 i = 118) : lc_val t V (t 15 i) = mc_val (t 72) V' (t 74 i) (t 75 i) := by
  obtain ⟨⟨h1, h2, h3⟩, h4⟩ := h
  obtain ⟨⟨k1, -⟩, -, h5⟩ := h4 i hi
  obtain ⟨⟨⟨a, b, D, ⟨e1, e2, e3⟩, ⟨e4, e5⟩, ⟨e6, e7⟩, e10⟩, e11⟩, -⟩ := h5 (by unfold az_amt; omega)
  obtain ⟨Dm, hw⟩ := (hk.2 i (by omega) (by omega)).2 (by omega)
  rw [e1, e2] at hw
  unfold lc_val mc_val
  rw [e1, e2, e4]
  have hD0 : Dm a = 0 := by
    have := hw.2.1
    rw [Int.toNat_natCast] at this
    exact this
  have hbw : az_bw (t 72) a b [] := fun j q1 q2 => by
    have := tl_cm_op (e6 j q1 q2)
    exact ⟨⟨by omega, fun q => by omega⟩, fun q => by omega⟩
  exact (tl_run (ops := t 12) (args := t 13) (steps := t 11 3) (V := V) (V' := V') hw (by omega) (fun j q1 q2 => .inl (.inl (e6 j q1 q2))) e7 hbw e10 hV 240 260 a 0 (fun _ => 0) (Nat.le_refl _) e3 (by omega) (by omega) hD0 (fun c => absurd c.1 (Nat.lt_irrefl a))).1
theorem fl_kind {t : hy_T} (h : fl_law t) {i : Nat} (hi : (i : Int) < t 11 7) : t 14 i = t 73 i := (h.2 i hi).1.1
theorem fl_holdN {t : hy_T} (h : fl_law t) (hk : ml_ok t) {V V' : Nat → Int} (hV : ∀ j, j < 10 → V j = V' j) (k : Int) : ∀ (n q : Nat) (s : Bool), ((n + q : Nat) : Int) = t 11 7 →
    (mb_holdsN t V' k n q s = true ↔ ((∃ j : Nat, q ≤ j ∧ (j : Int) < t 11 7 ∧ t 14 j = k ∧ lc_val t V (t 16 j) ≠ 0) ∨ ((¬ ∃ j : Nat, q ≤ j ∧ (j : Int) < t 11 7 ∧ t 14 j = k) ∧ s = true)))
  | 0, q, s, hn => by
    simp only [mb_holdsN]
    constructor
    · exact fun e => .inr ⟨fun ⟨j, j1, j2, _⟩ => by omega, e⟩
    · rintro (⟨j, j1, j2, _⟩ | ⟨_, e⟩)
      · omega
      · exact e
  | n + 1, q, s, hn => by
    have hq : (q : Int) < t 11 7 := by omega
    have ek := fl_kind h hq
    obtain ⟨v1, v2, v3⟩ := fl_co h hk hV hq
    simp only [mb_holdsN]
    rw [← ek, ← v1]
    by_cases hc : t 14 q = k
    · rw [if_pos hc]
      by_cases hv : lc_val t V (t 16 q) = 1
      · rw [if_pos hv]
        exact ⟨fun _ => .inl ⟨q, Nat.le_refl _, hq, hc, by omega⟩, fun _ => rfl⟩
      · rw [if_neg hv, fl_holdN h hk hV k n (q + 1) false (by omega)]
        constructor
        · rintro (⟨j, j1, j2, j3⟩ | ⟨_, e⟩)
          · exact .inl ⟨j, by omega, j2, j3⟩
          · cases e
        · rintro (⟨j, j1, j2, j3, j4⟩ | ⟨e, _⟩)
          · refine .inl ⟨j, ?_, j2, j3, j4⟩
            by_cases hj : j = q
            · rw [hj] at j4
              omega
            · omega
          · exact absurd ⟨q, Nat.le_refl _, hq, hc⟩ e
    · rw [if_neg hc, fl_holdN h hk hV k n (q + 1) s (by omega)]
      constructor
      · rintro (⟨j, j1, j2, j3⟩ | ⟨e, es⟩)
        · exact .inl ⟨j, by omega, j2, j3⟩
        · exact .inr ⟨fun ⟨j, j1, j2, j3⟩ => e ⟨j, by
            by_cases hj : j = q
            · rw [hj] at j3
              exact absurd j3 hc
            · omega, j2, j3⟩, es⟩
      · rintro (⟨j, j1, j2, j3, j4⟩ | ⟨e, es⟩)
        · refine .inl ⟨j, ?_, j2, j3, j4⟩
          by_cases hj : j = q
          · rw [hj] at j3
            exact absurd j3 hc
          · omega
        · exact .inr ⟨fun ⟨j, j1, j2, j3⟩ => e ⟨j, by omega, j2, j3⟩, es⟩
/-- whether a clause holds -/
theorem fl_hold {t : hy_T} (h : fl_law t) (hk : ml_ok t) {V V' : Nat → Int} (hV : ∀ j, j < 10 → V j = V' j) (k : Int) (s : Bool) : mb_holds t V' k s = if rc_has t k = true then lc_hold t V k else s := by
  have e := fl_holdN h hk hV k (t 59 18).toNat 0 s (by have := h.1; omega)
  have e2 : rc_has t k = true ↔ ∃ j : Nat, 0 ≤ j ∧ (j : Int) < t 11 7 ∧ t 14 j = k := by
    unfold rc_has
    rw [decide_eq_true_eq]
    exact ⟨fun ⟨j, j1, j2⟩ => ⟨j, Nat.zero_le _, by omega, j2⟩, fun ⟨j, _, j1, j2⟩ => ⟨j, by omega, j2⟩⟩
  have e3 : lc_hold t V k = true ↔ ∃ j : Nat, 0 ≤ j ∧ (j : Int) < t 11 7 ∧ t 14 j = k ∧ lc_val t V (t 16 j) ≠ 0 := by
    unfold lc_hold
    rw [decide_eq_true_eq]
    exact ⟨fun ⟨j, j1, j2⟩ => ⟨j, Nat.zero_le _, by omega, j2⟩, fun ⟨j, _, j1, j2⟩ => ⟨j, by omega, j2⟩⟩
  unfold mb_holds
  rw [Bool.eq_iff_iff, e]
  by_cases hh : rc_has t k = true
  · rw [if_pos hh, e3]
    constructor
    · rintro (q | ⟨q, _⟩)
      · exact q
      · exact absurd (e2.mp hh) q
    · exact .inl
  · rw [if_neg hh]
    constructor
    · rintro (⟨j, j1, j2, j3, _⟩ | ⟨_, q⟩)
      · exact absurd (e2.mpr ⟨j, j1, j2, j3⟩) hh
      · exact q
    · exact fun q => .inr ⟨fun c => hh (e2.mpr c), q⟩
theorem fl_clamp {m : Int} (hm : 0 ≤ m) (v : Int) : mb_clamp m v = lc_clamp m v := by
  unfold mb_clamp lc_clamp
  by_cases h1 : v < 0
  · rw [if_pos h1, if_pos (show v < m by omega), if_neg (by omega)]
  · rw [if_neg h1]
    by_cases h2 : v < m
    · rw [if_neg (by omega), if_pos h2]
      by_cases h3 : 0 < v
      · rw [if_pos h3]
      · rw [if_neg h3]; omega
    · rw [if_neg h2]
      by_cases h3 : m < v
      · rw [if_pos h3]
        by_cases h4 : 0 < m
        · rw [if_pos h4]
        · rw [if_neg h4]; omega
      · rw [if_neg h3]
        by_cases h4 : 0 < m
        · rw [if_pos h4]; omega
        · rw [if_neg h4]; omega
theorem fl_amtN {t : hy_T} (h : fl_law t) (hk : ml_ok t) {V V' : Nat → Int} (hV : ∀ j, j < 10 → V j = V' j) {k : Int} (hk2 : k = 98 ∨ k = 118) {m : Int} (hm : 0 ≤ m) : ∀ (n q : Nat), ((n + q : Nat) : Int) = t 11 7 → mb_amtN t V' k m n q = lc_amtN t V k m n q
  | 0, q, hn => rfl
  | n + 1, q, hn => by
    have hq : (q : Int) < t 11 7 := by omega
    have ek := fl_kind h hq
    obtain ⟨v1, v2, v3⟩ := fl_co h hk hV hq
    simp only [mb_amtN, lc_amtN]
    rw [← ek, ← v1, fl_amtN h hk hV hk2 hm n (q + 1) (by omega)]
    by_cases hc : t 14 q = k ∧ lc_val t V (t 16 q) ≠ 0
    · rw [if_pos ⟨hc.1, by omega⟩, if_pos hc, ← fl_am h hk hV hq (by omega)]
      exact fl_clamp hm _
    · rw [if_neg (fun c => hc ⟨c.1, by omega⟩), if_neg hc]
/-- the amount of a clause -/
theorem fl_amt {t : hy_T} (h : fl_law t) (hk : ml_ok t) {V V' : Nat → Int} (hV : ∀ j, j < 10 → V j = V' j) {k : Int} (hk2 : k = 98 ∨ k = 118) {m : Int} (hm : 0 ≤ m) : mb_amt t V' k m = lc_amt t V k m := by
  have e := h.1.1
  unfold mb_amt lc_amt
  rw [← e]
  exact fl_amtN h hk hV hk2 hm _ 0 (by have := h.1; omega)
/-- a new law -/
theorem fl_op {t t1 t2 : hy_T} {n : Int} {r1 r2 : Option Int} (k : cK t) (h : fl_law t) (hl : t 3 1 = t 59 9) (hby : ∀ j : Nat, j < 260 → t 4 j = hz_iand (t 65 j) 255) (F : hy_F lwcX t t1) (F2 : hy_F lwX t1 t2) (q1 : r1 = some (wf_law t n).1 ∧ t1 = (wf_law t n).2) (q2 : if al_nc t1 n then al_Q t1 (al_law (al_B t1 n) n t1) r2 t2 else r2 = some (-1) ∧ t2 = t1) : r2 = r1 ∧ fl_law t2 := by
  have x9 := F 59 9 rfl
  by_cases hn : 1 ≤ n ∧ n ≤ 240 ∧ n ≤ t 3 1
  · have hn2 : al_nc t1 n := ⟨⟨hn.1, hn.2.1⟩, by omega⟩
    rw [if_pos hn2] at q2
    have eB : ∀ q : Int, 0 ≤ q → al_B t1 n q = if q < n then t 4 q.toNat else -1 := fun q hq => by
      unfold al_B
      split
      · rw [F 65 _ rfl, hby _ (by omega)]
      · rfl
    have hB : az_by (al_B t1 n) := fun p => by
      have := hz_iand_le (x := t1 65 p.toNat) (m := 255) (by decide)
      unfold al_B
      split
      · exact ⟨by omega, by omega, fun c => by omega⟩
      · exact ⟨by omega, by omega, fun _ => rfl⟩
    have hL := tl_law hB k.tp hn eB t1
    revert q2 hL
    generalize al_law (al_B t1 n) n t1 = G
    intro q2 hL
    obtain ⟨a1, a2, a3⟩ := rk_read_all k.tp k.da n
    rcases hL with ⟨d1, d2⟩ | ⟨s, s1, s2⟩
    · subst d2
      obtain ⟨-, e1, e2⟩ := q2
      have ew : wf_law t n = (rk_read t n 3 4, hy_up (rk_read t n) 3 1 0) := by unfold wf_law; rw [if_pos hn, if_neg d1]
      rw [ew] at q1
      refine ⟨by rw [q1.1, e1], fl_law_F h (fun r j q => ?_)⟩
      have F1 : hy_F (fun r j => lkX r j || (r == 3 && j == 1)) t t1 := by
        rw [q1.2]
        exact (a2.w (fun r j q => (Bool.or_eq_false_iff.mp q).1)).up rfl
      by_cases hm : mlawX r j = true
      · rw [e2 r j hm]
        exact F1 r j (by revert hm; simp only [mlawX, lkX, lpX, Bool.or_eq_true, Bool.and_eq_true, beq_iff_eq, Bool.or_eq_false_iff, Bool.and_eq_false_iff, beq_eq_false_iff_ne]; omega)
      · have hm2 : lawX r j = true := by
          rcases Bool.or_eq_true_iff.mp q with c | c
          · exact c
          · exact absurd c hm
        rw [F2 r j (by revert hm2; simp only [lawX, lwX, lrX, mrX, mlawX, Bool.or_eq_true, Bool.and_eq_true, beq_iff_eq, Bool.or_eq_false_iff, Bool.and_eq_false_iff, beq_eq_false_iff_ne]; omega)]
        exact F1 r j (by revert hm2; simp only [lawX, lkX, lpX, Bool.or_eq_true, Bool.and_eq_true, beq_iff_eq, Bool.or_eq_false_iff, Bool.and_eq_false_iff, beq_eq_false_iff_ne]; omega)
    · subst s1
      obtain ⟨-, e1, e2, e3, e4⟩ := q2
      obtain ⟨⟨D, E, w1⟩, ⟨w2, w3⟩, w4⟩ := s2
      have hcn := w1.cn
      have hp1 := w1.p1
      have hle := w1.le
      have hde := w1.de
      have ew : wf_law t n = (lp_lawcp (hy_up (rk_read t n) 3 1 0) 11 7, lp_lawcp (hy_up (rk_read t n) 3 1 0)) := by unfold wf_law; rw [if_pos hn, if_pos w1.ok]
      rw [ew] at q1
      have z7 : t1 11 7 = rk_read t n 19 7 := by rw [q1.2]; rfl
      have z3 : t1 11 3 = rk_read t n 19 3 := by rw [q1.2]; rfl
      have zz : ∀ r j, lawX r j = true → t2 r j = t1 r j := fun r j q => F2 r j (by revert q; simp only [lawX, lwX, lrX, mrX, mlawX, Bool.or_eq_true, Bool.and_eq_true, beq_iff_eq, Bool.or_eq_false_iff, Bool.and_eq_false_iff, beq_eq_false_iff_ne]; omega)
      have c12 : ∀ j, j < 241 → t1 12 j = rk_read t n 20 j := fun j hj => by
        rw [q1.2]
        simp [lp_lawcp, hy_up, hy_cp, hj]
      have c13 : ∀ j, j < 241 → t1 13 j = rk_read t n 21 j := fun j hj => by
        rw [q1.2]
        simp [lp_lawcp, hy_up, hy_cp, hj]
      have c14 : ∀ j, j < 16 → t1 14 j = rk_read t n 22 j := fun j hj => by
        rw [q1.2]
        simp [lp_lawcp, hy_up, hy_cp, hj]
      have c15 : ∀ j, j < 16 → t1 15 j = rk_read t n 23 j := fun j hj => by
        rw [q1.2]
        simp [lp_lawcp, hy_up, hy_cp, hj]
      have c16 : ∀ j, j < 16 → t1 16 j = rk_read t n 24 j := fun j hj => by
        rw [q1.2]
        simp [lp_lawcp, hy_up, hy_cp, hj]
      have er1 : r1 = some (t1 11 7) := by rw [q1.1, q1.2]
      have x7 : t2 11 7 = (s.2.2.2.1 : Int) := by rw [zz 11 7 rfl, z7, w2]
      refine ⟨by rw [er1, e1, z7, w2], ⟨⟨by rw [x7, e2], by omega, by omega⟩, fun i hi => ?_⟩⟩
      have hi2 : i < s.2.2.2.1 := by omega
      obtain ⟨f1, f2, f3, f4⟩ := e4 i hi2
      refine tl_cl_eq (n := s.2.1 + D) (m := s.2.1) (w4 i hi2) (by rw [hcn]; push_cast; rfl) (by rw [zz 11 3 rfl, z3]; exact Int.le_refl _) (by omega) (fun j hj => ⟨?_, ?_⟩) (fun j hj => e3 j hj) ⟨?_, ?_, ?_⟩ ⟨⟨f1, f2⟩, f3, f4⟩
      · rw [zz 12 j rfl, c12 j (by omega)]
      · rw [zz 13 j rfl, c13 j (by omega)]
      · rw [zz 14 i rfl, c14 i (by omega)]
      · rw [zz 15 i rfl, c15 i (by omega)]
      · rw [zz 16 i rfl, c16 i (by omega)]
  · have hn2 : ¬ al_nc t1 n := fun c => hn ⟨c.1.1, c.1.2, by have := c.2; omega⟩
    rw [if_neg hn2] at q2
    have ew : wf_law t n = (-1, t) := by unfold wf_law; rw [if_neg hn]
    rw [ew] at q1
    obtain ⟨rfl, rfl⟩ := q1
    obtain ⟨rfl, rfl⟩ := q2
    exact ⟨rfl, h⟩
