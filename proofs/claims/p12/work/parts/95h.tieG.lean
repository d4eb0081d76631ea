/-! the two readers of lines -/
def tz_S (t u : hy_T) : Prop := (t 3 4 = 0 ∧ t 3 3 = u 59 10 ∧ t 3 2 = u 59 11) ∧ (0 ≤ t 3 3 ∧ t 3 2 ≤ 260) ∧ ∀ j : Nat, j < 260 → t 4 j = hz_iand (u 65 j) 255
theorem tz_next {t u : hy_T} (h : tz_S t u) : tp_next t = mp_here u := by
  obtain ⟨⟨a1, a2, a3⟩, ⟨a4, a5⟩, a6⟩ := h
  unfold tp_next mp_here
  rw [← a2, ← a3]
  by_cases hq : t 3 3 < t 3 2
  · rw [if_pos ⟨a1, a4, hq⟩, if_pos hq]
    exact a6 _ (by omega)
  · rw [if_neg (fun q => hq q.2.2), if_neg hq]
theorem tz_fail {t u : hy_T} (h : tz_S t u) {n : Int} (hn : 1 ≤ n) {w : Int} (hw : 0 ≤ w) : tp_fail t n w 3 4 ≠ 0 ∧ mp_wr u n w 59 12 = tp_fail t n w 3 4 := by
  have e : tp_fail t n w = hy_up t 3 4 (-1000 * n - w) := if_pos h.1.1
  rw [e]
  have e1 : hy_up t 3 4 (-1000 * n - w) 3 4 = -1000 * n - w := rfl
  have e2 : mp_wr u n w 59 12 = -1000 * n - w := rfl
  rw [e1, e2]
  exact ⟨by omega, rfl⟩
theorem tz_fail' {t u : hy_T} (h : tz_S t u) {n : Int} (hn : 1 ≤ n) : tp_fail t n (t 3 3) 3 4 ≠ 0 ∧ mp_wr u n (u 59 10) 59 12 = tp_fail t n (t 3 3) 3 4 := by
  rw [← h.1.2.1]
  exact tz_fail h hn h.2.1.1
theorem tz_step {t u : hy_T} (h : tz_S t u) : tz_S (tp_step t) (mp_st u) := by
  obtain ⟨⟨a1, a2, a3⟩, ⟨a4, a5⟩, a6⟩ := h
  refine ⟨⟨a1, ?_, a3⟩, ⟨?_, a5⟩, a6⟩
  · show t 3 3 + 1 = u 59 10 + 1
    omega
  · show 0 ≤ t 3 3 + 1
    omega
theorem tz_of {t t' u u' : hy_T} (h : tz_S t u) (e3 : ∀ j, t' 3 j = t 3 j) (e4 : ∀ j, t' 4 j = t 4 j) (f10 : u' 59 10 = u 59 10) (f11 : u' 59 11 = u 59 11) (f65 : ∀ j, u' 65 j = u 65 j) : tz_S t' u' := by
  obtain ⟨⟨a1, a2, a3⟩, ⟨a4, a5⟩, a6⟩ := h
  exact ⟨⟨by rw [e3]; exact a1, by rw [e3, f10]; exact a2, by rw [e3, f11]; exact a3⟩, ⟨by rw [e3]; exact a4, by rw [e3]; exact a5⟩, fun j hj => by rw [e4, f65]; exact a6 j hj⟩
/-- what a step of a line writes, on either side -/
def tz_W (k a : Nat) (v : Int) (t t' : hy_T) : Prop := ∀ r j, r ≠ 3 → t' r j = if r = a ∧ j = k then v else t r j
def tz_M (k b : Nat) (v : Int) (u u' : hy_T) : Prop := (∀ r j, r ≠ 59 → u' r j = if r = b ∧ j = k then v else u r j) ∧ ∀ j, j ≠ 10 → j ≠ 12 → j ≠ 13 → u' 59 j = u 59 j
theorem tz_colN : ∀ (n : Nat) {t u : hy_T} {c : Int}, tz_S t u → u 59 13 = c → 0 ≤ c → tz_S (rd_colourN n t c).1 (ml_colN n u) ∧ (ml_colN n u 59 13 = (rd_colourN n t c).2 ∧ 0 ≤ (rd_colourN n t c).2) ∧ (∀ r j, r ≠ 3 → (rd_colourN n t c).1 r j = t r j) ∧ (∀ r j, r ≠ 59 → ml_colN n u r j = u r j) ∧ ∀ j, j ≠ 10 → j ≠ 13 → ml_colN n u 59 j = u 59 j
  | 0, t, u, c, h, hc, h0 => ⟨h, ⟨hc, h0⟩, fun _ _ _ => rfl, fun _ _ _ => rfl, fun _ _ _ => rfl⟩
  | n + 1, t, u, c, h, hc, h0 => by
    have e := tz_next h
    simp only [rd_colourN, ml_colN]
    unfold mp_dig
    rw [e]
    by_cases hd : 48 ≤ mp_here u ∧ mp_here u ≤ 57
    · rw [if_pos hd, if_pos (decide_eq_true hd)]
      have h2 : tz_S (tp_step t) (mp_st (hy_up u 59 13 (10 * u 59 13 + mp_here u - 48))) := tz_of (tz_step h) (fun _ => rfl) (fun _ => rfl) rfl rfl (fun _ => rfl)
      obtain ⟨r1, ⟨r2, r3⟩, r4, r5, r6⟩ := tz_colN n (c := 10 * c + mp_here u - 48) h2 (by show 10 * u 59 13 + mp_here u - 48 = _; rw [hc]) (by omega)
      refine ⟨r1, ⟨r2, r3⟩, fun r j hr => ?_, fun r j hr => ?_, fun j h10 h13 => ?_⟩
      · rw [r4 r j hr]
        unfold tp_step
        rw [hy_up_ne (by omega)]
      · rw [r5 r j hr]
        unfold mp_st
        rw [hy_up_ne (by omega), hy_up_ne (by omega)]
      · rw [r6 j h10 h13]
        unfold mp_st
        simp only [hy_up, true_and]
        rw [if_neg h10, if_neg h13]
    · rw [if_neg hd, if_neg (by simpa using hd)]
      exact ⟨h, ⟨hc, h0⟩, fun _ _ _ => rfl, fun _ _ _ => rfl, fun _ _ _ => rfl⟩
/-- both go on, or both end with the same fault -/
def tz_Q (k a b : Nat) (t u t' : hy_T) (p : Bool × hy_T) : Prop := (t' 3 4 ≠ 0 ∧ p.1 = false ∧ p.2 59 12 = t' 3 4) ∨ (p.1 = true ∧ tz_S t' p.2 ∧ ∃ v, tz_W k a v t t' ∧ tz_M k b v u p.2)
theorem tz_col {t u : hy_T} {k : Nat} (h : tz_S t u) (h1 : t 27 6 = k) (h2 : u 59 33 = k) : tz_Q k 28 80 t u (rd_g2 t) (ml_col u) := by
  have h0 : tz_S t (hy_up u 59 13 0) := tz_of h (fun _ => rfl) (fun _ => rfl) rfl rfl (fun _ => rfl)
  obtain ⟨r1, ⟨r2, r2b⟩, r4, r5, r6⟩ := tz_colN 2 (c := 0) h0 rfl (Int.le_refl _)
  have hp0 := h.2.1.1
  unfold rd_g2 ml_col rd_colour
  dsimp only
  rw [r2, h1]
  by_cases hc : (rd_colourN 2 t 0).2 < 12
  · rw [if_pos hc, if_pos hc]
    have e33 : ml_colN 2 (hy_up u 59 13 0) 59 33 = k := (r6 33 (by decide) (by decide)).trans h2
    rw [h2, Int.toNat_natCast]
    have h3 : tz_S (hy_up (rd_colourN 2 t 0).1 28 k (rd_colourN 2 t 0).2) (hy_up (ml_colN 2 (hy_up u 59 13 0)) 80 k (rd_colourN 2 t 0).2) := tz_of r1 (fun _ => rfl) (fun _ => rfl) rfl rfl (fun _ => rfl)
    have e := tz_next h3
    have wW : tz_W k 28 (rd_colourN 2 t 0).2 t (hy_up (rd_colourN 2 t 0).1 28 k (rd_colourN 2 t 0).2) := fun r j hr => by
      simp only [hy_up]
      split
      · rfl
      · exact r4 r j hr
    have wM : tz_M k 80 (rd_colourN 2 t 0).2 u (hy_up (ml_colN 2 (hy_up u 59 13 0)) 80 k (rd_colourN 2 t 0).2) := by
      refine ⟨fun r j hr => ?_, fun j h10 h12 h13 => ?_⟩
      · simp only [hy_up]
        split
        · rfl
        · have q := r5 r j hr
          rw [q, hy_up_ne (by omega)]
      · rw [hy_up_ne (by decide), r6 j h10 h13]
        simp only [hy_up, true_and]
        rw [if_neg h13]
    unfold tp_take mp_take
    rw [e]
    by_cases h64 : mp_here (hy_up (ml_colN 2 (hy_up u 59 13 0)) 80 k (rd_colourN 2 t 0).2) = 64
    · rw [if_pos h64, if_pos h64]
      refine .inr ⟨rfl, tz_step h3, (rd_colourN 2 t 0).2, fun r j hr => ?_, fun r j hr => ?_, fun j h10 h12 h13 => ?_⟩
      · rw [hy_up_ne (by omega)]
        exact wW r j hr
      · dsimp only
        unfold mp_st
        rw [hy_up_ne (by omega)]
        exact wM.1 r j hr
      · refine Eq.trans ?_ (wM.2 j h10 h12 h13)
        show mp_st (hy_up (ml_colN 2 (hy_up u 59 13 0)) 80 k (rd_colourN 2 t 0).2) 59 j = hy_up (ml_colN 2 (hy_up u 59 13 0)) 80 k (rd_colourN 2 t 0).2 59 j
        generalize hy_up (ml_colN 2 (hy_up u 59 13 0)) 80 k (rd_colourN 2 t 0).2 = Z
        unfold mp_st
        simp only [hy_up, true_and]
        rw [if_neg h10]
    · rw [if_neg h64, if_neg h64]
      have := tz_fail' h3 (n := 1) (by decide)
      exact .inl ⟨this.1, rfl, this.2⟩
  · rw [if_neg hc, if_neg hc]
    have f := tz_fail r1 (n := 3) (by decide) (w := t 3 3) hp0
    have e10 : u 59 10 = t 3 3 := h.1.2.1.symm
    rw [e10]
    refine .inl ⟨?_, rfl, ?_⟩
    · rw [dd_take' (by show tp_fail (rd_colourN 2 t 0).1 3 (t 3 3) 3 4 ≠ 0; exact f.1) (by decide)]
      exact f.1
    · rw [dd_take' (by show tp_fail (rd_colourN 2 t 0).1 3 (t 3 3) 3 4 ≠ 0; exact f.1) (by decide)]
      exact f.2
theorem tz_bit : ∀ (b : Fin 16) (q : Fin 4), (hz_ishr (b.val : Int) (q.val : Int) = 0 ↔ (b.val : Int) < 2 ^ q.val) ∧ ((b.val : Int) < 2 ^ q.val → hz_ior (b.val : Int) (hz_ishl 1 (q.val : Int)) = (b.val : Int) + 2 ^ q.val) := by
  decide
/-- the quarters told so far, and the last of them -/
def tz_l (b l : Int) : Prop := (l = -1 ∧ b = 0) ∨ (l = 0 ∧ b = 1) ∨ (l = 1 ∧ 2 ≤ b ∧ b ≤ 3) ∨ (l = 2 ∧ 4 ≤ b ∧ b ≤ 7) ∨ (l = 3 ∧ 8 ≤ b ∧ b ≤ 15)
theorem tz_l_s {b l q : Int} (h : tz_l b l) (hq : 0 ≤ q ∧ q < 4) : (hz_ishr b q = 0 ↔ l < q) ∧ (l < q → tz_l (hz_ior b (hz_ishl 1 q)) q) := by
  have hb : 0 ≤ b ∧ b < 16 := by
    unfold tz_l at h
    omega
  obtain ⟨x1, x2⟩ := tz_bit ⟨b.toNat, by omega⟩ ⟨q.toNat, by omega⟩
  dsimp only at x1 x2
  rw [show ((b.toNat : Nat) : Int) = b by omega, show ((q.toNat : Nat) : Int) = q by omega] at x1 x2
  have hc : q = 0 ∨ q = 1 ∨ q = 2 ∨ q = 3 := by omega
  have p : ((2 : Int) ^ q.toNat) = if q = 0 then 1 else if q = 1 then 2 else if q = 2 then 4 else 8 := by
    rcases hc with rfl | rfl | rfl | rfl <;> decide
  rw [p] at x1 x2
  unfold tz_l at h
  refine ⟨?_, fun hl => ?_⟩
  · rw [x1]
    rcases hc with rfl | rfl | rfl | rfl <;> simp <;> omega
  · have hlt : b < (if q = 0 then 1 else if q = 1 then 2 else if q = 2 then 4 else 8) := by
      rcases hc with rfl | rfl | rfl | rfl <;> simp <;> omega
    rw [x2 hlt]
    unfold tz_l
    rcases hc with rfl | rfl | rfl | rfl <;> simp <;> omega
theorem tz_qua {k : Nat} : ∀ (n : Nat) {t u : hy_T} {b l : Int}, tz_S t u → u 59 33 = k → t 27 6 = k → tz_l b l → 4 ≤ n + l → tz_Q k 29 81 t u (hy_up (rd_quartersN n t b).1 29 k (rd_quartersN n t b).2) (ml_quaN n u b l)
  | 0, t, u, b, l, h, h33, h27, hl, hn => by
    unfold tz_l at hl
    omega
  | n + 1, t, u, b, l, h, h33, h27, hl, hn => by
    have e := tz_next h
    simp only [rd_quartersN, ml_quaN]
    rw [e]
    by_cases hd : 48 ≤ mp_here u ∧ mp_here u ≤ 51
    · rw [if_pos (show 0 ≤ mp_here u - 48 ∧ mp_here u - 48 < 4 by omega), if_pos hd]
      obtain ⟨x1, x2⟩ := tz_l_s hl (q := mp_here u - 48) (by omega)
      by_cases hq : l < mp_here u - 48
      · rw [if_pos (x1.mpr hq), if_neg (by omega)]
        rcases tz_qua n (tz_step h) (b := hz_ior b (hz_ishl 1 (mp_here u - 48))) (l := mp_here u - 48) h33 h27 (x2 hq) (by omega) with d | ⟨q1, q2, v, q3, q4, q5⟩
        · exact .inl d
        · refine .inr ⟨q1, q2, v, fun r j hr => ?_, fun r j hr => ?_, fun j h10 h12 h13 => ?_⟩
          · rw [q3 r j hr]
            unfold tp_step
            rw [hy_up_ne (by omega)]
          · rw [q4 r j hr]
            unfold mp_st
            rw [hy_up_ne (by omega)]
          · rw [q5 j h10 h12 h13]
            unfold mp_st
            simp only [hy_up, true_and]
            rw [if_neg h10]
      · rw [if_neg (fun c => hq (x1.mp c)), if_pos (by omega)]
        have := tz_fail' h (n := 6) (by decide)
        exact .inl ⟨this.1, rfl, this.2⟩
    · rw [if_neg (show ¬ (0 ≤ mp_here u - 48 ∧ mp_here u - 48 < 4) by omega), if_neg hd]
      unfold rd_quartersE ml_quaE
      dsimp only
      rw [h33, Int.toNat_natCast]
      have hb : 0 ≤ b := by
        unfold tz_l at hl
        omega
      by_cases h0 : b = 0
      · rw [if_pos h0, if_neg (by omega)]
        have := tz_fail' h (n := 1) (by decide)
        exact .inl ⟨this.1, rfl, this.2⟩
      · rw [if_neg h0, if_pos (by omega)]
        refine .inr ⟨rfl, tz_of h (fun _ => rfl) (fun _ => rfl) rfl rfl (fun _ => rfl), b, fun r j hr => rfl, fun r j hr => rfl, fun j h10 h12 h13 => ?_⟩
        show hy_up u 81 k b 59 j = u 59 j
        rw [hy_up_ne (by decide)]
theorem tz_emp {t u : hy_T} {k : Nat} {a : Int} (h : tz_S t u) : ((rd_empire t a).1 3 4 ≠ 0 ∧ (ml_emp u a).1 = false ∧ (ml_emp u a).2 59 12 = (rd_empire t a).1 3 4) ∨ ((ml_emp u a).1 = true ∧ tz_S (rd_empire t a).1 (ml_emp u a).2 ∧ (ml_emp u a).2 59 13 = (rd_empire t a).2 ∧ (∀ r j, r ≠ 3 → (rd_empire t a).1 r j = t r j) ∧ (∀ r j, r ≠ 59 → (ml_emp u a).2 r j = u r j) ∧ ∀ j, j ≠ 10 → j ≠ 12 → j ≠ 13 → (ml_emp u a).2 59 j = u 59 j) := by
  have e := tz_next h
  unfold rd_empire ml_emp mp_dig
  dsimp only
  rw [e]
  by_cases hd : 48 ≤ mp_here u ∧ mp_here u ≤ 57
  · rw [if_pos hd, if_pos (decide_eq_true hd)]
    have h2 : tz_S t (hy_up u 59 13 (mp_here u - 48)) := tz_of h (fun _ => rfl) (fun _ => rfl) rfl rfl (fun _ => rfl)
    by_cases h6 : mp_here u - 48 < 6
    · rw [if_pos (show 0 ≤ mp_here u - 48 ∧ mp_here u - 48 < 6 by omega), if_pos h6]
      by_cases ha : mp_here u - 48 = a
      · rw [if_pos ha, if_pos ha]
        have := tz_fail' h2 (n := 6) (by decide)
        exact .inl ⟨this.1, rfl, this.2⟩
      · rw [if_neg ha, if_neg ha]
        refine .inr ⟨rfl, tz_step h2, rfl, fun r j hr => ?_, fun r j hr => ?_, fun j h10 h12 h13 => ?_⟩
        · unfold tp_step
          rw [hy_up_ne (by omega)]
        · show mp_st (hy_up u 59 13 (mp_here u - 48)) r j = u r j
          unfold mp_st
          rw [hy_up_ne (by omega), hy_up_ne (by omega)]
        · show mp_st (hy_up u 59 13 (mp_here u - 48)) 59 j = u 59 j
          unfold mp_st
          simp only [hy_up, true_and]
          rw [if_neg h10, if_neg h13]
    · rw [if_neg (show ¬ (0 ≤ mp_here u - 48 ∧ mp_here u - 48 < 6) by omega), if_neg h6]
      have := tz_fail' h2 (n := 3) (by decide)
      exact .inl ⟨this.1, rfl, this.2⟩
  · rw [if_neg hd, if_neg (by simpa using hd)]
    have := tz_fail' h (n := 1) (by decide)
    exact .inl ⟨this.1, rfl, this.2⟩
theorem dz_g3 {t : hy_T} (h : t 3 4 ≠ 0) : rd_g3 t 3 4 = t 3 4 := by
  have e : rd_quarters t = rd_quartersE t 0 := by
    unfold rd_quarters
    simp only [rd_quartersN]
    rw [dd_next h, if_neg (by decide)]
  unfold rd_g3
  rw [hy_up_ne (by decide), e]
  unfold rd_quartersE
  dsimp only
  rw [if_pos rfl, dd_fail h]
theorem dz_g4 {t : hy_T} (h : t 3 4 ≠ 0) : rd_g4 t 3 4 = t 3 4 := by
  unfold rd_g4
  rw [hy_up_ne (by decide)]
  unfold rd_sign
  rw [dd_next h, if_neg (by decide)]
  show tp_fail t 1 (t 3 3) 3 4 = _
  rw [dd_fail h]
theorem dz_emp {t : hy_T} (h : t 3 4 ≠ 0) (a : Int) : (rd_empire t a).1 3 4 = t 3 4 := by
  unfold rd_empire
  dsimp only
  rw [dd_next h, if_neg (by decide), dd_fail h]
theorem dz_g5 {t : hy_T} (h : t 3 4 ≠ 0) : rd_g5 t 3 4 = t 3 4 := by
  unfold rd_g5
  rw [hy_up_ne (by decide)]
  exact dz_emp h _
theorem dz_g6 {t : hy_T} (h : t 3 4 ≠ 0) : rd_g6 t 3 4 = t 3 4 := by
  unfold rd_g6
  rw [hy_up_ne (by decide), hy_up_ne (by decide)]
  exact dz_emp h _
/-- a line that is read, on both sides -/
def tz_r (t u : hy_T) (i : Nat) : Prop := (t 28 i = u 80 i ∧ t 29 i = u 81 i) ∧ (t 31 i = u 82 i ∧ t 32 i = u 83 i) ∧ u 84 i = if t 30 i = 43 then 1 else 0
def tz_V (t u : hy_T) (k : Nat) : Prop := tz_S t u ∧ (t 27 6 = k ∧ u 59 33 = k) ∧ ∀ i, i < k → tz_r t u i
theorem tz_line {t u : hy_T} {k : Nat} (h : tz_V t u k) (hk : k ≤ 8) : (rd_line t 3 4 ≠ 0 ∧ (ml_line u).1 = false ∧ (ml_line u).2 59 12 = rd_line t 3 4) ∨ ((ml_line u).1 = true ∧ tz_V (rd_line t) (ml_line u).2 (k + 1) ∧ k + 1 ≤ 8) := by
  obtain ⟨hS, ⟨h1, h2⟩, h3⟩ := h
  have e := tz_next hS
  unfold rd_line ml_line mp_dig
  rw [e]
  by_cases hd : 48 ≤ mp_here u ∧ mp_here u ≤ 57
  · rw [if_pos hd, if_pos (decide_eq_true hd)]
    by_cases h8 : k < 8
    · rw [if_pos (by omega), if_neg (show ¬ u 59 33 = 8 by omega)]
      rcases tz_col hS h1 h2 with ⟨d1, d2, d3⟩ | ⟨c1, c2, v, c3, c4, c5⟩
      · have x3 := dz_g3 d1
        have x4 := dz_g4 (t := rd_g3 (rd_g2 t)) (by rw [x3]; exact d1)
        have x5 := dz_g5 (t := rd_g4 (rd_g3 (rd_g2 t))) (by rw [x4, x3]; exact d1)
        have x6 := dz_g6 (t := rd_g5 (rd_g4 (rd_g3 (rd_g2 t)))) (by rw [x5, x4, x3]; exact d1)
        rw [d2, if_neg Bool.false_ne_true]
        refine .inl ⟨by rw [x6, x5, x4, x3]; exact d1, rfl, by rw [x6, x5, x4, x3]; exact d3⟩
      · rw [c1, if_pos rfl]
        have k1 : rd_g2 t 27 6 = k := by rw [c3 27 6 (by decide), if_neg (by omega)]; exact h1
        have k2 : (ml_col u).2 59 33 = k := (c5 33 (by decide) (by decide) (by decide)).trans h2
        have eg3 : rd_g3 (rd_g2 t) = hy_up (rd_quartersN 5 (rd_g2 t) 0).1 29 k (rd_quartersN 5 (rd_g2 t) 0).2 := by
          unfold rd_g3 rd_quarters
          rw [k1, Int.toNat_natCast]
        have eqm : ml_qua (ml_col u).2 = ml_quaN 5 (ml_col u).2 0 (-1) := rfl
        have Q := tz_qua (k := k) 5 (b := 0) (l := -1) c2 k2 k1 (.inl ⟨rfl, rfl⟩) (by decide)
        rw [← eg3, ← eqm] at Q
        rcases Q with ⟨d1, d2, d3⟩ | ⟨q1, q2, v2, q3, q4, q5⟩
        · have x4 := dz_g4 d1
          have x5 := dz_g5 (t := rd_g4 (rd_g3 (rd_g2 t))) (by rw [x4]; exact d1)
          have x6 := dz_g6 (t := rd_g5 (rd_g4 (rd_g3 (rd_g2 t)))) (by rw [x5, x4]; exact d1)
          rw [d2, if_neg Bool.false_ne_true]
          refine .inl ⟨by rw [x6, x5, x4]; exact d1, rfl, by rw [x6, x5, x4]; exact d3⟩
        · rw [q1, if_pos rfl]
          have e4 := tz_next q2
          have k3 : rd_g3 (rd_g2 t) 27 6 = k := by rw [q3 27 6 (by decide), if_neg (by omega)]; exact k1
          have k4 : (ml_qua (ml_col u).2).2 59 33 = k := (q5 33 (by decide) (by decide) (by decide)).trans k2
          -- from here on: T, U
          have hT : ∀ r j, r ≠ 3 → r ≠ 28 → r ≠ 29 → rd_g3 (rd_g2 t) r j = t r j := fun r j a1 a2 a3 => by
            rw [q3 r j a1, if_neg (fun c => a3 c.1), c3 r j a1, if_neg (fun c => a2 c.1)]
          have hT28 : ∀ j, rd_g3 (rd_g2 t) 28 j = if j = k then v else t 28 j := fun j => by
            rw [q3 28 j (by decide), if_neg (by omega), c3 28 j (by decide)]
            simp
          have hT29 : ∀ j, rd_g3 (rd_g2 t) 29 j = if j = k then v2 else t 29 j := fun j => by
            rw [q3 29 j (by decide), c3 29 j (by decide)]
            simp
          have hU : ∀ r j, r ≠ 59 → r ≠ 80 → r ≠ 81 → (ml_qua (ml_col u).2).2 r j = u r j := fun r j a1 a2 a3 => by
            rw [q4 r j a1, if_neg (fun c => a3 c.1), c4 r j a1, if_neg (fun c => a2 c.1)]
          have hU80 : ∀ j, (ml_qua (ml_col u).2).2 80 j = if j = k then v else u 80 j := fun j => by
            rw [q4 80 j (by decide), if_neg (by omega), c4 80 j (by decide)]
            simp
          have hU81 : ∀ j, (ml_qua (ml_col u).2).2 81 j = if j = k then v2 else u 81 j := fun j => by
            rw [q4 81 j (by decide), c4 81 j (by decide)]
            simp
          revert q2 e4 k3 k4 hT hT28 hT29 hU hU80 hU81
          generalize rd_g3 (rd_g2 t) = T
          generalize (ml_qua (ml_col u).2).2 = U
          clear q3 q4 q5 q1 eg3 eqm c1 c2 c3 c4 c5 k1 k2
          intro q2 e4 k3 k4 hT hT28 hT29 hU hU80 hU81
          unfold ml_tail
          by_cases hs : mp_here U = 62 ∨ mp_here U = 43
          · rw [if_pos hs]
            have eg4 : rd_g4 T = hy_up (tp_step T) 30 k (mp_here U) := by
              unfold rd_g4 rd_sign
              rw [e4, if_pos hs, k3, Int.toNat_natCast]
            have esg : ml_sgn U = mp_st (hy_up U 84 k (if mp_here U = 43 then 1 else 0)) := by
              unfold ml_sgn
              rw [k4, Int.toNat_natCast]
            have s4 : tz_S (rd_g4 T) (ml_sgn U) := by
              rw [eg4, esg]
              exact tz_of (tz_step q2) (fun _ => rfl) (fun _ => rfl) rfl rfl (fun _ => rfl)
            have g4k : rd_g4 T 27 6 = k := by rw [eg4]; exact k3
            have s4k : ml_sgn U 59 33 = k := by rw [esg]; exact k4
            have eg5 : rd_g5 (rd_g4 T) = hy_up (rd_empire (rd_g4 T) (-1)).1 31 k (rd_empire (rd_g4 T) (-1)).2 := by
              unfold rd_g5
              rw [g4k, Int.toNat_natCast]
            unfold ml_two
            rcases tz_emp (k := k) (a := -1) s4 with ⟨d1, d2, d3⟩ | ⟨m1, m2, m3, m4, m5, m6⟩
            · have y5 : rd_g5 (rd_g4 T) 3 4 = (rd_empire (rd_g4 T) (-1)).1 3 4 := by rw [eg5, hy_up_ne (by decide)]
              have x6 := dz_g6 (t := rd_g5 (rd_g4 T)) (by rw [y5]; exact d1)
              rw [d2, if_neg Bool.false_ne_true]
              exact .inl ⟨by rw [x6, y5]; exact d1, rfl, by rw [x6, y5]; exact d3⟩
            · rw [m1, if_pos rfl]
              have s5 : tz_S (rd_g5 (rd_g4 T)) (ml_from (ml_emp (ml_sgn U) (-1)).2) := by
                rw [eg5]
                exact tz_of m2 (fun j => by rw [hy_up_ne (by decide)]) (fun j => by rw [hy_up_ne (by decide)]) (by unfold ml_from; rw [hy_up_ne (by decide)]) (by unfold ml_from; rw [hy_up_ne (by decide)]) (fun j => by unfold ml_from; rw [hy_up_ne (by decide)])
              have g5k : rd_g5 (rd_g4 T) 27 6 = k := by
                rw [eg5, hy_up_ne (by decide), m4 27 6 (by decide)]
                exact g4k
              have f5k : (ml_emp (ml_sgn U) (-1)).2 59 33 = k := (m6 33 (by decide) (by decide) (by decide)).trans s4k
              have efr : ml_from (ml_emp (ml_sgn U) (-1)).2 = hy_up (ml_emp (ml_sgn U) (-1)).2 82 k ((ml_emp (ml_sgn U) (-1)).2 59 13) := by
                unfold ml_from
                rw [f5k, Int.toNat_natCast]
              have v31 : rd_g5 (rd_g4 T) 31 k = (rd_empire (rd_g4 T) (-1)).2 := by
                rw [eg5]
                simp [hy_up]
              have eg6 : rd_g6 (rd_g5 (rd_g4 T)) = hy_up (hy_up (rd_empire (rd_g5 (rd_g4 T)) ((rd_empire (rd_g4 T) (-1)).2)).1 32 k (rd_empire (rd_g5 (rd_g4 T)) ((rd_empire (rd_g4 T) (-1)).2)).2) 27 6 (k + 1) := by
                unfold rd_g6
                rw [g5k, Int.toNat_natCast, v31]
              rw [m3]
              rcases tz_emp (k := k) (a := (rd_empire (rd_g4 T) (-1)).2) s5 with ⟨d1, d2, d3⟩ | ⟨n1, n2, n3, n4, n5, n6⟩
              · have y6 : rd_g6 (rd_g5 (rd_g4 T)) 3 4 = (rd_empire (rd_g5 (rd_g4 T)) ((rd_empire (rd_g4 T) (-1)).2)).1 3 4 := by rw [eg6, hy_up_ne (by decide), hy_up_ne (by decide)]
                rw [d2, if_neg Bool.false_ne_true]
                exact .inl ⟨by rw [y6]; exact d1, rfl, by rw [y6]; exact d3⟩
              · rw [n1, if_pos rfl]
                have e5k : (ml_emp (ml_from (ml_emp (ml_sgn U) (-1)).2) (rd_empire (rd_g4 T) (-1)).2).2 59 33 = k := by
                  rw [n6 33 (by decide) (by decide) (by decide), efr, hy_up_ne (by decide)]
                  exact f5k
                have een : ml_end (ml_emp (ml_from (ml_emp (ml_sgn U) (-1)).2) (rd_empire (rd_g4 T) (-1)).2).2 = hy_up (hy_up (ml_emp (ml_from (ml_emp (ml_sgn U) (-1)).2) (rd_empire (rd_g4 T) (-1)).2).2 83 k (rd_empire (rd_g5 (rd_g4 T)) ((rd_empire (rd_g4 T) (-1)).2)).2) 59 33 (k + 1) := by
                  unfold ml_end
                  rw [e5k, Int.toNat_natCast, n3]
                refine .inr ⟨rfl, ⟨?_, ⟨?_, ?_⟩, fun i hi => ?_⟩, h8⟩
                · rw [eg6, een]
                  dsimp only
                  exact tz_of n2 (fun j => by rw [hy_up_ne (by decide), hy_up_ne (by decide)]) (fun j => by rw [hy_up_ne (by decide), hy_up_ne (by decide)]) (by simp [hy_up]) (by simp [hy_up]) (fun j => by rw [hy_up_ne (by decide), hy_up_ne (by decide)])
                · rw [eg6]
                  simp [hy_up]
                · rw [een]
                  simp [hy_up]
                · have A : ∀ r j, r ≠ 3 → r ≠ 27 → r ≠ 32 → r ≠ 31 → r ≠ 30 → rd_g6 (rd_g5 (rd_g4 T)) r j = T r j := fun r j b1 b2 b3 b4 b5 => by
                    rw [eg6, hy_up_ne (by omega), hy_up_ne (by omega), n4 r j b1, eg5, hy_up_ne (by omega), m4 r j b1, eg4, hy_up_ne (by omega)]
                    unfold tp_step
                    rw [hy_up_ne (by omega)]
                  have A30 : ∀ j, rd_g6 (rd_g5 (rd_g4 T)) 30 j = if j = k then mp_here U else T 30 j := fun j => by
                    rw [eg6, hy_up_ne (by decide), hy_up_ne (by decide), n4 30 j (by decide), eg5, hy_up_ne (by decide), m4 30 j (by decide), eg4]
                    simp only [hy_up, true_and]
                    rfl
                  have A31 : ∀ j, rd_g6 (rd_g5 (rd_g4 T)) 31 j = if j = k then (rd_empire (rd_g4 T) (-1)).2 else T 31 j := fun j => by
                    rw [eg6, hy_up_ne (by decide), hy_up_ne (by decide), n4 31 j (by decide), eg5]
                    simp only [hy_up, true_and]
                    rw [m4 31 j (by decide), eg4, hy_up_ne (by decide)]
                    rfl
                  have A32 : ∀ j, rd_g6 (rd_g5 (rd_g4 T)) 32 j = if j = k then (rd_empire (rd_g5 (rd_g4 T)) ((rd_empire (rd_g4 T) (-1)).2)).2 else T 32 j := fun j => by
                    rw [eg6, hy_up_ne (by decide)]
                    simp only [hy_up, true_and]
                    rw [n4 32 j (by decide), eg5, hy_up_ne (by decide), m4 32 j (by decide), eg4, hy_up_ne (by decide)]
                    rfl
                  have C : ∀ r j, r ≠ 59 → r ≠ 82 → r ≠ 83 → r ≠ 84 → ml_end (ml_emp (ml_from (ml_emp (ml_sgn U) (-1)).2) (rd_empire (rd_g4 T) (-1)).2).2 r j = U r j := fun r j b1 b2 b3 b4 => by
                    rw [een, hy_up_ne (by omega), hy_up_ne (by omega), n5 r j b1, efr, hy_up_ne (by omega), m5 r j b1, esg]
                    unfold mp_st
                    rw [hy_up_ne (by omega), hy_up_ne (by omega)]
                  have C84 : ∀ j, ml_end (ml_emp (ml_from (ml_emp (ml_sgn U) (-1)).2) (rd_empire (rd_g4 T) (-1)).2).2 84 j = if j = k then (if mp_here U = 43 then 1 else 0) else U 84 j := fun j => by
                    rw [een, hy_up_ne (by decide), hy_up_ne (by decide), n5 84 j (by decide), efr, hy_up_ne (by decide), m5 84 j (by decide), esg]
                    unfold mp_st
                    rw [hy_up_ne (by decide)]
                    simp only [hy_up, true_and]
                  have C82 : ∀ j, ml_end (ml_emp (ml_from (ml_emp (ml_sgn U) (-1)).2) (rd_empire (rd_g4 T) (-1)).2).2 82 j = if j = k then (rd_empire (rd_g4 T) (-1)).2 else U 82 j := fun j => by
                    rw [een, hy_up_ne (by decide), hy_up_ne (by decide), n5 82 j (by decide), efr, m3]
                    simp only [hy_up, true_and]
                    rw [m5 82 j (by decide), esg]
                    unfold mp_st
                    rw [hy_up_ne (by decide), hy_up_ne (by decide)]
                  have C83 : ∀ j, ml_end (ml_emp (ml_from (ml_emp (ml_sgn U) (-1)).2) (rd_empire (rd_g4 T) (-1)).2).2 83 j = if j = k then (rd_empire (rd_g5 (rd_g4 T)) ((rd_empire (rd_g4 T) (-1)).2)).2 else U 83 j := fun j => by
                    rw [een, hy_up_ne (by decide)]
                    simp only [hy_up, true_and]
                    rw [n5 83 j (by decide), efr, hy_up_ne (by decide), m5 83 j (by decide), esg]
                    unfold mp_st
                    rw [hy_up_ne (by decide), hy_up_ne (by decide)]
                  unfold tz_r
                  dsimp only
                  rw [A 28 i (by decide) (by decide) (by decide) (by decide) (by decide), A 29 i (by decide) (by decide) (by decide) (by decide) (by decide), A30, A31, A32, C 80 i (by decide) (by decide) (by decide) (by decide), C 81 i (by decide) (by decide) (by decide) (by decide), C84, C82, C83, hT28, hT29, hU80, hU81]
                  by_cases hik : i = k
                  · simp only [if_pos hik]
                    exact ⟨⟨trivial, trivial⟩, ⟨trivial, trivial⟩, trivial⟩
                  · simp only [if_neg hik]
                    rw [hT 30 i (by decide) (by decide) (by decide), hT 31 i (by decide) (by decide) (by decide), hT 32 i (by decide) (by decide) (by decide), hU 84 i (by decide) (by decide) (by decide), hU 82 i (by decide) (by decide) (by decide), hU 83 i (by decide) (by decide) (by decide)]
                    exact h3 i (by omega)
          · rw [if_neg hs]
            have eg4 : rd_g4 T 3 4 = tp_fail T 1 (T 3 3) 3 4 := by
              unfold rd_g4 rd_sign
              rw [e4, if_neg hs, hy_up_ne (by decide)]
            have f := tz_fail' q2 (n := 1) (by decide)
            have x5 := dz_g5 (t := rd_g4 T) (by rw [eg4]; exact f.1)
            have x6 := dz_g6 (t := rd_g5 (rd_g4 T)) (by rw [x5, eg4]; exact f.1)
            exact .inl ⟨by rw [x6, x5, eg4]; exact f.1, rfl, by rw [x6, x5, eg4]; exact f.2⟩
    · rw [if_neg (by omega), if_pos (show u 59 33 = 8 by omega)]
      have := tz_fail' hS (n := 4) (by decide)
      exact .inl ⟨this.1, rfl, this.2⟩
  · rw [if_neg hd, if_neg (by simpa using hd)]
    have := tz_fail' hS (n := 1) (by decide)
    exact .inl ⟨this.1, rfl, this.2⟩
