/-! lines, and treaties that are made -/
theorem tz_live {t u : hy_T} (h : tz_S t u) : (t 3 3 < t 3 2 ↔ 0 ≤ mp_here u) ∧ (u 59 10 < u 59 11 ↔ 0 ≤ mp_here u) := by
  obtain ⟨⟨a1, a2, a3⟩, ⟨a4, a5⟩, a6⟩ := h
  have := hz_iand_le (x := u 65 (u 59 10).toNat) (m := 255) (by decide)
  unfold mp_here
  by_cases hq : u 59 10 < u 59 11
  · rw [if_pos hq]
    omega
  · rw [if_neg hq]
    omega
theorem tz_linesN : ∀ (N M : Nat) {t : hy_T} {p : Bool × hy_T} {k : Nat}, p.1 = true → tz_V t p.2 k → N + k = 9 → k ≤ 8 → 10 ≤ M + k →
    (tp_finish (rd_linesN N t) 3 4 ≠ 0 ∧ (ml_linesN M p).1 = false ∧ (ml_linesN M p).2 59 12 = tp_finish (rd_linesN N t) 3 4) ∨ ((ml_linesN M p).1 = true ∧ ∃ k', tz_V (tp_finish (rd_linesN N t)) (ml_linesN M p).2 k' ∧ k' ≤ 8)
  | 0, M, t, p, k, hp, h, hN, hk, hM => by omega
  | N + 1, 0, t, p, k, hp, h, hN, hk, hM => by omega
  | N + 1, M + 1, t, p, k, hp, h, hN, hk, hM => by
    obtain ⟨hS, ⟨h1, h2⟩, h3⟩ := id h
    have e := tz_next hS
    obtain ⟨l1, l2⟩ := tz_live hS
    simp only [rd_linesN, ml_linesN]
    rw [e]
    by_cases h44 : mp_here p.2 = 44
    · rw [if_pos h44, if_pos ⟨hp, l2.mpr (by omega)⟩]
      have et : mp_take p.2 44 = (true, mp_st p.2) := by
        unfold mp_take
        rw [if_pos h44]
      rw [et, if_pos rfl]
      have hV : tz_V (tp_step t) (mp_st p.2) k := ⟨tz_step hS, ⟨h1, h2⟩, h3⟩
      rcases tz_line hV hk with ⟨d1, d2, d3⟩ | ⟨c1, c2, c3⟩
      · have ed : rd_linesN N (rd_line (tp_step t)) = rd_line (tp_step t) := by
          cases N with
          | zero => rfl
          | succ N =>
            simp only [rd_linesN]
            rw [dd_next d1, if_neg (by decide)]
        have em : ml_linesN M (ml_line (mp_st p.2)) = ml_line (mp_st p.2) := by
          cases M with
          | zero => rfl
          | succ M =>
            simp only [ml_linesN]
            rw [d2, if_neg (fun c => Bool.false_ne_true c.1)]
        have ef : tp_finish (rd_line (tp_step t)) 3 4 = rd_line (tp_step t) 3 4 := by
          unfold tp_finish
          split
          · rw [dd_fail d1]
          · rfl
        rw [ed, em, ef]
        exact .inl ⟨d1, d2, d3⟩
      · exact tz_linesN N M c1 c2 (by omega) c3 (by omega)
    · rw [if_neg h44]
      by_cases hl : 0 ≤ mp_here p.2
      · rw [if_pos ⟨hp, l2.mpr hl⟩]
        have et : mp_take p.2 44 = (false, mp_wr p.2 1 (p.2 59 10)) := by
          unfold mp_take
          rw [if_neg h44]
        have ef : tp_finish t = tp_fail t 1 (t 3 3) := by
          unfold tp_finish
          rw [if_pos (l1.mpr hl)]
        have f := tz_fail' hS (n := 1) (by decide)
        rw [et, if_neg Bool.false_ne_true, ef]
        have em : ml_linesN M (false, mp_wr p.2 1 (p.2 59 10)) = (false, mp_wr p.2 1 (p.2 59 10)) := by
          cases M with
          | zero => rfl
          | succ M =>
            simp only [ml_linesN]
            rw [if_neg (fun c => Bool.false_ne_true c.1)]
        rw [em]
        exact .inl ⟨f.1, rfl, f.2⟩
      · rw [if_neg (fun c => hl (l2.mp c.2))]
        have ef : tp_finish t = t := by
          unfold tp_finish
          rw [if_neg (fun c => hl (l1.mp c))]
        rw [ef]
        exact .inr ⟨hp, k, h, hk⟩
/-- a text of lines -/
theorem tz_lines {t u : hy_T} {n : Int} (hl : t 3 1 = u 59 9) (hl2 : t 3 1 ≤ 260) (hby : ∀ j : Nat, j < 260 → t 4 j = hz_iand (u 65 j) 255) (hn : 1 ≤ n ∧ n ≤ 120 ∧ n ≤ t 3 1) :
    (rd_lines t n 3 4 ≠ 0 ∧ (ml_lines u n).1 = false ∧ (ml_lines u n).2 59 12 = rd_lines t n 3 4) ∨ (rd_lines t n 3 4 = 0 ∧ (ml_lines u n).1 = true ∧ ∃ k : Nat, k ≤ 8 ∧ (rd_lines t n 27 6 = k ∧ (ml_lines u n).2 59 33 = k) ∧ ∀ i, i < k → tz_r (rd_lines t n) (ml_lines u n).2 i) := by
  have e32 : hy_up (tp_start t n) 27 6 0 3 2 = n := by
    show (if t 3 1 < n then t 3 1 else n) = n
    rw [if_neg (by omega)]
  have S0 : tz_S (hy_up (tp_start t n) 27 6 0) (hy_up (hy_up (hy_up u 59 10 0) 59 11 n) 59 33 0) := ⟨⟨rfl, rfl, e32⟩, ⟨Int.le_refl 0, by rw [e32]; omega⟩, hby⟩
  have V0 : tz_V (hy_up (tp_start t n) 27 6 0) (hy_up (hy_up (hy_up u 59 10 0) 59 11 n) 59 33 0) 0 := ⟨S0, ⟨rfl, rfl⟩, fun i hi => absurd hi (Nat.not_lt_zero i)⟩
  unfold rd_lines ml_lines
  have fin : ∀ (T : hy_T) (p : Bool × hy_T), ((T 3 4 ≠ 0 ∧ p.1 = false ∧ p.2 59 12 = T 3 4) ∨ (p.1 = true ∧ ∃ k', tz_V T p.2 k' ∧ k' ≤ 8)) → (T 3 4 ≠ 0 ∧ (p.1, hy_up p.2 59 9 0).1 = false ∧ (p.1, hy_up p.2 59 9 0).2 59 12 = T 3 4) ∨ (T 3 4 = 0 ∧ (p.1, hy_up p.2 59 9 0).1 = true ∧ ∃ k : Nat, k ≤ 8 ∧ (T 27 6 = k ∧ (p.1, hy_up p.2 59 9 0).2 59 33 = k) ∧ ∀ i, i < k → tz_r T (p.1, hy_up p.2 59 9 0).2 i) := fun T p h => by
    rcases h with ⟨d1, d2, d3⟩ | ⟨c1, k', ⟨c2, c3, c4⟩, c5⟩
    · exact .inl ⟨d1, d2, d3⟩
    · exact .inr ⟨c2.1.1, c1, k', c5, c3, fun i hi => c4 i hi⟩
  rcases tz_line V0 (by decide) with ⟨d1, d2, d3⟩ | ⟨c1, c2, c3⟩
  · have ed : rd_linesN 8 (rd_line (hy_up (tp_start t n) 27 6 0)) = rd_line (hy_up (tp_start t n) 27 6 0) := by
      show (if tp_next (rd_line (hy_up (tp_start t n) 27 6 0)) = 44 then _ else rd_line (hy_up (tp_start t n) 27 6 0)) = _
      rw [dd_next d1, if_neg (by decide)]
    have em : ml_linesN 261 (ml_line (hy_up (hy_up (hy_up u 59 10 0) 59 11 n) 59 33 0)) = ml_line (hy_up (hy_up (hy_up u 59 10 0) 59 11 n) 59 33 0) := by
      show (if (ml_line (hy_up (hy_up (hy_up u 59 10 0) 59 11 n) 59 33 0)).1 = true ∧ _ then _ else ml_line (hy_up (hy_up (hy_up u 59 10 0) 59 11 n) 59 33 0)) = _
      rw [if_neg (fun c => by rw [d2] at c; exact Bool.false_ne_true c.1)]
    have ef : tp_finish (rd_line (hy_up (tp_start t n) 27 6 0)) 3 4 = rd_line (hy_up (tp_start t n) 27 6 0) 3 4 := by
      unfold tp_finish
      split
      · rw [dd_fail d1]
      · rfl
    rw [ed, em]
    exact fin _ _ (.inl ⟨by rw [ef]; exact d1, d2, by rw [ef]; exact d3⟩)
  · exact fin _ _ (tz_linesN 8 261 c1 c2 rfl c3 (by decide))
/-! what empires have -/
theorem bt_key {X a b : Int32} (h : b &&& a = b) : (X &&& a) ||| b = (X ||| b) &&& a := by
  apply Int32.toBitVec_inj.mp
  apply BitVec.eq_of_getLsbD_eq
  intro i hi
  have h2 := congrArg (fun z : Int32 => z.toBitVec.getLsbD i) h
  simp only [Int32.toBitVec_and, Int32.toBitVec_or, BitVec.getLsbD_and, BitVec.getLsbD_or] at h2 ⊢
  revert h2
  cases X.toBitVec.getLsbD i <;> cases a.toBitVec.getLsbD i <;> cases b.toBitVec.getLsbD i <;> simp
theorem bt_f : ∀ g o : Fin 6, g ≠ o → hz_iand (hz_ishl 1 (o.val : Int)) (hz_ixor (hz_ishl 1 (g.val : Int)) (-1)) = hz_ishl 1 (o.val : Int) := by decide
theorem bt_swap {x g o : Int} (hg : 0 ≤ g ∧ g < 6) (ho : 0 ≤ o ∧ o < 6) (hne : g ≠ o) : hz_ior (hz_iand x (hz_ixor (hz_ishl 1 g) (-1))) (hz_ishl 1 o) = hz_iand (hz_ior x (hz_ishl 1 o)) (hz_ixor (hz_ishl 1 g) (-1)) := by
  have h := bt_f ⟨g.toNat, by omega⟩ ⟨o.toNat, by omega⟩ (fun c => hne (by have := congrArg Fin.val c; dsimp only at this; omega))
  dsimp only at h
  rw [show ((g.toNat : Nat) : Int) = g by omega, show ((o.toNat : Nat) : Int) = o by omega] at h
  revert h
  generalize hz_ixor (hz_ishl 1 g) (-1) = A
  generalize hz_ishl 1 o = B
  intro h
  have h2 : Int32.ofInt B &&& Int32.ofInt A = Int32.ofInt B := by
    have := congrArg Int32.ofInt h
    unfold hz_iand at this
    rw [Int32.ofInt_toInt] at this
    exact this
  unfold hz_ior hz_iand
  simp only [Int32.ofInt_toInt]
  rw [bt_key h2]
/-- which havers a change of quarters from c on touches -/
abbrev fs_in (c w : Int) (n : Nat) (j : Nat) : Prop := (4 * c ≤ j ∧ (j : Int) < 4 * c + n) ∧ hz_b w ((j : Int) - 4 * c) = true
theorem fs_in_succ {c w : Int} {n j : Nat} : fs_in c w (n + 1) j ↔ fs_in c w n j ∨ ((j : Int) = 4 * c + n ∧ hz_b w n = true) := by
  constructor
  · rintro ⟨⟨a, b⟩, d⟩
    by_cases hj : (j : Int) = 4 * c + n
    · refine .inr ⟨hj, ?_⟩
      rw [show (j : Int) - 4 * c = n by omega] at d
      exact d
    · exact .inl ⟨⟨a, by omega⟩, d⟩
  · rintro (⟨⟨a, b⟩, d⟩ | ⟨a, b⟩)
    · exact ⟨⟨a, by omega⟩, d⟩
    · refine ⟨⟨by omega, by omega⟩, ?_⟩
      rw [show (j : Int) - 4 * c = n by omega]
      exact b
theorem mv_v (b : Nat) (t : hy_T) {c w lo wi : Int} (hc : 0 ≤ c ∧ c < 12) : ∀ n : Nat, n ≤ 4 → ∀ j : Nat, sp_moveN b t c w lo wi n (b + 1) j = if fs_in c w n j then hz_ior (if lo = -1 then t (b + 1) j else hz_iand (t (b + 1) j) (hz_ixor (hz_ishl 1 lo) (-1))) (hz_ishl 1 wi) else t (b + 1) j
  | 0, _, j => by
    rw [if_neg (show ¬ fs_in c w 0 j from fun q => by have := q.1; omega)]
    rfl
  | n + 1, hn, j => by
    have ih := mv_v b t (w := w) (lo := lo) (wi := wi) hc n (by omega)
    simp only [sp_moveN]
    by_cases hb : hz_b w n = true
    · rw [if_pos hb]
      have e : sp_hav (sp_moveN b t c w lo wi n (b + 1)) c n = t (b + 1) (4 * c + n).toNat := by
        have hno : ¬ fs_in c w n (4 * c + n).toNat := fun q => by have := q.1; omega
        unfold sp_hav
        rw [if_pos (by omega), ih, if_neg hno]
      rw [e]
      unfold sp_setH
      rw [if_pos (show (0 ≤ c ∧ c < 12) ∧ 0 ≤ (n : Int) ∧ (n : Int) < 4 by omega)]
      simp only [hy_up, true_and]
      by_cases hj : j = (4 * c + n).toNat
      · have hin : fs_in c w (n + 1) j := fs_in_succ.mpr (.inr ⟨by omega, hb⟩)
        rw [if_pos hj, if_pos hin, hj]
      · rw [if_neg hj, ih j]
        by_cases h2 : fs_in c w n j
        · have hin : fs_in c w (n + 1) j := fs_in_succ.mpr (.inl h2)
          rw [if_pos h2, if_pos hin]
        · have hout : ¬ fs_in c w (n + 1) j := fun q => (fs_in_succ.mp q).elim h2 (fun q2 => hj (by omega))
          rw [if_neg h2, if_neg hout]
    · rw [if_neg hb, ih j]
      by_cases h2 : fs_in c w n j
      · have hin : fs_in c w (n + 1) j := fs_in_succ.mpr (.inl h2)
        rw [if_pos h2, if_pos hin]
      · have hout : ¬ fs_in c w (n + 1) j := fun q => (fs_in_succ.mp q).elim h2 (fun q2 => hb q2.2)
        rw [if_neg h2, if_neg hout]
theorem ch_v (t : hy_T) {c w e s : Int} (hc : 0 ≤ c ∧ c < 12) : ∀ n : Nat, ∀ j : Nat, mf_chN t c w e s n 62 j = if fs_in c w n j then (if s = 0 then hz_iand (t 62 j) (hz_ixor (hz_ishl 1 e) (-1)) else hz_ior (t 62 j) (hz_ishl 1 e)) else t 62 j
  | 0, j => by
    rw [if_neg (show ¬ fs_in c w 0 j from fun q => by have := q.1; omega)]
    rfl
  | n + 1, j => by
    have ih := ch_v t (w := w) (e := e) (s := s) hc n
    simp only [mf_chN]
    by_cases hb : hz_b w n = true
    · rw [if_pos hb]
      unfold mf_ch1
      simp only [hy_up, true_and]
      by_cases hj : j = (4 * c + n).toNat
      · have hin : fs_in c w (n + 1) j := fs_in_succ.mpr (.inr ⟨by omega, hb⟩)
        have hno : ¬ fs_in c w n (4 * c + n).toNat := fun q => by have := q.1; omega
        rw [if_pos hj, if_pos hin, ih, if_neg hno, hj]
      · rw [if_neg hj, ih j]
        by_cases h2 : fs_in c w n j
        · have hin : fs_in c w (n + 1) j := fs_in_succ.mpr (.inl h2)
          rw [if_pos h2, if_pos hin]
        · have hout : ¬ fs_in c w (n + 1) j := fun q => (fs_in_succ.mp q).elim h2 (fun q2 => hj (by omega))
          rw [if_neg h2, if_neg hout]
    · rw [if_neg hb, ih j]
      by_cases h2 : fs_in c w n j
      · have hin : fs_in c w (n + 1) j := fs_in_succ.mpr (.inl h2)
        rw [if_pos h2, if_pos hin]
      · have hout : ¬ fs_in c w (n + 1) j := fun q => (fs_in_succ.mp q).elim h2 (fun q2 => hb q2.2)
        rw [if_neg h2, if_neg hout]
theorem ch_r (t : hy_T) (c w e s : Int) : ∀ n : Nat, ∀ r j, r ≠ 62 → mf_chN t c w e s n r j = t r j
  | 0, r, j, h => rfl
  | n + 1, r, j, h => by
    simp only [mf_chN]
    split
    · unfold mf_ch1
      rw [hy_up_ne (by omega)]
      exact ch_r t c w e s n r j h
    · exact ch_r t c w e s n r j h
/-- what is the same of two states: of the class at b, of the model -/
def fs_S (b : Nat) (t u : hy_T) : Prop := ((t b 3 = u 59 34 ∧ 0 ≤ t b 3 ∧ t b 3 ≤ 16) ∧ t b 4 = u 59 2 ∧ t b 5 = u 59 1) ∧ (∀ j : Nat, j < 48 → t (b + 1) j = u 62 j) ∧ ∀ i w : Nat, (i : Int) < t b 3 → w < 6 → t (b + 3) (6 * i + w) = u (85 + w) i
theorem mk_goN_iff (u : hy_T) (k : Nat) : ∀ n : Nat, mk_goN u k n = true ↔ ∀ q : Nat, q < n → (!hz_b (u 81 k) q || (hz_b (u 62 (4 * u 80 k + q).toNat) (u 82 k) && !hz_b (u 62 (4 * u 80 k + q).toNat) (u 83 k))) = true
  | 0 => ⟨fun _ q h => absurd h (Nat.not_lt_zero q), fun _ => rfl⟩
  | n + 1 => by
    simp only [mk_goN]
    rw [Bool.and_eq_true, mk_goN_iff u k n]
    constructor
    · rintro ⟨h1, h2⟩ q hq
      by_cases hqn : q = n
      · rw [hqn]; exact h2
      · exact h1 q (by omega)
    · exact fun h => ⟨fun q hq => h q (by omega), h n (by omega)⟩
theorem fs_can {b : Nat} {t u : hy_T} {k : Nat} (h : fs_S b t u) (hr : tz_r t u k) (hk : (k : Int) < t 27 6) (hp : ∀ c, wf_plain t c = mf_plain u c) (hw : ml_row u k) : wf_can b t k = mk_can u k := by
  obtain ⟨⟨⟨s1, s2, s3⟩, -⟩, s6, -⟩ := h
  obtain ⟨⟨r1, r2⟩, ⟨r3, r4⟩, -⟩ := hr
  have v28 : ln_v t 28 k = u 80 k := by unfold ln_v; rw [if_pos (by omega), Int.toNat_natCast, r1]
  have v29 : ln_v t 29 k = u 81 k := by unfold ln_v; rw [if_pos (by omega), Int.toNat_natCast, r2]
  have v31 : ln_v t 31 k = u 82 k := by unfold ln_v; rw [if_pos (by omega), Int.toNat_natCast, r3]
  have v32 : ln_v t 32 k = u 83 k := by unfold ln_v; rw [if_pos (by omega), Int.toNat_natCast, r4]
  have hc := hw.1
  unfold wf_can mk_can
  rw [v28, v29, v31, v32, hp]
  have e1 : decide (t b 3 < 16) = decide (u 59 34 ≠ 16) := by
    rw [decide_eq_decide]
    omega
  have e2 : sp_canGo (t (b + 1)) (u 80 k) (u 81 k) (u 82 k) (u 83 k) = mk_goN u k 4 := by
    rw [Bool.eq_iff_iff, mk_goN_iff]
    unfold sp_canGo
    rw [decide_eq_true_eq]
    have e3 : ∀ q : Nat, q < 4 → sp_hav (t (b + 1)) (u 80 k) q = u 62 (4 * u 80 k + q).toNat := fun q hq => by
      unfold sp_hav
      rw [if_pos (by omega)]
      exact s6 _ (by omega)
    constructor
    · intro h q hq
      have := h q hq
      rw [e3 q hq] at this
      revert this
      cases hz_b (u 81 k) q <;> cases hz_b (u 62 (4 * u 80 k + q).toNat) (u 82 k) <;> cases hz_b (u 62 (4 * u 80 k + q).toNat) (u 83 k) <;> simp
    · intro h q hq
      have := h q hq
      rw [e3 q hq]
      revert this
      cases hz_b (u 81 k) q <;> cases hz_b (u 62 (4 * u 80 k + q).toNat) (u 82 k) <;> cases hz_b (u 62 (4 * u 80 k + q).toNat) (u 83 k) <;> simp
  rw [e1, e2]
  exact (Bool.and_assoc _ _ _).symm
theorem fs_make {b : Nat} (hb : b = 33 ∨ b = 41) {t u : hy_T} {k : Nat} (h : fs_S b t u) (hr : tz_r t u k) (hk : (k : Int) < t 27 6) (hp : ∀ c, wf_plain t c = mf_plain u c) (hw : ml_row u k) : fs_S b (wf_make b t k) (mk_make u k) := by
  have ec := fs_can h hr hk hp hw
  unfold wf_make mk_make
  rw [ec]
  by_cases hm : mk_can u k = true
  · rw [if_pos hm, if_pos hm]
    obtain ⟨⟨⟨s1, s2, s3⟩, s4, s5⟩, s6, s7⟩ := h
    obtain ⟨⟨r1, r2⟩, ⟨r3, r4⟩, r5⟩ := hr
    have v28 : ln_v t 28 k = u 80 k := by unfold ln_v; rw [if_pos (by omega), Int.toNat_natCast, r1]
    have v29 : ln_v t 29 k = u 81 k := by unfold ln_v; rw [if_pos (by omega), Int.toNat_natCast, r2]
    have v31 : ln_v t 31 k = u 82 k := by unfold ln_v; rw [if_pos (by omega), Int.toNat_natCast, r3]
    have v32 : ln_v t 32 k = u 83 k := by unfold ln_v; rw [if_pos (by omega), Int.toNat_natCast, r4]
    have e30 : decide ((0 ≤ (k : Int) ∧ (k : Int) < t 27 6) ∧ t 30 (k : Int).toNat = 43) = decide (t 30 k = 43) := by
      rw [decide_eq_decide, Int.toNat_natCast]
      exact ⟨fun q => q.2, fun q => ⟨by omega, q⟩⟩
    rw [v28, v29, v31, v32, e30]
    obtain ⟨w1, w2, w3, w4, w5⟩ := hw
    have hgo : ∀ q : Nat, q < 4 → hz_b (u 81 k) q = true → u 82 k ≠ u 83 k := fun q hq hbit hne => by
      unfold mk_can at hm
      rw [Bool.and_eq_true] at hm
      have := (mk_goN_iff u k 4).mp hm.2 q hq
      rw [hbit, hne] at this
      revert this
      cases hz_b (u 62 (4 * u 80 k + q).toNat) (u 83 k) <;> simp
    have h34 : u 59 34 < 16 := by
      unfold mk_can at hm
      rw [Bool.and_eq_true, Bool.and_eq_true, decide_eq_true_eq] at hm
      omega
    -- the model's rows
    have cr : ∀ r j, r ≠ 62 → mk_c2 u k r j = u r j := fun r j hr => by
      unfold mk_c2
      split
      · rw [ch_r _ _ _ _ _ 4 r j hr]
        unfold mk_c1
        rw [ch_r _ _ _ _ _ 4 r j hr]
      · unfold mk_c1
        rw [ch_r _ _ _ _ _ 4 r j hr]
    have e84 : mk_c1 u k 84 k = if t 30 k = 43 then 1 else 0 := by
      unfold mk_c1
      rw [ch_r _ _ _ _ _ 4 84 k (by decide)]
      exact r5
    have row : ∀ j : Nat, j < 48 → sp_moveN b t (u 80 k) (u 81 k) (if hy_b (decide (t 30 k = 43)) = 0 then u 82 k else -1) (u 83 k) 4 (b + 1) j = mk_c2 u k 62 j := fun j hj => by
      rw [mv_v b t w1 4 (by decide) j, s6 j hj]
      unfold mk_c2
      rw [e84]
      have c80 : mk_c1 u k 80 k = u 80 k := by unfold mk_c1; rw [ch_r _ _ _ _ _ 4 80 k (by decide)]
      have c81 : mk_c1 u k 81 k = u 81 k := by unfold mk_c1; rw [ch_r _ _ _ _ _ 4 81 k (by decide)]
      have c82 : mk_c1 u k 82 k = u 82 k := by unfold mk_c1; rw [ch_r _ _ _ _ _ 4 82 k (by decide)]
      have c62 : mk_c1 u k 62 j = if fs_in (u 80 k) (u 81 k) 4 j then hz_ior (u 62 j) (hz_ishl 1 (u 83 k)) else u 62 j := by
        unfold mk_c1
        rw [ch_v u w1 4 j, if_neg (show ¬ (1 : Int) = 0 by decide)]
      by_cases h43 : t 30 k = 43
      · rw [if_pos h43, if_neg (show ¬ (1 : Int) = 0 by decide), c62, decide_eq_true h43, if_neg (show ¬ hy_b true = 0 by decide), if_pos rfl]
      · rw [if_neg h43, if_pos rfl, c80, c81, c82, ch_v (mk_c1 u k) w1 4 j, c62, decide_eq_false h43, if_pos (show hy_b false = 0 from rfl), if_neg (show ¬ u 82 k = -1 by omega), if_pos rfl]
        by_cases hf : fs_in (u 80 k) (u 81 k) 4 j
        · rw [if_pos hf, if_pos hf, if_pos hf]
          have hbit := hf.2
          rw [show (j : Int) - 4 * u 80 k = (((j : Int) - 4 * u 80 k).toNat : Nat) by have := hf.1; omega] at hbit
          exact bt_swap w3 w4 (hgo _ (by have := hf.1; omega) hbit)
        · rw [if_neg hf, if_neg hf, if_neg hf]
    -- the class's rows
    have lay : ∀ (T : hy_T) (n : Nat) (c w g o s d : Int) (j : Nat), sp_lay b T n c w g o s d (b + 3) j = if j = n + 5 then d else if j = n + 4 then s else if j = n + 3 then o else if j = n + 2 then g else if j = n + 1 then w else if j = n then c else T (b + 3) j := fun T n c w g o s d j => by
      unfold sp_lay
      simp only [hy_up, true_and]
    have layr : ∀ (T : hy_T) (n : Nat) (c w g o s d : Int) (r j : Nat), r ≠ b + 3 → sp_lay b T n c w g o s d r j = T r j := fun T n c w g o s d r j hr => by
      unfold sp_lay
      rw [hy_up_ne hr, hy_up_ne hr, hy_up_ne hr, hy_up_ne hr, hy_up_ne hr, hy_up_ne hr]
    have mr : ∀ (lo : Int) (r j : Nat), r ≠ b + 1 → sp_moveN b t (u 80 k) (u 81 k) lo (u 83 k) 4 r j = t r j := fun lo r j hr => sp_moveN_F b t _ _ lo _ 4 r j (by simpa using hr)
    unfold sp_made
    dsimp only
    generalize hlo : (if hy_b (decide (t 30 k = 43)) = 0 then u 82 k else -1) = lo at row
    have hsh : (if hy_b (decide (t 30 k = 43)) = 0 then (0 : Int) else 1) = u 84 k := by
      rw [r5]
      by_cases h43 : t 30 k = 43
      · rw [decide_eq_true h43, if_pos h43]; rfl
      · rw [decide_eq_false h43, if_neg h43]; rfl
    rw [hsh]
    have lm : ∀ r, r ≠ 85 → r ≠ 86 → r ≠ 87 → r ≠ 88 → r ≠ 89 → r ≠ 90 → r ≠ 59 → ∀ j, mk_lay (mk_c2 u k) k r j = mk_c2 u k r j := fun r a1 a2 a3 a4 a5 a6 a7 j => by
      unfold mk_lay
      rw [hy_up_ne a7, hy_up_ne a6, hy_up_ne a5, hy_up_ne a4, hy_up_ne a3, hy_up_ne a2, hy_up_ne a1]
    have c34 : mk_c2 u k 59 34 = u 59 34 := cr 59 34 (by decide)
    have lmv : ∀ w i : Nat, w < 6 → mk_lay (mk_c2 u k) k (85 + w) i = if i = (u 59 34).toNat then (if w = 0 then u 80 k else if w = 1 then u 81 k else if w = 2 then u 82 k else if w = 3 then u 83 k else if w = 4 then u 84 k else u 59 2) else u (85 + w) i := fun w i hw => by
      have hw6 : w = 0 ∨ w = 1 ∨ w = 2 ∨ w = 3 ∨ w = 4 ∨ w = 5 := by omega
      unfold mk_lay
      rw [c34, cr 80 k (by decide), cr 81 k (by decide), cr 82 k (by decide), cr 83 k (by decide), cr 84 k (by decide), cr 59 2 (by decide)]
      rcases hw6 with rfl | rfl | rfl | rfl | rfl | rfl <;> simp [hy_up] <;> rw [cr _ _ (by decide)]
    have b3 : ∀ r, r = b + 1 ∨ r = b + 3 → r ≠ b := fun r hr => by omega
    refine ⟨⟨⟨?_, ?_, ?_⟩, ?_, ?_⟩, fun j hj => ?_, fun i w hi hw => ?_⟩
    · rw [show ∀ T : hy_T, hy_up T b 3 (t b 3 + 1) b 3 = t b 3 + 1 from fun T => by simp [hy_up]]
      show _ = mk_c2 u k 59 34 + 1
      rw [c34, s1]
    · rw [show ∀ T : hy_T, hy_up T b 3 (t b 3 + 1) b 3 = t b 3 + 1 from fun T => by simp [hy_up]]
      omega
    · rw [show ∀ T : hy_T, hy_up T b 3 (t b 3 + 1) b 3 = t b 3 + 1 from fun T => by simp [hy_up]]
      omega
    · rw [show ∀ T : hy_T, hy_up T b 3 (t b 3 + 1) b 4 = T b 4 from fun T => by simp [hy_up]]
      rw [layr _ _ _ _ _ _ _ _ b 4 (by omega), mr lo b 4 (by omega), s4]
      show u 59 2 = mk_c2 u k 59 2
      rw [cr 59 2 (by decide)]
    · rw [show ∀ T : hy_T, hy_up T b 3 (t b 3 + 1) b 5 = T b 5 from fun T => by simp [hy_up]]
      rw [layr _ _ _ _ _ _ _ _ b 5 (by omega), mr lo b 5 (by omega), s5]
      show u 59 1 = mk_c2 u k 59 1
      rw [cr 59 1 (by decide)]
    · rw [hy_up_ne (by omega), layr _ _ _ _ _ _ _ _ (b + 1) j (by omega), row j hj, lm 62 (by decide) (by decide) (by decide) (by decide) (by decide) (by decide) (by decide)]
    · rw [show ∀ T : hy_T, hy_up T b 3 (t b 3 + 1) b 3 = t b 3 + 1 from fun T => by simp [hy_up]] at hi
      rw [hy_up_ne (by omega), lay, lmv w i hw]
      by_cases hin : i = (u 59 34).toNat
      · have e6 : (6 * t b 3).toNat = 6 * i := by omega
        rw [if_pos hin, e6]
        have hw6 : w = 0 ∨ w = 1 ∨ w = 2 ∨ w = 3 ∨ w = 4 ∨ w = 5 := by omega
        rcases hw6 with rfl | rfl | rfl | rfl | rfl | rfl
        · rw [if_neg (by omega), if_neg (by omega), if_neg (by omega), if_neg (by omega), if_neg (by omega), if_pos (by omega), if_pos rfl]
        · rw [if_neg (by omega), if_neg (by omega), if_neg (by omega), if_neg (by omega), if_pos (by omega), if_neg (by omega), if_pos rfl]
        · rw [if_neg (by omega), if_neg (by omega), if_neg (by omega), if_pos (by omega), if_neg (by omega), if_neg (by omega), if_pos rfl]
        · rw [if_neg (by omega), if_neg (by omega), if_pos (by omega), if_neg (by omega), if_neg (by omega), if_neg (by omega), if_pos rfl]
        · rw [if_neg (by omega), if_pos (by omega), if_neg (by omega), if_neg (by omega), if_neg (by omega), if_neg (by omega), if_pos rfl]
        · rw [if_pos (by omega), if_neg (by omega), if_neg (by omega), if_neg (by omega), if_neg (by omega), if_neg (by omega)]
          exact s4
      · rw [if_neg hin, if_neg (by omega), if_neg (by omega), if_neg (by omega), if_neg (by omega), if_neg (by omega), if_neg (by omega), mr lo (b + 3) _ (by omega)]
        exact s7 i w (by omega) hw
  · rw [if_neg hm, if_neg hm]
    exact h
