/-! the whole law as it is read -/
def tl_cl (ops args kinds amts conds : Nat → Int) (steps : Int) (f : Nat → Int) (m : Int) (R8 R9 R0 R1 : Nat → Int) (i : Nat) : Prop :=
  (kinds i = R8 i ∧ R0 i ≤ R1 i ∧ R1 i ≤ m) ∧ (tl_co ops args f (R0 i) (R1 i) (conds i) ∧ conds i + (R1 i - R0 i) < steps) ∧ (az_amt (R8 i) → (tl_am ops args f (R9 i) (R0 i) (amts i) ∧ amts i + (R0 i - R9 i) < steps) ∧ R9 i ≤ R0 i)
theorem tl_cl_eq {ops args kinds amts conds f ops' args' kinds' amts' conds' f' R8 R9 R0 R1 R8' R9' R0' R1' : Nat → Int} {steps steps' m' : Int} {n m i : Nat} (h : tl_cl ops args kinds amts conds steps f m R8 R9 R0 R1 i) (hs : steps = n) (hs' : steps ≤ steps') (hm' : (m : Int) ≤ m') (e1 : ∀ j, j < n → ops' j = ops j ∧ args' j = args j) (e2 : ∀ j, j < m → f' j = f j) (e3 : kinds' i = kinds i ∧ amts' i = amts i ∧ conds' i = conds i) (e4 : (R8' i = R8 i ∧ R9' i = R9 i) ∧ R0' i = R0 i ∧ R1' i = R1 i) : tl_cl ops' args' kinds' amts' conds' steps' f' m' R8' R9' R0' R1' i := by
  obtain ⟨⟨h1, h2, h3⟩, ⟨h4, h5⟩, h6⟩ := h
  obtain ⟨k1, k2, k3⟩ := e3
  obtain ⟨⟨r1, r2⟩, r3, r4⟩ := e4
  unfold tl_cl
  rw [k1, k2, k3, r1, r2, r3, r4]
  refine ⟨⟨h1, h2, by omega⟩, ⟨tl_co_eq (n := n) (m := m) h4 (by omega) (by omega) e1 e2, by omega⟩, fun ha => ?_⟩
  obtain ⟨⟨q1, q2⟩, q3⟩ := h6 ha
  exact ⟨⟨tl_am_eq (n := n) (m := m) q1 (by omega) (by omega) e1 e2, by omega⟩, q3⟩
def tl_LS (B : Int → Int) (t : hy_T) (s : Ls) : Prop := (∃ D E : Nat, tl_S B D E s.2.1 t s.1 s.2.1 s.2.2.1) ∧ (t 19 7 = s.2.2.2.1 ∧ s.2.2.2.1 ≤ 16) ∧ ∀ i, i < s.2.2.2.1 → tl_cl (t 20) (t 21) (t 22) (t 23) (t 24) (t 19 3) s.2.2.1 s.2.1 (s.2.2.2.2 68) (s.2.2.2.2 69) (s.2.2.2.2 70) (s.2.2.2.2 71) i
theorem tl_LS.clause {B : Int → Int} (hB : az_by B) {t : hy_T} {s : Ls} (h : tl_LS B t s) (hlp : lp_ok t) : (rk_clause t 3 4 ≠ 0 ∧ az_cl B s.2.2.2.1 s.1 s.2.1 s.2.2.1 = .inl (rk_clause t 3 4)) ∨ ∃ q, az_cl B s.2.2.2.1 s.1 s.2.1 s.2.2.1 = .inr q ∧ tl_LS B (rk_clause t) (al_nx B s s.1 q) ∧ s.1 < q.1 := by
  obtain ⟨⟨D, E, h1⟩, ⟨h2, h3⟩, h4⟩ := h
  rcases tl_clause hB h1 hlp h2 h3 with d | ⟨q, c1, ⟨D', E', c2, c3⟩, ⟨⟨c4, c5, c6⟩, c7⟩, ⟨c8, c9⟩, ⟨c10, c11, c, c12, c13, c14⟩, c15⟩
  · exact .inl d
  · have L := (rk_clause_s hlp).1.2.2
    have hcn := h1.cn
    have hcn' := c3.cn
    refine .inr ⟨q, c1, ⟨⟨D', E', c3⟩, ⟨c7, ?_⟩, fun i hi => ?_⟩, c4⟩
    · show s.2.2.2.1 + 1 ≤ 16
      omega
    · have hi2 : i < s.2.2.2.1 + 1 := hi
      have e68 : (al_nx B s s.1 q).2.2.2.2 68 = su (s.2.2.2.2 68) s.2.2.2.1 (B s.1) := rfl
      have e69 : (al_nx B s s.1 q).2.2.2.2 69 = su (s.2.2.2.2 69) s.2.2.2.1 s.2.1 := rfl
      have e70 : (al_nx B s s.1 q).2.2.2.2 70 = su (s.2.2.2.2 70) s.2.2.2.1 q.2.2.2 := rfl
      have e71 : (al_nx B s s.1 q).2.2.2.2 71 = su (s.2.2.2.2 71) s.2.2.2.1 q.2.1 := rfl
      rw [e68, e69, e70, e71]
      by_cases hk : i = s.2.2.2.1
      · have s0 : ∀ (g : Nat → Int) (v : Int), su g s.2.2.2.1 v i = v := fun g v => by unfold su; rw [if_pos hk]
        unfold tl_cl
        rw [s0, s0, s0, s0, c10, c11, c12, s0, s0, s0]
        refine ⟨⟨rfl, by omega, Int.le_refl _⟩, ⟨c13, c14⟩, fun ha => ⟨c15 ha, by omega⟩⟩
      · have s0 : ∀ (g : Nat → Int) (v : Int), su g s.2.2.2.1 v i = g i := fun g v => by unfold su; rw [if_neg hk]
        refine tl_cl_eq (n := s.2.1 + D) (m := s.2.1) (h4 i (by omega)) (by rw [hcn]; push_cast; rfl) (by rw [hcn, hcn']; omega) (by show ((s.2.1 : Nat) : Int) ≤ (q.2.1 : Nat); omega) c9 c8 ⟨by rw [c10, s0], by rw [c11, s0], by rw [c12, s0]⟩ ⟨⟨s0 _ _, s0 _ _⟩, s0 _ _, s0 _ _⟩
theorem tl_LS.step {B : Int → Int} (hB : az_by B) {t : hy_T} {p : Int} {m : Nat} {f : Nat → Int} {k : Nat} {R : Nat → Nat → Int} (h : tl_LS B t (p, m, f, k, R)) (hb : 0 ≤ B p) : tl_LS B (tp_step t) (p + 1, m, f, k, R) := by
  obtain ⟨⟨D, E, h1⟩, h2, h3⟩ := h
  exact ⟨⟨D, E + 1, h1.step hB hb⟩, h2, h3⟩
theorem dd_law : ∀ (N : Nat) {t : hy_T}, t 3 4 ≠ 0 → tp_finish (rk_loop N t) 3 4 = t 3 4
  | 0, t, h => by
    show tp_finish t 3 4 = _
    unfold tp_finish
    split
    · rw [dd_fail h]
    · rfl
  | N + 1, t, h => by
    have e : rk_loop (N + 1) t = t := by
      simp only [rk_loop]
      rw [dd_next h, if_neg (by decide)]
    rw [e]
    unfold tp_finish
    split
    · rw [dd_fail h]
    · rfl
theorem tl_lawN {B : Int → Int} (hB : az_by B) {len : Int} (hlen : ∀ p, 0 ≤ p → (p < len ↔ 0 ≤ B p)) : ∀ (N n : Nat) {t : hy_T} {s : Ls}, tl_LS B t s → lp_ok t → N + s.2.2.2.1 = 17 → 241 ≤ n + s.1 →
    (tp_finish (rk_loop N t) 3 4 ≠ 0 ∧ al_lawN B len n s = .inl (tp_finish (rk_loop N t) 3 4)) ∨ ∃ s', al_lawN B len n s = .inr s' ∧ tl_LS B (tp_finish (rk_loop N t)) s'
  | 0, n, t, s, h, hlp, hN, hn => by
    have := h.2.1.2
    omega
  | N + 1, n, t, s, h, hlp, hN, hn => by
    obtain ⟨p, m, f, k, R⟩ := s
    obtain ⟨D, E, h1⟩ := h.1
    dsimp only at hN hn h1
    have e := h1.next
    have hp0 := h1.p0
    have hp1 := h1.p1
    obtain ⟨n1, rfl⟩ : ∃ x, n = x + 1 := ⟨n - 1, by omega⟩
    simp only [rk_loop, al_lawN]
    rw [e]
    by_cases h59 : B p = 59
    · have hl := (hlen p hp0).mpr (by omega)
      rw [if_pos h59, if_pos hl, if_pos h59]
      have h2 := h.step hB (show 0 ≤ B p by omega)
      have L2 := rx_step_ok hlp (by rw [e]; omega)
      rcases h2.clause hB L2 with ⟨d1, d2⟩ | ⟨q, c1, c2, c3⟩
      · dsimp only at d2
        rw [d2, dd_law N d1]
        exact .inl ⟨d1, rfl⟩
      · dsimp only at c1 c3
        rw [c1]
        dsimp only
        have L3 := (rk_clause_s L2).1
        have hr := tl_lawN hB hlen N n1 c2 L3 (by show N + (k + 1) = 17; omega) (by show 241 ≤ (n1 : Int) + q.1; omega)
        exact hr
    · rw [if_neg h59, if_neg h59]
      have hby := h1.by_ p hp0
      have hbt := (hlp.1.b p.toNat (by omega)).1
      by_cases hl : p < len
      · rw [if_pos hl]
        have hb := (hlen p hp0).mp hl
        have hlt : p < t 3 2 := by
          refine Decidable.byContradiction (fun q => ?_)
          rw [if_neg q] at hby
          omega
        have ef : tp_finish t = tp_fail t 1 (t 3 3) := by
          unfold tp_finish
          rw [if_pos (by rw [h1.at_]; exact hlt)]
        have := h1.fail (n := 1) (by decide)
        rw [ef]
        refine .inl ⟨this.2, ?_⟩
        rw [this.1]
        congr 1
      · rw [if_neg hl]
        have hlt : ¬ p < t 3 2 := fun q => by
          rw [if_pos q] at hby
          exact hl ((hlen p hp0).mpr (by omega))
        have ef : tp_finish t = t := by
          unfold tp_finish
          rw [if_neg (by rw [h1.at_]; exact hlt)]
        rw [ef]
        exact .inr ⟨_, rfl, h⟩
theorem tl_law {B : Int → Int} (hB : az_by B) {t : hy_T} {n : Int} (htp : tp_ok t) (hn : 1 ≤ n ∧ n ≤ 240 ∧ n ≤ t 3 1) (hby : ∀ q : Int, 0 ≤ q → B q = if q < n then t 4 q.toNat else -1) (R : Nat → Nat → Int) :
    (rk_read t n 3 4 ≠ 0 ∧ al_law B n R = .inl (rk_read t n 3 4)) ∨ ∃ s, al_law B n R = .inr s ∧ tl_LS B (rk_read t n) s := by
  have e32 : rk_init t n 3 2 = n := by
    show (if t 3 1 < n then t 3 1 else n) = n
    rw [if_neg (by omega)]
  have S0 : tl_S B 0 0 0 (rk_init t n) 0 0 (fun _ => 0) := by
    refine ⟨⟨⟨rfl, rfl⟩, ⟨by decide, by decide⟩, fun q hq => ?_⟩, ⟨rfl, ⟨by decide, by decide⟩, by decide⟩, fun j h1 h2 => by omega⟩
    rw [e32]
    exact (hby q hq).symm
  have h0 : tl_LS B (rk_init t n) (al_s0 R) := ⟨⟨0, 0, S0⟩, ⟨rfl, Nat.zero_le 16⟩, fun i hi => absurd hi (Nat.not_lt_zero i)⟩
  have L0 := rk_init_s htp n
  have hlen : ∀ p, 0 ≤ p → (p < n ↔ 0 ≤ B p) := fun p hp => by
    have e := hby p hp
    constructor
    · intro hq
      rw [if_pos hq] at e
      rw [e]
      exact (htp.b p.toNat (by omega)).1
    · intro hq
      refine Decidable.byContradiction (fun c => ?_)
      rw [if_neg c] at e
      omega
  have eL : al_law B n R = match az_cl B ((al_s0 R).2.2.2.1 : Int) (al_s0 R).1 (al_s0 R).2.1 (al_s0 R).2.2.1 with | .inl e => .inl e | .inr q => al_lawN B n 300 (al_nx B (al_s0 R) (al_s0 R).1 q) := rfl
  unfold rk_read
  rw [eL]
  rcases h0.clause hB L0 with ⟨d1, d2⟩ | ⟨q, c1, c2, c3⟩
  · rw [d2, dd_law 16 d1]
    exact .inl ⟨d1, rfl⟩
  · rw [c1]
    dsimp only
    have c3' : 0 < q.1 := c3
    exact tl_lawN hB hlen 16 300 c2 (rk_clause_s L0).1 rfl (by show 241 ≤ ((300 : Nat) : Int) + q.1; omega)
