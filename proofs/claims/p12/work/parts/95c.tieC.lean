/-! clauses -/
theorem tl_S.of {B : Int → Int} {D E m0 : Nat} {t t' : hy_T} {p : Int} {m : Nat} {f : Nat → Int} (h : tl_S B D E m0 t p m f) (e3 : t' 3 = t 3) (e4 : t' 4 = t 4) (e19 : t' 19 3 = t 19 3) (e20 : t' 20 = t 20) (e21 : t' 21 = t 21) : tl_S B D E m0 t' p m f := by
  obtain ⟨⟨⟨h1, h2⟩, h3, h4⟩, ⟨h5, h6⟩, h7⟩ := h
  refine ⟨⟨⟨by rw [e3]; exact h1, by rw [e3]; exact h2⟩, h3, ?_⟩, ⟨by rw [e19]; exact h5, h6⟩, ?_⟩
  · rw [e3, e4]; exact h4
  · rw [e20, e21]; exact h7
/-- the class's own mark behind an E and a C -/
theorem tl_S.stop {B : Int → Int} {D E m0 : Nat} {t : hy_T} {p : Int} {m : Nat} {f : Nat → Int} (h : tl_S B D E m0 t p m f) (hD : D + 1 ≤ E) : tl_S B (D + 1) E m (lp_emit t 46 0) p m f ∧ lp_emit t 46 0 20 (m + D) = 46 ∧ (∀ j : Nat, j < m + D → lp_emit t 46 0 20 j = t 20 j ∧ lp_emit t 46 0 21 j = t 21 j) ∧ ((∀ r j, r ≠ 20 → r ≠ 21 → ¬ (r = 19 ∧ j = 3) → lp_emit t 46 0 r j = t r j) ∧ lp_emit t 46 0 19 3 = m + D + 1) := by
  have h1 := h.p1
  have hl := h.le
  have h2 := h.cn
  have e : lp_emit t 46 0 = hy_up (hy_up (hy_up t 20 (m + D) 46) 21 (m + D) 0) 19 3 (t 19 3 + 1) := by
    unfold lp_emit
    rw [if_pos (by omega), show (t 19 3).toNat = m + D by omega]
  have e20 : ∀ i, lp_emit t 46 0 20 i = if i = m + D then 46 else t 20 i := fun i => by
    rw [e, hy_up_ne (by decide), hy_up_ne (by decide)]
    simp only [hy_up, true_and]
  have e21 : ∀ i, lp_emit t 46 0 21 i = if i = m + D then 0 else t 21 i := fun i => by
    rw [e, hy_up_ne (by decide)]
    simp only [hy_up, true_and]
    split
    · rfl
    · rw [if_neg (by omega)]
  have er : ∀ r j, r ≠ 20 → r ≠ 21 → ¬ (r = 19 ∧ j = 3) → lp_emit t 46 0 r j = t r j := fun r j q1 q2 q3 => by
    rw [e]
    simp only [hy_up]
    rw [if_neg q3, if_neg (fun c => q2 c.1), if_neg (fun c => q1 c.1)]
  have e3 : ∀ j, lp_emit t 46 0 3 j = t 3 j := fun j => er 3 j (by decide) (by decide) (by omega)
  have e4 : ∀ j, lp_emit t 46 0 4 j = t 4 j := fun j => er 4 j (by decide) (by decide) (by omega)
  have e19 : lp_emit t 46 0 19 3 = m + D + 1 := by
    rw [e]
    show t 19 3 + 1 = _
    rw [h2]
  refine ⟨⟨⟨⟨by rw [e3]; exact h.ok, by rw [e3]; exact h.at_⟩, ⟨h.p0, h.p1⟩, fun q hq => by rw [e3, e4]; exact h.by_ q hq⟩, ⟨by rw [e19]; push_cast; omega, ⟨hl, hD⟩, Nat.le_refl _⟩, fun j h3 h4 => by omega⟩, by rw [e20, if_pos rfl], fun j hj => ?_, er, e19⟩
  rw [e20, e21, if_neg (by omega), if_neg (by omega)]
  exact ⟨rfl, rfl⟩
/-- what an amount and a condition are on both sides -/
def tl_am (ops args f : Nat → Int) (a b s : Int) : Prop := ∃ a' b' D : Nat, (a = a' ∧ b = b' ∧ a' ≤ b') ∧ (s = a' + D ∧ b' + D < 241) ∧ ((∀ j : Nat, a' ≤ j → j < b' → tl_cm (ops (j + D)) (args (j + D)) (f j)) ∧ ops (b' + D) = 46) ∧ tl_H 1 16 a' f b'
def tl_co (ops args f : Nat → Int) (a b s : Int) : Prop := ∃ a' b' D : Nat, (a = a' ∧ b = b' ∧ a' ≤ b') ∧ (s = a' + D ∧ b' + D < 241) ∧ ((∀ j : Nat, a' ≤ j → j < b' → tl_cc D [] j (ops (j + D)) (args (j + D)) (f j)) ∧ ops (b' + D) = 46) ∧ (az_bw f a' b' [] ∧ az_bo f a' b') ∧ tl_H 1 16 a' f b'
theorem tl_am_eq {ops args f ops' args' f' : Nat → Int} {a b s : Int} {n m : Nat} (h : tl_am ops args f a b s) (hn : s + (b - a) < n) (hm : b ≤ m) (e1 : ∀ j, j < n → ops' j = ops j ∧ args' j = args j) (e2 : ∀ j, j < m → f' j = f j) : tl_am ops' args' f' a b s := by
  obtain ⟨a', b', D, ⟨h1, h2, h3⟩, ⟨h4, h5⟩, ⟨h6, h7⟩, h8⟩ := h
  refine ⟨a', b', D, ⟨h1, h2, h3⟩, ⟨h4, h5⟩, ⟨fun j q1 q2 => ?_, ?_⟩, h8.cong (fun j hj => by rw [e2 j (by omega)])⟩
  · rw [(e1 (j + D) (by omega)).1, (e1 (j + D) (by omega)).2, e2 j (by omega)]
    exact h6 j q1 q2
  · rw [(e1 (b' + D) (by omega)).1]
    exact h7
theorem az_bo_cong {f g : Nat → Int} {a k m : Nat} (hk : k ≤ m) (e : ∀ j, j < m → g j = f j) (h : az_bo f a k) : az_bo g a k := az_bo_eq h (fun i hi => by rw [e i (by omega)])
theorem az_bw_cong {f g : Nat → Int} {a m : Nat} {w : List Int} (e : ∀ j, j < m → g j = f j) (h : az_bw f a m w) : az_bw g a m w := fun j h1 h2 => by
  rw [e j h2]
  obtain ⟨⟨x1, x2⟩, x3⟩ := h j h1 h2
  exact ⟨⟨x1, fun q => az_bo_cong (by omega) e (x2 q)⟩, fun q => (x3 q).elim .inl (fun c => .inr ⟨c.1, az_bo_cong c.1.2 e c.2⟩)⟩
theorem tl_co_eq {ops args f ops' args' f' : Nat → Int} {a b s : Int} {n m : Nat} (h : tl_co ops args f a b s) (hn : s + (b - a) < n) (hm : b ≤ m) (e1 : ∀ j, j < n → ops' j = ops j ∧ args' j = args j) (e2 : ∀ j, j < m → f' j = f j) : tl_co ops' args' f' a b s := by
  obtain ⟨a', b', D, ⟨h1, h2, h3⟩, ⟨h4, h5⟩, ⟨h6, h7⟩, ⟨h8, h9⟩, h10⟩ := h
  refine ⟨a', b', D, ⟨h1, h2, h3⟩, ⟨h4, h5⟩, ⟨fun j q1 q2 => ?_, ?_⟩, ⟨az_bw_cong (fun j hj => e2 j (by omega)) h8, az_bo_cong (m := m) (by omega) e2 h9⟩, h10.cong (fun j hj => by rw [e2 j (by omega)])⟩
  · rw [(e1 (j + D) (by omega)).1, (e1 (j + D) (by omega)).2, e2 j (by omega)]
    exact h6 j q1 q2
  · rw [(e1 (b' + D) (by omega)).1]
    exact h7
theorem dd_take' {t : hy_T} (h : t 3 4 ≠ 0) {s : Int} (hs : 0 ≤ s) : tp_take t s 3 4 = t 3 4 := by rw [dd_take h hs]
theorem dd_body {t : hy_T} (h : t 3 4 ≠ 0) : rk_body t 3 4 = t 3 4 := by
  have e0 : hy_up t 24 (t 19 7).toNat (t 19 3) 3 4 = t 3 4 := rfl
  have e1 : tp_take (hy_up t 24 (t 19 7).toNat (t 19 3)) 40 3 4 = t 3 4 := by rw [dd_take' (by rw [e0]; exact h) (by decide)]; exact e0
  have e2 := dd_either 5 _ (show tp_take (hy_up t 24 (t 19 7).toNat (t 19 3)) 40 3 4 ≠ 0 by rw [e1]; exact h)
  unfold rk_body
  rw [dd_emit, dd_take' (by rw [e2, e1]; exact h) (by decide), e2, e1]
theorem dd_cond {t : hy_T} (h : t 3 4 ≠ 0) : rk_cond t 3 4 = t 3 4 := by
  have e : rk_cond t 3 4 = rk_body t 3 4 := rfl
  rw [e, dd_body h]
theorem tl_bodyF {t : hy_T} (h : lp_ok t) : hy_F lpX (hy_up t 24 (t 19 7).toNat (t 19 3)) (rk_body t) := by
  obtain ⟨a1, a2⟩ := lp_take_s (rk_pre_s h) (s := 40) (by decide)
  obtain ⟨b1, b2⟩ := rp_either_s 5 _ a1
  obtain ⟨c1, c2⟩ := lp_take_s b1 (s := 41) (by decide)
  obtain ⟨d1, d2⟩ := lp_emit_s c1 46 0
  exact ((a2.tr' b2).tr' c2).tr' d2
/-- behind the C of a clause -/
theorem tl_cond {B : Int → Int} (hB : az_by B) {D E m0 : Nat} {t : hy_T} {p : Int} {m : Nat} {f : Nat → Int} {k : Nat} (h : tl_S B D E m0 t p m f) (hlp : lp_ok t) (hk : t 19 7 = k) :
    (rk_cond t 3 4 ≠ 0 ∧ az_rc B p m f = .inl (rk_cond t 3 4)) ∨ ∃ (p' : Int) (m' : Nat) (f' : Nat → Int) (w' : List Int) (o' : Int), az_rc B p m f = .inr (p', m', f', w', o') ∧ tl_S B (D + 1) (E + 1) m' (rk_cond t) p' m' f' ∧ ((p < p' ∧ m ≤ m') ∧ rk_cond t 19 7 = k + 1) ∧ ((∀ j, j < m → f' j = f j) ∧ ∀ j : Nat, j < m + D → rk_cond t 20 j = t 20 j ∧ rk_cond t 21 j = t 21 j) ∧ (rk_cond t 22 = t 22 ∧ rk_cond t 23 = t 23 ∧ rk_cond t 24 = su (t 24) k (m + D)) ∧ tl_co (rk_cond t 20) (rk_cond t 21) f' m m' (m + D) := by
  have hcn := h.cn
  have hp1 := h.p1
  have hde := h.de
  have F := tl_bodyF hlp
  have S0 : tl_S B D E m (hy_up t 24 (t 19 7).toNat (t 19 3)) p m f := (h.emp).of rfl rfl rfl rfl rfl
  have e0 := S0.next
  have x7 : rk_body t 19 7 = k := (F 19 7 rfl).trans hk
  have y7 : rk_cond t 19 7 = k + 1 := by
    show rk_body t 19 7 + 1 = _
    rw [x7]
  have y22 : rk_cond t 22 = t 22 := funext fun j => F 22 j rfl
  have y23 : rk_cond t 23 = t 23 := funext fun j => F 23 j rfl
  have y24 : rk_cond t 24 = su (t 24) k (m + D) := funext fun j => by
    have q : rk_cond t 24 j = hy_up t 24 (t 19 7).toNat (t 19 3) 24 j := F 24 j rfl
    rw [q, hk, hcn]
    simp only [hy_up, su, true_and, Int.toNat_natCast]
  by_cases h40 : B p = 40
  · have et : tp_take (hy_up t 24 (t 19 7).toNat (t 19 3)) 40 = tp_step (hy_up t 24 (t 19 7).toNat (t 19 3)) := by
      unfold tp_take
      rw [e0, if_pos h40]
      rfl
    have S1 := S0.step hB (by omega)
    have V1 : tl_V B D (E + 1) m (tp_step (hy_up t 24 (t 19 7).toNat (t 19 3))) (p + 1) m f [13631488] := ⟨⟨S1, Nat.le_refl _, fun j h1 h2 => by omega⟩, fun j h1 h2 => by omega⟩
    have eR : az_rc B p m f = az_cond B 600 true (p + 1, m, f, [13631488], 1) := if_pos h40
    have hp0 := S1.p0
    have hbody : rk_body t = lp_emit (tp_take (rp_either 5 (tp_step (hy_up t 24 (t 19 7).toNat (t 19 3)))) 41) 46 0 := by
      unfold rk_body
      rw [et]
    rcases (tl_eitherK hB (tl_lev hB (D := D) 5 (by decide))).2 _ _ _ _ _ 1 _ _ 600 V1 (by decide) ⟨_, _, rfl, by decide, by decide⟩ (by omega) with ⟨d1, d2⟩ | ⟨n', p2, m2, f2, q, u1, ⟨u2, ⟨-, u3⟩, u4⟩, ⟨u5, ub⟩, ⟨u6, u7⟩, u8, uh⟩
    · refine .inl ?_
      have e3 : rk_cond t 3 4 = rp_either 5 (tp_step (hy_up t 24 (t 19 7).toNat (t 19 3))) 3 4 := by
        show rk_body t 3 4 = _
        rw [hbody, dd_emit, dd_take' d1 (by decide)]
      rw [e3, eR]
      exact ⟨d1, d2⟩
    · have e2 := u5.1.1.next
      have hp2 := u5.1.1.p1
      have hle := u5.1.1.le
      have g1 := u8.1
      obtain ⟨n'', rfl⟩ : ∃ x, n' = x + 1 := ⟨n' - 1, by omega⟩
      have el : az_land true (q ++ [13631488]) m2 f2 = ([13631488], az_lan q m2 f2) := az_land_lan (fun x hx => by
        have hx' : (13631488 : Int) = x := by simpa using hx
        unfold az_lp
        omega) q m2 f2 (fun x hx => (u2 x hx).elim .inl (fun c => .inr c.2))
      by_cases h41 : B p2 = 41
      · have et2 : tp_take (rp_either 5 (tp_step (hy_up t 24 (t 19 7).toNat (t 19 3)))) 41 = tp_step (rp_either 5 (tp_step (hy_up t 24 (t 19 7).toNat (t 19 3)))) := by
          unfold tp_take
          rw [e2, if_pos h41]
          rfl
        rw [et2] at hbody
        have es : az_shut (p2, m2, f2, q ++ [13631488], 1) = (p2 + 1, m2, az_lan q m2 f2, [], 0) := by
          unfold az_shut
          dsimp only
          rw [el]
          rfl
        have S2 := u5.1.1.step hB (show 0 ≤ B p2 by omega)
        obtain ⟨s1, s2, s3, -, -⟩ := S2.stop (by omega)
        rw [← hbody] at s1 s2 s3
        obtain ⟨⟨v1, v2, v3⟩, v4⟩ := u5.out (.inr rfl)
        have hle2 := S2.le
        refine .inr ⟨p2 + 1, m2, az_lan q m2 f2, [], 0, ?_, (s1.re (E + 1) (by omega) (by omega)).of rfl rfl rfl rfl rfl, ⟨⟨by omega, g1⟩, y7⟩, ⟨fun j hj => u8.2.1 j hj, fun j hj => ?_⟩, ⟨y22, y23, y24⟩, ?_⟩
        · rw [eR, u1]
          simp only [az_cond]
          rw [if_pos h41, es, if_pos rfl]
        · have z1 := s3 j (by omega)
          have z2 := u8.2.2 j hj
          exact ⟨z1.1.trans z2.1, z1.2.trans z2.2⟩
        · refine ⟨m, m2, D, ⟨rfl, rfl, g1⟩, ⟨rfl, by omega⟩, ⟨fun j q1 q2 => ?_, s2⟩, ⟨v4, ub⟩, uh⟩
          have z1 := s3 (j + D) (by omega)
          have z3 := v3 j q1 q2
          show tl_cc D [] j (rk_body t 20 (j + D)) (rk_body t 21 (j + D)) (az_lan q m2 f2 j)
          rw [z1.1, z1.2]
          exact z3
      · have et2 : tp_take (rp_either 5 (tp_step (hy_up t 24 (t 19 7).toNat (t 19 3)))) 41 = tp_fail (rp_either 5 (tp_step (hy_up t 24 (t 19 7).toNat (t 19 3)))) 1 (rp_either 5 (tp_step (hy_up t 24 (t 19 7).toNat (t 19 3))) 3 3) := by
          unfold tp_take
          rw [e2, if_neg h41]
        have := u5.1.1.fail (n := 1) (by decide)
        have e3 : rk_cond t 3 4 = -1000 * 1 - p2 := by
          show rk_body t 3 4 = _
          rw [hbody, dd_emit, et2, this.1]
        refine .inl ⟨by rw [e3]; omega, ?_⟩
        rw [e3, eR, u1]
        simp only [az_cond]
        rw [if_neg h41, if_neg (fun c => c.elim u3 u4)]
        congr 1
  · have et : tp_take (hy_up t 24 (t 19 7).toNat (t 19 3)) 40 = tp_fail (hy_up t 24 (t 19 7).toNat (t 19 3)) 1 (hy_up t 24 (t 19 7).toNat (t 19 3) 3 3) := by
      unfold tp_take
      rw [e0, if_neg h40]
    have hf := S0.fail (n := 1) (by decide)
    have hp0 := S0.p0
    have e3 : rk_cond t 3 4 = -1000 * 1 - p := by
      show rk_body t 3 4 = _
      unfold rk_body
      rw [et, dd_emit]
      have z : rp_either 5 (tp_fail (hy_up t 24 (t 19 7).toNat (t 19 3)) 1 (hy_up t 24 (t 19 7).toNat (t 19 3) 3 3)) 3 4 = -1000 * 1 - p := (dd_either 5 _ hf.2).trans hf.1
      rw [dd_take' (by rw [z]; omega) (by decide), z]
    refine .inl ⟨by rw [e3]; omega, ?_⟩
    rw [e3]
    unfold az_rc
    rw [if_neg h40]
    congr 1
/-- a clause -/
def tl_C (B : Int → Int) (D : Nat) (t t' : hy_T) (p : Int) (m : Nat) (f : Nat → Int) (k : Nat) (q : Int × Nat × (Nat → Int) × Nat) : Prop :=
  (∃ D' E' : Nat, D ≤ D' ∧ tl_S B D' E' q.2.1 t' q.1 q.2.1 q.2.2.1) ∧ ((p < q.1 ∧ m ≤ q.2.2.2 ∧ q.2.2.2 ≤ q.2.1) ∧ t' 19 7 = k + 1) ∧ ((∀ j, j < m → q.2.2.1 j = f j) ∧ ∀ j : Nat, j < m + D → t' 20 j = t 20 j ∧ t' 21 j = t 21 j) ∧
  (t' 22 = su (t 22) k (B p) ∧ t' 23 = su (t 23) k (m + D) ∧ ∃ c : Int, t' 24 = su (t 24) k c ∧ tl_co (t' 20) (t' 21) q.2.2.1 q.2.2.2 q.2.1 c ∧ c + (q.2.1 - q.2.2.2) < t' 19 3) ∧ (az_amt (B p) → tl_am (t' 20) (t' 21) q.2.2.1 m q.2.2.2 (m + D) ∧ (m + D : Int) + (q.2.2.2 - m) < t' 19 3)
theorem tl_clause {B : Int → Int} (hB : az_by B) {D E m0 : Nat} {t : hy_T} {p : Int} {m : Nat} {f : Nat → Int} {k : Nat} (h : tl_S B D E m0 t p m f) (hlp : lp_ok t) (hk : t 19 7 = k) (hk16 : k ≤ 16) :
    (rk_clause t 3 4 ≠ 0 ∧ az_cl B k p m f = .inl (rk_clause t 3 4)) ∨ ∃ q, az_cl B k p m f = .inr q ∧ tl_C B D t (rk_clause t) p m f k q := by
  have e := h.next
  have hp1 := h.p1
  have hp0 := h.p0
  have hcn := h.cn
  have hde := h.de
  have hle := h.le
  unfold rk_clause az_cl
  rw [e, hk]
  by_cases hc : rk_kind (B p)
  · have hc2 : az_isc (B p) := by
      unfold az_isc
      unfold rk_kind at hc
      omega
    rw [if_pos hc, if_neg (show ¬ ¬ az_isc (B p) from fun c => c hc2)]
    by_cases h16 : (16 : Int) ≤ (k : Int)
    · rw [if_pos h16, if_pos (show (k : Int) = 16 by omega)]
      have := h.fail (n := 4) (by decide)
      refine .inl ⟨this.2, ?_⟩
      rw [this.1]
      congr 1
    · rw [if_neg h16, if_neg (show ¬ (k : Int) = 16 by omega)]
      have hb : 0 ≤ B p := by
        unfold rk_kind at hc
        omega
      have S1 : tl_S B D (E + 1) m (rk_head (B p) (tp_step t)) (p + 1) m f := ((h.step hB hb).emp).of rfl rfl rfl rfl rfl
      have L1 : lp_ok (rk_head (B p) (tp_step t)) := (rk_head_s (rx_step_ok hlp (by rw [e]; exact hb)) (B p)).1
      obtain ⟨L2, F2⟩ := rk_amt_s L1 (B p)
      have e22 : rk_head (B p) (tp_step t) 22 = su (t 22) k (B p) := funext fun j => by
        show hy_up (hy_up (tp_step t) 22 (tp_step t 19 7).toNat (B p)) 23 _ _ 22 j = _
        rw [hy_up_ne (by decide), show tp_step t 19 7 = k from hk]
        simp only [hy_up, su, true_and, Int.toNat_natCast]
        rfl
      have e23 : rk_head (B p) (tp_step t) 23 = su (t 23) k (m + D) := funext fun j => by
        show hy_up (hy_up (tp_step t) 22 (tp_step t 19 7).toNat (B p)) 23 (tp_step t 19 7).toNat (tp_step t 19 3) 23 j = _
        rw [show tp_step t 19 7 = k from hk, show tp_step t 19 3 = m + D from hcn]
        simp only [hy_up, su, true_and, Int.toNat_natCast]
        rfl
      have hk2 : rk_amt (B p) (rk_head (B p) (tp_step t)) 19 7 = k := (F2 19 7 rfl).trans hk
      -- the amount
      have A : (rk_amt (B p) (rk_head (B p) (tp_step t)) 3 4 ≠ 0 ∧ az_ce B p m f = .inl (rk_amt (B p) (rk_head (B p) (tp_step t)) 3 4)) ∨ ∃ (D2 : Nat) (p1 : Int) (m1 : Nat) (f1 : Nat → Int) (w1 : List Int) (o1 : Int), az_ce B p m f = .inr (p1, m1, f1, w1, o1) ∧ tl_S B D2 (E + 1) m1 (rk_amt (B p) (rk_head (B p) (tp_step t))) p1 m1 f1 ∧ (p < p1 ∧ m ≤ m1 ∧ D ≤ D2) ∧ ((∀ j, j < m → f1 j = f j) ∧ ∀ j : Nat, j < m + D → rk_amt (B p) (rk_head (B p) (tp_step t)) 20 j = t 20 j ∧ rk_amt (B p) (rk_head (B p) (tp_step t)) 21 j = t 21 j) ∧ (az_amt (B p) → tl_am (rk_amt (B p) (rk_head (B p) (tp_step t)) 20) (rk_amt (B p) (rk_head (B p) (tp_step t)) 21) f1 m m1 (m + D) ∧ D + 1 = D2) := by
        unfold rk_amt az_ce
        by_cases ha : B p = 118 ∨ B p = 98
        · have ha2 : az_amt (B p) := by
            unfold az_amt
            omega
          rw [if_pos ha, if_pos ha2]
          rcases tl_rs hB (k := 6) (by decide) S1 (w := []) (o := 0) (by decide) (fun x hx => by cases hx) with ⟨d1, d2⟩ | ⟨p1, m1, f1, u1, u2, u3, u4, uh⟩
          · refine .inl ?_
            rw [dd_emit]
            exact ⟨d1, d2⟩
          · have u2e := u2.emp
            have hl2 := u2.le
            have hq1 := u2.p1
            obtain ⟨s1, s2, s3, -, -⟩ := u2e.stop (by omega)
            obtain ⟨g1, g2, g3⟩ := u4
            refine .inr ⟨D + 1, p1, m1, f1, [], 0, u1, s1, ⟨by omega, g1, by omega⟩, ⟨g2, fun j hj => ?_⟩, fun _ => ⟨⟨m, m1, D, ⟨rfl, rfl, g1⟩, ⟨rfl, by omega⟩, ⟨fun j q1 q2 => ?_, s2⟩, uh.w (by decide)⟩, rfl⟩⟩
            · have z1 := s3 j (by omega)
              have z2 := g3 j hj
              exact ⟨z1.1.trans z2.1, z1.2.trans z2.2⟩
            · have z1 := s3 (j + D) (by omega)
              rw [z1.1, z1.2]
              exact u2.cs j q1 q2
        · have ha2 : ¬ az_amt (B p) := by
            unfold az_amt
            unfold rk_kind at hc
            omega
          rw [if_neg ha, if_neg ha2]
          exact .inr ⟨D, p + 1, m, f, [], 0, rfl, S1, ⟨by omega, Nat.le_refl _, Nat.le_refl _⟩, ⟨fun _ _ => rfl, fun j _ => ⟨rfl, rfl⟩⟩, fun q => absurd q ha2⟩
      rcases A with ⟨d1, d2⟩ | ⟨D2, p1, m1, f1, w1, o1, a1, a2, ⟨a3, a4, a5⟩, ⟨a6, a7⟩, a8⟩
      · refine .inl ?_
        rw [dd_cond d1, d2]
        exact ⟨d1, rfl⟩
      · rw [a1]
        dsimp only
        rcases tl_cond hB a2 L2 hk2 with ⟨d1, d2⟩ | ⟨p', m', f', w', o', c1, c2, ⟨⟨c3, c4⟩, c5⟩, ⟨c6, c7⟩, ⟨c8, c9, c10⟩, c11⟩
        · rw [d2]
          exact .inl ⟨d1, rfl⟩
        · rw [c1]
          have hcn2 := c2.cn
          refine .inr ⟨_, rfl, ⟨D2 + 1, E + 1 + 1, by omega, c2⟩, ⟨⟨by dsimp only; omega, a4, c4⟩, c5⟩, ⟨fun j hj => (c6 j (by omega)).trans (a6 j hj), fun j hj => ?_⟩, ⟨?_, ?_, (m1 : Int) + D2, ?_, c11, ?_⟩, fun ha => ?_⟩
          · have z1 := c7 j (by omega)
            have z2 := a7 j hj
            exact ⟨z1.1.trans z2.1, z1.2.trans z2.2⟩
          · rw [c8, ← e22]
            exact funext fun j => F2 22 j rfl
          · rw [c9, ← e23]
            exact funext fun j => F2 23 j rfl
          · rw [c10]
            congr 1
            exact funext fun j => (F2 24 j rfl)
          · rw [hcn2]
            dsimp only
            push_cast
            omega
          · obtain ⟨b1, b2⟩ := a8 ha
            refine ⟨tl_am_eq (n := m1 + D2) (m := m1) b1 (by dsimp only; push_cast; omega) (by dsimp only; omega) (fun j hj => c7 j hj) (fun j hj => c6 j hj), ?_⟩
            rw [hcn2]
            dsimp only
            push_cast
            omega
  · have hc2 : ¬ az_isc (B p) := by
      unfold az_isc
      unfold rk_kind at hc
      omega
    rw [if_neg hc, if_pos hc2]
    have := h.fail (n := 1) (by decide)
    refine .inl ⟨this.2, ?_⟩
    rw [this.1]
    congr 1
