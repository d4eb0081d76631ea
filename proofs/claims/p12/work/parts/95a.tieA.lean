/-! the two law readers: what is dead stays so -/
def dd_good (F : hy_T → hy_T) : Prop := ∀ t : hy_T, t 3 4 ≠ 0 → F t 3 4 = t 3 4
theorem dd_next {t : hy_T} (h : t 3 4 ≠ 0) : tp_next t = -1 := if_neg (fun q => h q.1)
theorem dd_emit (op arg : Int) (t : hy_T) : lp_emit t op arg 3 4 = t 3 4 := by
  unfold lp_emit
  split
  · rfl
  · rfl
theorem dd_lead (l : Int) (t : hy_T) : lp_lead t l 3 4 = t 3 4 := by
  unfold lp_lead
  split
  · rfl
  · rfl
theorem dd_fail {t : hy_T} (h : t 3 4 ≠ 0) (n w : Int) : tp_fail t n w = t := if_neg h
theorem dd_take {t : hy_T} (h : t 3 4 ≠ 0) {s : Int} (hs : 0 ≤ s) : tp_take t s = t := by
  unfold tp_take
  rw [dd_next h, if_neg (by omega), dd_fail h]
theorem dd_loop {p : Int → Bool} (hp : p (-1) = false) (F : hy_T → hy_T) : ∀ (n : Nat) {t : hy_T}, t 3 4 ≠ 0 → rx_loop p F n t = t
  | 0, t, h => rfl
  | n + 1, t, h => by
    simp only [rx_loop]
    rw [dd_next h, hp, if_neg Bool.false_ne_true]
theorem dd_factor (S : Option (hy_T → hy_T)) : dd_good (rx_factor S) := fun t h => by
  unfold rx_factor
  rw [dd_next h, if_neg (by decide), if_neg (by decide), if_pos (by decide), dd_fail h]
theorem dd_product {F : hy_T → hy_T} (hF : dd_good F) : dd_good (rx_product F) := fun t h => by
  have e := hF t h
  unfold rx_product
  rw [dd_loop (by decide) F 240 (by rw [e]; exact h)]
  exact e
theorem dd_sum {F : hy_T → hy_T} (hF : dd_good F) : dd_good (rx_sum F) := fun t h => by
  have e := hF t h
  unfold rx_sum
  rw [dd_loop (by decide) F 240 (by rw [e]; exact h)]
  exact e
theorem dd_sumL : ∀ n, dd_good (rx_sumL n)
  | 0 => dd_sum (dd_product (dd_factor _))
  | n + 1 => dd_sum (dd_product (dd_factor _))
/-! the two states side by side -/
/-- a step of the class and a code of the model say the same -/
def tl_cm (op arg x : Int) : Prop := (op = 48 ∧ x = arg ∧ 0 ≤ arg ∧ arg < 1048576) ∨ (op = 97 ∧ x = 1048576 + arg ∧ 0 ≤ arg ∧ arg < 10) ∨ (az_sgn op ≠ -1 ∧ x = 1048576 * az_sgn op)
def tl_S (B : Int → Int) (D E m0 : Nat) (t : hy_T) (p : Int) (m : Nat) (f : Nat → Int) : Prop :=
  ((t 3 4 = 0 ∧ t 3 3 = p) ∧ (0 ≤ p ∧ p ≤ 240) ∧ ∀ q : Int, 0 ≤ q → (if q < t 3 2 then t 4 q.toNat else -1) = B q) ∧ (t 19 3 = m + D ∧ ((m : Int) + E ≤ p ∧ D ≤ E) ∧ m0 ≤ m) ∧ ∀ j : Nat, m0 ≤ j → j < m → tl_cm (t 20 (j + D)) (t 21 (j + D)) (f j)
section TLS
variable {B : Int → Int} {D E m0 : Nat} {t : hy_T} {p : Int} {m : Nat} {f : Nat → Int}
theorem tl_S.ok (h : tl_S B D E m0 t p m f) : t 3 4 = 0 := h.1.1.1
theorem tl_S.at_ (h : tl_S B D E m0 t p m f) : t 3 3 = p := h.1.1.2
theorem tl_S.p0 (h : tl_S B D E m0 t p m f) : 0 ≤ p := h.1.2.1.1
theorem tl_S.p1 (h : tl_S B D E m0 t p m f) : p ≤ 240 := h.1.2.1.2
theorem tl_S.by_ (h : tl_S B D E m0 t p m f) : ∀ q : Int, 0 ≤ q → (if q < t 3 2 then t 4 q.toNat else -1) = B q := h.1.2.2
theorem tl_S.cn (h : tl_S B D E m0 t p m f) : t 19 3 = m + D := h.2.1.1
theorem tl_S.le (h : tl_S B D E m0 t p m f) : (m : Int) + E ≤ p := h.2.1.2.1.1
theorem tl_S.de (h : tl_S B D E m0 t p m f) : D ≤ E := h.2.1.2.1.2
theorem tl_S.re (h : tl_S B D E m0 t p m f) (E' : Nat) (h1 : (m : Int) + E' ≤ p) (h2 : D ≤ E') : tl_S B D E' m0 t p m f := ⟨h.1, ⟨h.2.1.1, ⟨h1, h2⟩, h.2.1.2.2⟩, h.2.2⟩
theorem tl_S.m0l (h : tl_S B D E m0 t p m f) : m0 ≤ m := h.2.1.2.2
theorem tl_S.cs (h : tl_S B D E m0 t p m f) : ∀ j : Nat, m0 ≤ j → j < m → tl_cm (t 20 (j + D)) (t 21 (j + D)) (f j) := h.2.2
end TLS
theorem tl_S.next {B : Int → Int} {D E m0 : Nat} {t : hy_T} {p : Int} {m : Nat} {f : Nat → Int} (h : tl_S B D E m0 t p m f) : tp_next t = B p := by
  have e := h.by_ p h.p0
  unfold tp_next
  rw [h.at_]
  by_cases hq : p < t 3 2
  · rw [if_pos ⟨h.ok, h.p0, hq⟩, ← e, if_pos hq]
  · rw [if_neg (fun q => hq q.2.2), ← e, if_neg hq]
theorem tl_S.step {B : Int → Int} (hB : az_by B) {D E m0 : Nat} {t : hy_T} {p : Int} {m : Nat} {f : Nat → Int} (h : tl_S B D E m0 t p m f) (hn : 0 ≤ B p) : tl_S B D (E + 1) m0 (tp_step t) (p + 1) m f := by
  have hp : p < 240 := by
    refine Decidable.byContradiction (fun q => ?_)
    have := (hB p).2.2 (by omega)
    omega
  have := h.p0
  have := h.le
  exact ⟨⟨⟨h.ok, by show t 3 3 + 1 = p + 1; rw [h.at_]⟩, ⟨by omega, by omega⟩, h.by_⟩, ⟨h.cn, ⟨by omega, Nat.le_succ_of_le h.de⟩, h.m0l⟩, h.cs⟩
theorem tl_S.fail {B : Int → Int} {D E m0 : Nat} {t : hy_T} {p : Int} {m : Nat} {f : Nat → Int} (h : tl_S B D E m0 t p m f) {n : Int} (hn : 1 ≤ n) : tp_fail t n (t 3 3) 3 4 = -1000 * n - p ∧ tp_fail t n (t 3 3) 3 4 ≠ 0 := by
  have h0 := h.p0
  have e : tp_fail t n (t 3 3) = hy_up t 3 4 (-1000 * n - t 3 3) := if_pos h.ok
  have e1 : hy_up t 3 4 (-1000 * n - t 3 3) 3 4 = -1000 * n - t 3 3 := rfl
  rw [e, e1, h.at_]
  exact ⟨rfl, by omega⟩
/-- a code more on both sides -/
theorem tl_S.emit {B : Int → Int} {D E m0 : Nat} {t : hy_T} {p : Int} {m : Nat} {f : Nat → Int} (h : tl_S B D (E + 1) m0 t p m f) (hD : D ≤ E) {op arg x : Int} (hc : tl_cm op arg x) : tl_S B D E m0 (lp_emit t op arg) p (m + 1) (su f m x) := by
  have h1 := h.p1
  have hl := h.le
  have h2 := h.cn
  have e : lp_emit t op arg = hy_up (hy_up (hy_up t 20 (m + D) op) 21 (m + D) arg) 19 3 (t 19 3 + 1) := by
    unfold lp_emit
    rw [if_pos (by omega), show (t 19 3).toNat = m + D by omega]
  have e20 : ∀ i, lp_emit t op arg 20 i = if i = m + D then op else t 20 i := fun i => by
    rw [e, hy_up_ne (by decide), hy_up_ne (by decide)]
    simp only [hy_up, true_and]
  have e21 : ∀ i, lp_emit t op arg 21 i = if i = m + D then arg else t 21 i := fun i => by
    rw [e, hy_up_ne (by decide)]
    simp only [hy_up, true_and]
    split
    · rfl
    · rw [if_neg (by omega)]
  have e3 : ∀ j, lp_emit t op arg 3 j = t 3 j := fun j => by rw [e]; rfl
  have e4 : ∀ j, lp_emit t op arg 4 j = t 4 j := fun j => by rw [e]; rfl
  have e19 : lp_emit t op arg 19 3 = t 19 3 + 1 := by rw [e]; rfl
  refine ⟨⟨⟨by rw [e3]; exact h.ok, by rw [e3]; exact h.at_⟩, ⟨h.p0, h.p1⟩, fun q hq => by rw [e3, e4]; exact h.by_ q hq⟩, ⟨by rw [e19]; omega, ⟨by omega, hD⟩, Nat.le_succ_of_le h.m0l⟩, fun j h3 h4 => ?_⟩
  rw [e20, e21]
  by_cases hj : j = m
  · rw [if_pos (by omega), if_pos (by omega), show su f m x j = x by unfold su; rw [if_pos hj]]
    exact hc
  · rw [if_neg (by omega), if_neg (by omega), show su f m x j = f j by unfold su; rw [if_neg hj]]
    exact h.cs j h3 (by omega)
theorem tl_num {B : Int → Int} (hB : az_by B) {D E m0 : Nat} {m : Nat} {f : Nat → Int} : ∀ (n : Nat) {t : hy_T} {p : Int} (c : Int), tl_S B D E m0 t p m f →
    (∀ e, az_num B n p c = .inl e → rn_end (rn_N n t c) 3 4 = e ∧ rn_end (rn_N n t c) 3 4 ≠ 0) ∧
    (∀ q, az_num B n p c = .inr q → tl_S B D E m0 (rn_N n t c).1 q.1 m f ∧ rn_end (rn_N n t c) = lp_emit (rn_N n t c).1 48 q.2)
  | 0, t, p, c, h => by
    have e := h.next
    simp only [rn_N, az_num]
    by_cases hd : 48 ≤ B p ∧ B p ≤ 57
    · rw [if_pos hd]
      refine ⟨fun e1 he => ?_, fun q he => by cases he⟩
      cases he
      unfold rn_end
      rw [dd_emit, e, if_pos hd]
      have := h.fail (n := 2) (by decide)
      exact ⟨by rw [this.1]; omega, this.2⟩
    · rw [if_neg hd]
      refine ⟨fun e1 he => (by cases he), fun q he => ?_⟩
      cases he
      refine ⟨h, ?_⟩
      unfold rn_end
      rw [e, if_neg hd]
  | n + 1, t, p, c, h => by
    have e := h.next
    simp only [rn_N, az_num]
    rw [e]
    by_cases hd : 48 ≤ B p ∧ B p ≤ 57
    · rw [if_pos hd, if_pos hd]
      have hs := h.step hB (show 0 ≤ B p by omega)
      exact tl_num hB n (10 * c + B p - 48) (hs.re E (by have := hs.le; omega) h.de)
    · rw [if_neg hd, if_neg hd]
      refine ⟨fun e1 he => (by cases he), fun q he => ?_⟩
      cases he
      refine ⟨h, ?_⟩
      unfold rn_end
      rw [e, if_neg hd]
/-- what lay there stays -/
def tl_G (D : Nat) (t t' : hy_T) (m : Nat) (f : Nat → Int) (m' : Nat) (f' : Nat → Int) : Prop := m ≤ m' ∧ (∀ j : Nat, j < m → f' j = f j) ∧ ∀ j : Nat, j < m + D → t' 20 j = t 20 j ∧ t' 21 j = t 21 j
theorem tl_G.rf {D : Nat} {t : hy_T} {m : Nat} {f : Nat → Int} : tl_G D t t m f m f := ⟨Nat.le_refl _, fun _ _ => rfl, fun _ _ => ⟨rfl, rfl⟩⟩
theorem tl_G.tr {D : Nat} {a b c : hy_T} {m m' m'' : Nat} {f f' f'' : Nat → Int} (h : tl_G D a b m f m' f') (k : tl_G D b c m' f' m'' f'') : tl_G D a c m f m'' f'' := by
  obtain ⟨h1, h2, h3⟩ := h
  obtain ⟨k1, k2, k3⟩ := k
  refine ⟨by omega, fun j hj => (k2 j (by omega)).trans (h2 j hj), fun j hj => ?_⟩
  obtain ⟨x, y⟩ := k3 j (by omega)
  rw [x, y]
  exact h3 j hj
theorem tl_G.same {D : Nat} {t t' : hy_T} {m : Nat} {f : Nat → Int} (h0 : t' 20 = t 20) (h1 : t' 21 = t 21) : tl_G D t t' m f m f := ⟨Nat.le_refl _, fun _ _ => rfl, fun _ _ => ⟨by rw [h0], by rw [h1]⟩⟩
theorem tl_G.emit {D : Nat} {t : hy_T} {m : Nat} {f : Nat → Int} (hc : t 19 3 = m + D) (op arg x : Int) : tl_G D t (lp_emit t op arg) m f (m + 1) (su f m x) := by
  refine ⟨by omega, fun j hj => ?_, fun j hj => ?_⟩
  · unfold su
    rw [if_neg (by omega)]
  · unfold lp_emit
    split
    · constructor
      · rw [hy_up_ne (by decide), hy_up_ne (by decide)]
        simp only [hy_up, true_and]
        rw [if_neg (by omega)]
      · rw [hy_up_ne (by decide)]
        simp only [hy_up, true_and]
        rw [if_neg (by omega), if_neg (by omega)]
    · exact ⟨rfl, rfl⟩
theorem rn_N_row (n : Nat) : ∀ (t : hy_T) (c : Int), (rn_N n t c).1 20 = t 20 ∧ (rn_N n t c).1 21 = t 21 ∧ (rn_N n t c).1 19 = t 19 := by
  induction n with
  | zero => exact fun t c => ⟨rfl, rfl, rfl⟩
  | succ n ih =>
    intro t c
    simp only [rn_N]
    split
    · exact ih _ _
    · exact ⟨rfl, rfl, rfl⟩
/-- how many more lie on the stack behind codes, and how many at most between -/
def tl_H (e h : Int) (m : Nat) (f : Nat → Int) (m' : Nat) : Prop := az_dep f m m' = e ∧ ∀ j, m ≤ j → j ≤ m' → az_dep f m j ≤ h
theorem az_dep_add (f : Nat → Int) {a m : Nat} (ha : a ≤ m) : ∀ k, m ≤ k → az_dep f a k = az_dep f a m + az_dep f m k
  | 0, h => by
    obtain rfl : m = 0 := by omega
    rw [az_dep_a f 0 0 (Nat.le_refl _)]
    omega
  | k + 1, h => by
    by_cases hk : m = k + 1
    · rw [← hk, az_dep_a f m m (Nat.le_refl _)]
      omega
    · rw [az_dep_s f a k (by omega), az_dep_s f m k (by omega), az_dep_add f ha k (by omega)]
      omega
theorem tl_H.rf {h : Int} (hh : 0 ≤ h) {m : Nat} {f : Nat → Int} : tl_H 0 h m f m := by
  refine ⟨az_dep_a f m m (Nat.le_refl _), fun j h1 h2 => ?_⟩
  rw [az_dep_a f m j h2]
  exact hh
theorem tl_H.cong {e h : Int} {m m' : Nat} {f g : Nat → Int} (k : tl_H e h m f m') (hg : ∀ j, j < m' → g j / 1048576 = f j / 1048576) : tl_H e h m g m' := by
  refine ⟨(az_dep_eq m' hg).trans k.1, fun j h1 h2 => ?_⟩
  rw [az_dep_eq j (fun i hi => hg i (by omega))]
  exact k.2 j h1 h2
theorem tl_H.tr {e e1 e2 h h1 h2 : Int} {m m1 m2 : Nat} {f1 f2 : Nat → Int} (k1 : tl_H e1 h1 m f1 m1) (k2 : tl_H e2 h2 m1 f2 m2) (a1 : m ≤ m1) (a2 : m1 ≤ m2) (hf : ∀ j, j < m1 → f2 j = f1 j) (he : e1 + e2 = e) (b1 : h1 ≤ h) (b2 : e1 + h2 ≤ h) : tl_H e h m f2 m2 := by
  obtain ⟨c1, c2⟩ := k1.cong (g := f2) (fun j hj => by rw [hf j hj])
  obtain ⟨d1, d2⟩ := k2
  refine ⟨by rw [az_dep_add f2 a1 m2 a2]; omega, fun j q1 q2 => ?_⟩
  by_cases hj : j ≤ m1
  · have := c2 j q1 hj
    omega
  · rw [az_dep_add f2 a1 j (by omega)]
    have := d2 j (by omega) q2
    omega
theorem tl_H.note {e e' h h' v x : Int} {m m' : Nat} {f : Nat → Int} (k : tl_H e h m f m') (hm : m ≤ m') (hx : az_eff (x / 1048576) = v) (he : e + v = e') (b1 : h ≤ h') (b2 : e' ≤ h') : tl_H e' h' m (su f m' x) (m' + 1) := by
  have c := k.cong (g := su f m' x) (fun j hj => by unfold su; rw [if_neg (by omega)])
  have es : az_dep (su f m' x) m (m' + 1) = e' := by
    rw [az_dep_s _ m m' hm, c.1, show su f m' x m' = x by unfold su; rw [if_pos rfl], hx]
    exact he
  refine ⟨es, fun j q1 q2 => ?_⟩
  by_cases hj : j ≤ m'
  · have := c.2 j q1 hj
    omega
  · obtain rfl : j = m' + 1 := by omega
    rw [es]
    exact b2
theorem tl_H.w {e h h' : Int} {m m' : Nat} {f : Nat → Int} (k : tl_H e h m f m') (b : h ≤ h') : tl_H e h' m f m' := ⟨k.1, fun j h1 h2 => by have := k.2 j h1 h2; omega⟩
theorem az_eff_b {g : Int} (h : 2 ≤ g ∧ g ≤ 9) : az_eff (1048576 * g / 1048576) = -1 := by
  unfold az_eff
  rw [if_neg (by omega), if_neg (by omega)]
/-- the machine that begins with an operand -/
def az_go (B : Int → Int) (b n : Nat) (s : Zs) : Int ⊕ Zs := match az_fac B 8 s with | .inl e => .inl e | .inr s1 => az_sum B b n s1
/-- behind an operand -/
def tl_O (B : Int → Int) (D E m0 b : Nat) (hh : Int) (t t' : hy_T) (G : Int ⊕ Zs) (p : Int) (m : Nat) (f : Nat → Int) (w : List Int) (o : Int) : Prop :=
  (t' 3 4 ≠ 0 ∧ G = .inl (t' 3 4)) ∨ ∃ (n' : Nat) (p' : Int) (m' : Nat) (f' : Nat → Int), G = az_sum B b n' (p', m', f', w, o) ∧ tl_S B D E m0 t' p' m' f' ∧ p < p' ∧ 250 ≤ n' + p' ∧ tl_G D t t' m f m' f' ∧ tl_H 1 hh m f' m'
theorem az_fac_fuel {B : Int → Int} : ∀ (k : Nat) (n n' : Nat) (s : Zs), s.2.2.2.2 = 6 - (k : Int) → k < n → k < n' → az_fac B n s = az_fac B n' s
  | k, 0, _, s, _, h, _ => absurd h (by omega)
  | k, _ + 1, 0, s, _, _, h => absurd h (by omega)
  | 0, n + 1, n' + 1, s, ho, _, _ => by
    simp only [az_fac]
    have e : az_open 14 s = .inl (-5000 - s.1) := if_pos (by omega)
    rw [e]
  | k + 1, n + 1, n' + 1, s, ho, h1, h2 => by
    simp only [az_fac]
    have e : az_open 14 s = .inr (s.1 + 1, s.2.1, s.2.2.1, (1048576 * 14) :: s.2.2.2.1, s.2.2.2.2 + 1) := if_neg (by omega)
    rw [e]
    dsimp only
    rw [az_fac_fuel k n n' (s.1 + 1, s.2.1, s.2.2.1, (1048576 * 14) :: s.2.2.2.1, s.2.2.2.2 + 1) (by show s.2.2.2.2 + 1 = _; omega) (by omega) (by omega)]
def az_push : List Int → Nat → (Nat → Int) → Nat × (Nat → Int)
  | [], m, f => (m, f)
  | x :: q, m, f => az_push q (m + 1) (su f m (1048576 * (x / 1048576)))
abbrev az_pm (x : Int) : Prop := 2 ≤ x / 1048576 ∧ x / 1048576 ≤ 6
theorem az_close_push {w : List Int} (hw : az_hd w) : ∀ (q : List Int) (m : Nat) (f : Nat → Int), (∀ x, x ∈ q → az_pm x) → az_close true (q ++ w) m f = (w, az_push q m f)
  | [], m, f, _ => by
    show az_close true w m f = (w, m, f)
    cases w with
    | nil => rfl
    | cons x w =>
      simp only [az_close]
      have := hw x rfl
      rw [if_neg (by unfold az_popc; omega)]
  | x :: q, m, f, h => by
    have hx := h x (List.mem_cons_self ..)
    show az_close true (x :: (q ++ w)) m f = _
    simp only [az_close, az_push]
    have hc : az_popc true x := by
      by_cases h4 : 4 ≤ x / 1048576
      · exact .inl ⟨h4, hx.2⟩
      · exact .inr ⟨rfl, by have := hx.1; omega⟩
    rw [if_pos hc]
    exact az_close_push hw q _ _ (fun y hy => h y (List.mem_cons_of_mem _ hy))
/-- behind a sum -/
def tl_U (B : Int → Int) (D E m0 b : Nat) (hh : Int) (t t' : hy_T) (G : Int ⊕ Zs) (p : Int) (m : Nat) (f : Nat → Int) (w : List Int) (o : Int) : Prop :=
  (t' 3 4 ≠ 0 ∧ G = .inl (t' 3 4)) ∨ ∃ (n' : Nat) (p' : Int) (m' : Nat) (f' : Nat → Int) (q : List Int), G = az_sum B b n' (p', m', f', q ++ w, o) ∧ ((∀ x, x ∈ q → az_pm x) ∧ az_sgn (B p') = -1) ∧ tl_S B D E m0 t' p' (az_push q m' f').1 (az_push q m' f').2 ∧ p < p' ∧ 250 ≤ n' + p' ∧ tl_G D t t' m f (az_push q m' f').1 (az_push q m' f').2 ∧ tl_H 1 hh m (az_push q m' f').2 (az_push q m' f').1
theorem az_hd14 (w : List Int) : az_hd ((1048576 * 14) :: w) := fun x hx => by
  have : 1048576 * 14 = x := by simpa using hx
  omega
theorem az_has_top {n : Nat} (q w : List Int) (hn : q.length < n) : az_has n (q ++ (1048576 * 14) :: w) = true := by
  induction q generalizing n with
  | nil =>
    cases n with
    | zero => omega
    | succ n => simp [az_has]
  | cons x q ih =>
    cases n with
    | zero => omega
    | succ n =>
      show az_has (n + 1) (x :: (q ++ (1048576 * 14) :: w)) = true
      simp only [az_has]
      rw [ih (by simpa using hn), Bool.or_true]
theorem tl_letter {c : Int} : -1 ≤ lp_letter c ∧ lp_letter c < 10 := by
  unfold lp_letter
  repeat (split; omega)
  omega
theorem tl_sg93 : az_sgn 93 = -1 := by decide
/-- a factor, where a sum in brackets is known -/
theorem tl_fac {B : Int → Int} (hB : az_by B) {D E m0 : Nat} (k : Nat) (hk : k ≤ 6) (S : Option (hy_T → hy_T)) (hS0 : k = 0 → S = none)
    (hS1 : ∀ k', k = k' + 1 → ∃ F, S = some F ∧ dd_good F ∧ ∀ (t : hy_T) (p : Int) (m : Nat) (f : Nat → Int) (w : List Int) (o : Int) (b n E : Nat), tl_S B D E m0 t p m f → o = 6 - (k' : Int) → az_hd w → b ≤ w.length → 250 ≤ n + p → tl_U B D E m0 b (3 + 2 * (k' : Int)) t (F t) (az_go B b n (p, m, f, w, o)) p m f w o)
    {t : hy_T} {p : Int} {m : Nat} {f : Nat → Int} {w : List Int} {o : Int} {b n : Nat} (h : tl_S B D E m0 t p m f) (ho : o = 6 - (k : Int)) (hb : b ≤ w.length) (hn : 250 ≤ n + p) : tl_O B D E m0 b (1 + 2 * (k : Int)) t (rx_factor S t) (az_go B b n (p, m, f, w, o)) p m f w o := by
  have e := h.next
  have hp0 := h.p0
  have hle := h.le
  have egd : az_go B b n (p, m, f, w, o) = match az_fac B 8 (p, m, f, w, o) with | .inl e => .inl e | .inr s1 => az_sum B b n s1 := rfl
  unfold rx_factor
  rw [e]
  by_cases h91 : B p = 91
  · rw [if_neg (show ¬ (48 ≤ B p ∧ B p ≤ 57) by omega), if_pos h91]
    have ef : az_fac B 8 (p, m, f, w, o) = match az_open 14 (p, m, f, w, o) with | .inl e => .inl e | .inr s1 => az_fac B 7 s1 := by
      show (if B p = 91 then _ else _) = _
      rw [if_pos h91]
      rfl
    cases k with
    | zero =>
      rw [hS0 rfl]
      have eo : az_open 14 (p, m, f, w, o) = .inl (-5000 - p) := if_pos (show o = 6 by omega)
      rw [eo] at ef
      refine .inl ?_
      have := h.fail (n := 5) (by decide)
      refine ⟨this.2, ?_⟩
      rw [egd, ef]
      show Sum.inl (-5000 - p) = Sum.inl (tp_fail t 5 (t 3 3) 3 4)
      rw [this.1]
      congr 1
    | succ k' =>
      obtain ⟨F, e1, hdd, hF⟩ := hS1 k' rfl
      rw [e1]
      have eo : az_open 14 (p, m, f, w, o) = .inr (p + 1, m, f, (1048576 * 14) :: w, o + 1) := if_neg (show ¬ o = 6 by omega)
      rw [eo] at ef
      dsimp only at ef ⊢
      have hU := hF (tp_step t) (p + 1) m f ((1048576 * 14) :: w) (o + 1) b n (E + 1) (h.step hB (by omega)) (by omega) (az_hd14 w) (by simp; omega) (by omega)
      have eg : az_go B b n (p, m, f, w, o) = az_go B b n (p + 1, m, f, (1048576 * 14) :: w, o + 1) := by
        rw [egd, ef, az_fac_fuel k' 7 8 (p + 1, m, f, (1048576 * 14) :: w, o + 1) (show o + 1 = _ by omega) (by omega) (by omega)]
        rfl
      rw [eg]
      have hg0 : tl_G D t (tp_step t) m f m f := tl_G.same rfl rfl
      rcases hU with ⟨d1, d2⟩ | ⟨n', p', m', f', q, u1, ⟨u2, u3⟩, u4, u5, u6, u7, u8⟩
      · refine .inl ?_
        rw [dd_take d1 (by decide)]
        exact ⟨d1, d2⟩
      · have e2 := u4.next
        rw [u1]
        have hfu : n' ≠ 0 := by
          have := u4.p1
          omega
        obtain ⟨n'', rfl⟩ : ∃ x, n' = x + 1 := ⟨n' - 1, by omega⟩
        have hh : az_has ((q ++ (1048576 * 14) :: w).length - b) (q ++ (1048576 * 14) :: w) = true := az_has_top q w (by simp; omega)
        by_cases h93 : B p' = 93
        · have et : tp_take (F (tp_step t)) 93 = tp_step (F (tp_step t)) := by
            unfold tp_take
            rw [e2, if_pos h93]
            rfl
          rw [et]
          refine .inr ⟨n'', p' + 1, (az_push q m' f').1, (az_push q m' f').2, ?_, (u4.step hB (by omega)).re E (by have := (u4.step hB (show 0 ≤ B p' by omega)).le; omega) h.de, by omega, by omega, (hg0.tr u7).tr (tl_G.same rfl rfl), u8.w (by push_cast; omega)⟩
          have ec := az_close_push (az_hd14 w) q m' f' u2
          simp only [az_sum]
          rw [if_neg (show ¬ az_sgn (B p') ≠ -1 from fun q => q u3), if_pos ⟨h93, hh⟩]
          rw [ec]
          simp only [List.tail_cons]
          rw [show o + 1 - 1 = o by omega]
        · have et : tp_take (F (tp_step t)) 93 = tp_fail (F (tp_step t)) 1 (F (tp_step t) 3 3) := by
            unfold tp_take
            rw [e2, if_neg h93]
          rw [et]
          refine .inl ?_
          have := u4.fail (n := 1) (by decide)
          refine ⟨this.2, ?_⟩
          simp only [az_sum]
          rw [if_neg (show ¬ az_sgn (B p') ≠ -1 from fun q => q u3), if_neg (fun q => h93 q.1), if_pos hh, this.1]
          congr 1
  · by_cases hd : 48 ≤ B p ∧ B p ≤ 57
    · rw [if_pos hd]
      have hN := tl_num hB 5 (t := t) (p := p) 0 h
      have ef : az_fac B 8 (p, m, f, w, o) = match az_num B 5 p 0 with | .inl e => .inl e | .inr q => .inr (q.1, m + 1, su f m q.2, w, o) := by
        show (if B p = 91 then _ else if 48 ≤ B p ∧ B p ≤ 57 then _ else _) = _
        rw [if_neg h91, if_pos hd]
        rfl
      rw [egd, ef]
      show tl_O B D E m0 b _ t (rn_end (rn_N 5 t 0)) _ p m f w o
      cases en : az_num B 5 p 0 with
      | inl e1 =>
        obtain ⟨x1, x2⟩ := hN.1 e1 en
        exact .inl ⟨x2, by rw [x1]⟩
      | inr q =>
        obtain ⟨x1, x2⟩ := hN.2 q en
        obtain ⟨y1, y2, y3, y4, y5⟩ := az_num_s hB 5 p 0 q 100000 (by decide) (by decide) en
        have y6 := y3 hd (by decide)
        have y7 := x1.le
        rw [x2]
        have hr := rn_N_row 5 t 0
        refine .inr ⟨n, q.1, m + 1, su f m q.2, rfl, (x1.re (E + 1) (by omega) (Nat.le_succ_of_le h.de)).emit h.de (.inl ⟨rfl, rfl, y4, by omega⟩), y6, by omega, (tl_G.same hr.1 hr.2.1).tr (tl_G.emit x1.cn _ _ _), (tl_H.rf (h := 0) (by decide)).note (Nat.le_refl _) (v := 1) (by rw [show q.2 / 1048576 = 0 by omega]; rfl) (by omega) (by omega) (by omega)⟩
    · rw [if_neg hd, if_neg h91]
      have hl := tl_letter (c := B p)
      have ef : az_fac B 8 (p, m, f, w, o) = if lp_letter (B p) = -1 then .inl (-1000 - p) else .inr (p + 1, m + 1, su f m (1048576 + lp_letter (B p)), w, o) := by
        show (if B p = 91 then _ else if 48 ≤ B p ∧ B p ≤ 57 then _ else _) = _
        rw [if_neg h91, if_neg hd]
      rw [egd, ef]
      by_cases hx : lp_letter (B p) = -1
      · rw [if_pos hx, if_pos (show lp_letter (B p) < 0 by omega)]
        have := h.fail (n := 1) (by decide)
        refine .inl ⟨this.2, ?_⟩
        show Sum.inl (-1000 - p) = Sum.inl (tp_fail t 1 (t 3 3) 3 4)
        rw [this.1]
        congr 1
      · rw [if_neg hx, if_neg (show ¬ lp_letter (B p) < 0 by omega)]
        have hb0 : 0 ≤ B p := lp_letter_p (by omega)
        have h1 := h.step hB hb0
        refine .inr ⟨n, p + 1, m + 1, su f m (1048576 + lp_letter (B p)), rfl, h1.emit h.de (.inr (.inl ⟨rfl, rfl, by omega, hl.2⟩)), by omega, by omega, (tl_G.same rfl rfl).tr (tl_G.emit h1.cn _ _ _), (tl_H.rf (h := 0) (by decide)).note (Nat.le_refl _) (v := 1) (by rw [show (1048576 + lp_letter (B p)) / 1048576 = 1 by omega]; rfl) (by omega) (by omega) (by omega)⟩
abbrev az_tm (x : Int) : Prop := 4 ≤ x / 1048576 ∧ x / 1048576 ≤ 6
abbrev az_hdt (w : List Int) : Prop := ∀ x, w.head? = some x → ¬ az_tm x
theorem az_close_pusht {w : List Int} (hw : az_hdt w) : ∀ (q : List Int) (m : Nat) (f : Nat → Int), (∀ x, x ∈ q → az_tm x) → az_close false (q ++ w) m f = (w, az_push q m f)
  | [], m, f, _ => by
    show az_close false w m f = (w, m, f)
    cases w with
    | nil => rfl
    | cons x w =>
      simp only [az_close]
      have := hw x rfl
      have hc : ¬ az_popc false x := fun q => q.elim (fun q => this q) (fun q => by cases q.1)
      rw [if_neg hc]
  | x :: q, m, f, h => by
    have hx := h x (List.mem_cons_self ..)
    show az_close false (x :: (q ++ w)) m f = _
    simp only [az_close, az_push]
    have hc : az_popc false x := .inl hx
    rw [if_pos hc]
    exact az_close_pusht hw q _ _ (fun y hy => h y (List.mem_cons_of_mem _ hy))
theorem az_push_app : ∀ (q r : List Int) (m : Nat) (f : Nat → Int), az_push (q ++ r) m f = az_push r (az_push q m f).1 (az_push q m f).2
  | [], r, m, f => rfl
  | x :: q, r, m, f => az_push_app q r (m + 1) (su f m (1048576 * (x / 1048576)))
/-- a factor is known -/
def tl_F (B : Int → Int) (D m0 : Nat) (o hF : Int) (F : hy_T → hy_T) : Prop := dd_good F ∧ ∀ (t : hy_T) (p : Int) (m : Nat) (f : Nat → Int) (w : List Int) (b n E : Nat), tl_S B D E m0 t p m f → b ≤ w.length → 250 ≤ n + p → tl_O B D E m0 b hF t (F t) (az_go B b n (p, m, f, w, o)) p m f w o
/-- behind products: what waits is q on w0 -/
def tl_W (P : Int → Prop) (C : Int → Prop) (B : Int → Int) (D E m0 b : Nat) (e hh : Int) (t t' : hy_T) (G : Int ⊕ Zs) (p : Int) (m : Nat) (f : Nat → Int) (w : List Int) (o : Int) : Prop :=
  (t' 3 4 ≠ 0 ∧ G = .inl (t' 3 4)) ∨ ∃ (n' : Nat) (p' : Int) (m' : Nat) (f' : Nat → Int) (q : List Int), G = az_sum B b n' (p', m', f', q ++ w, o) ∧ ((∀ x, x ∈ q → P x) ∧ C (B p')) ∧ tl_S B D E m0 t' p' (az_push q m' f').1 (az_push q m' f').2 ∧ p ≤ p' ∧ 250 ≤ n' + p' ∧ tl_G D t t' m f (az_push q m' f').1 (az_push q m' f').2 ∧ tl_H e hh m (az_push q m' f').2 (az_push q m' f').1
theorem tl_sgt {c : Int} (h : lp_times c = true) : 4 ≤ az_sgn c ∧ az_sgn c ≤ 6 := by
  unfold lp_times at h
  have := of_decide_eq_true h
  rcases this with rfl | rfl | rfl <;> decide
theorem tl_sgp {c : Int} (h : rx_pm c = true) : 2 ≤ az_sgn c ∧ az_sgn c ≤ 3 := by
  unfold rx_pm at h
  have := of_decide_eq_true h
  rcases this with rfl | rfl <;> decide
theorem tl_sgn {c : Int} (h1 : lp_times c = false) (h2 : rx_pm c = false) : az_sgn c = -1 := by
  unfold lp_times at h1
  unfold rx_pm at h2
  have a := of_decide_eq_false h1
  have b := of_decide_eq_false h2
  unfold az_sgn
  rw [if_neg (by omega), if_neg (by omega), if_neg (by omega), if_neg (by omega), if_neg (by omega)]
theorem dd_loop' {p : Int → Bool} (hp : p (-1) = false) (F : hy_T → hy_T) (n : Nat) {t : hy_T} (h : t 3 4 ≠ 0) : rx_loop p F n t 3 4 = t 3 4 := by rw [dd_loop hp F n h]
theorem tl_ploop {B : Int → Int} (hB : az_by B) {D m0 : Nat} {o hh : Int} {F : hy_T → hy_T} (hF : tl_F B D m0 o hh F) (h1h : 1 ≤ hh) {w : List Int} (hw : az_hdt w) {b : Nat} (hb : b ≤ w.length) {E : Nat} : ∀ (N n : Nat) {t : hy_T} {p : Int} {m : Nat} {f : Nat → Int} {q : List Int}, (∀ x, x ∈ q → az_tm x) → tl_S B D E m0 t p (az_push q m f).1 (az_push q m f).2 → 240 ≤ N + p → 250 ≤ n + p →
    tl_W az_tm (fun c => lp_times c = false) B D E m0 b 0 hh t (rx_loop lp_times F N t) (az_sum B b n (p, m, f, q ++ w, o)) p (az_push q m f).1 (az_push q m f).2 w o
  | 0, n, t, p, m, f, q, hq, h, hN, hn => by
    refine .inr ⟨n, p, m, f, q, rfl, ⟨hq, ?_⟩, h, Int.le_refl _, hn, tl_G.rf, tl_H.rf (by omega)⟩
    have := h.p1
    have e : B p = -1 := (hB p).2.2 (by omega)
    show lp_times (B p) = false
    rw [e]
    decide
  | N + 1, n, t, p, m, f, q, hq, h, hN, hn => by
    have e := h.next
    simp only [rx_loop]
    rw [e]
    by_cases hc : lp_times (B p) = true
    · rw [if_pos hc]
      have hg := tl_sgt hc
      have hp0 : 0 ≤ B p := lp_times_p hc
      have h1 := h.step hB hp0
      obtain ⟨n'', rfl⟩ : ∃ x, n = x + 1 := ⟨n - 1, by have := h.p1; omega⟩
      have eG : az_sum B b (n'' + 1) (p, m, f, q ++ w, o) = az_go B b n'' (p + 1, (az_push q m f).1, (az_push q m f).2, (1048576 * az_sgn (B p)) :: w, o) := by
        simp only [az_sum]
        rw [if_pos (show az_sgn (B p) ≠ -1 by omega), decide_eq_false (show ¬ az_sgn (B p) < 4 by omega), az_close_pusht hw q m f hq]
        rfl
      rw [eG]
      have hO := hF.2 (tp_step t) (p + 1) _ _ ((1048576 * az_sgn (B p)) :: w) b n'' (E + 1) h1 (by simp; omega) (by omega)
      rcases hO with ⟨d1, d2⟩ | ⟨n', p', m', f', u1, u2, u3, u4, u5, u6⟩
      · have d3 : lp_emit (F (tp_step t)) (B p) 0 3 4 = F (tp_step t) 3 4 := dd_emit _ _ _
        refine .inl ?_
        rw [dd_loop' (by decide) F N (by rw [d3]; exact d1), d3]
        exact ⟨d1, d2⟩
      · rw [u1]
        have h2 := u2.emit h.de (op := B p) (arg := 0) (x := 1048576 * az_sgn (B p)) (.inr (.inr ⟨by omega, rfl⟩))
        have hx : az_tm (1048576 * az_sgn (B p)) := ⟨by omega, by omega⟩
        have ep : az_push [1048576 * az_sgn (B p)] m' f' = (m' + 1, su f' m' (1048576 * az_sgn (B p))) := by
          show (m' + 1, su f' m' (1048576 * (1048576 * az_sgn (B p) / 1048576))) = _
          rw [show 1048576 * az_sgn (B p) / 1048576 = az_sgn (B p) by omega]
        have hr := tl_ploop hB hF h1h hw hb (E := E) N n' (t := lp_emit (F (tp_step t)) (B p) 0) (p := p') (m := m') (f := f') (q := [1048576 * az_sgn (B p)]) (fun x hx' => by rw [List.mem_singleton.mp hx']; exact hx) (by rw [ep]; exact h2) (by omega) u4
        have g : tl_G D t (lp_emit (F (tp_step t)) (B p) 0) (az_push q m f).1 (az_push q m f).2 (m' + 1) (su f' m' (1048576 * az_sgn (B p))) := ((tl_G.same rfl rfl).tr u5).tr (tl_G.emit u2.cn _ _ _)
        have uh : tl_H 0 hh (az_push q m f).1 (su f' m' (1048576 * az_sgn (B p))) (m' + 1) := u6.note u5.1 (az_eff_b (by omega)) (by omega) (Int.le_refl _) (by omega)
        rw [ep] at hr
        rcases hr with ⟨d1, d2⟩ | ⟨n2, p2, m2, f2, q2, v1, v2, v3, v4, v5, v6, v7⟩
        · exact .inl ⟨d1, d2⟩
        · exact .inr ⟨n2, p2, m2, f2, q2, v1, v2, v3, by omega, v5, g.tr v6, uh.tr v7 g.1 v6.1 v6.2.1 (by omega) (Int.le_refl _) (by omega)⟩
    · rw [if_neg hc]
      exact .inr ⟨n, p, m, f, q, rfl, ⟨hq, by simpa using hc⟩, h, Int.le_refl _, hn, tl_G.rf, tl_H.rf (by omega)⟩
/-- a product from its first factor on -/
theorem tl_prod {B : Int → Int} (hB : az_by B) {D m0 : Nat} {o hh : Int} {F : hy_T → hy_T} (hF : tl_F B D m0 o hh F) (h1h : 1 ≤ hh) {w : List Int} (hw : az_hdt w) {b : Nat} (hb : b ≤ w.length) {E n : Nat} {t : hy_T} {p : Int} {m : Nat} {f : Nat → Int} (h : tl_S B D E m0 t p m f) (hn : 250 ≤ n + p) :
    tl_W az_tm (fun c => lp_times c = false) B D E m0 b 1 (1 + hh) t (rx_product F t) (az_go B b n (p, m, f, w, o)) (p + 1) m f w o := by
  have hp0 := h.p0
  unfold rx_product
  rcases hF.2 t p m f w b n E h hb hn with ⟨d1, d2⟩ | ⟨n', p', m', f', u1, u2, u3, u4, u5, u6⟩
  · refine .inl ?_
    rw [dd_loop' (by decide) F 240 d1]
    exact ⟨d1, d2⟩
  · rw [u1]
    have hr := tl_ploop hB hF h1h hw hb (E := E) 240 n' (t := F t) (p := p') (m := m') (f := f') (q := []) (fun x hx => by cases hx) u2 (by omega) u4
    rcases hr with ⟨d1, d2⟩ | ⟨n2, p2, m2, f2, q2, v1, v2, v3, v4, v5, v6, v7⟩
    · exact .inl ⟨d1, d2⟩
    · exact .inr ⟨n2, p2, m2, f2, q2, v1, v2, v3, by omega, v5, u5.tr v6, u6.tr v7 u5.1 v6.1 v6.2.1 (by omega) (by omega) (Int.le_refl _)⟩
theorem az_hd_t {w : List Int} (h : az_hd w) : az_hdt w := fun x hx q => h x hx ⟨by omega, q.2⟩
theorem tl_sloop {B : Int → Int} (hB : az_by B) {D m0 : Nat} {o hh : Int} {F : hy_T → hy_T} (hF : tl_F B D m0 o hh F) (h1h : 1 ≤ hh) {w : List Int} (hw : az_hd w) {b : Nat} (hb : b ≤ w.length) {E : Nat} : ∀ (N n : Nat) {t : hy_T} {p : Int} {m : Nat} {f : Nat → Int} {q : List Int}, (∀ x, x ∈ q → az_pm x) → lp_times (B p) = false → tl_S B D E m0 t p (az_push q m f).1 (az_push q m f).2 → 240 ≤ N + p → 250 ≤ n + p →
    tl_W az_pm (fun c => az_sgn c = -1) B D E m0 b 0 (1 + hh) t (rx_loop rx_pm (rx_product F) N t) (az_sum B b n (p, m, f, q ++ w, o)) p (az_push q m f).1 (az_push q m f).2 w o
  | 0, n, t, p, m, f, q, hq, ht, h, hN, hn => by
    refine .inr ⟨n, p, m, f, q, rfl, ⟨hq, ?_⟩, h, Int.le_refl _, hn, tl_G.rf, tl_H.rf (by omega)⟩
    have := h.p1
    have e : B p = -1 := (hB p).2.2 (by omega)
    show az_sgn (B p) = -1
    rw [e]
    decide
  | N + 1, n, t, p, m, f, q, hq, ht, h, hN, hn => by
    have e := h.next
    simp only [rx_loop]
    rw [e]
    by_cases hc : rx_pm (B p) = true
    · rw [if_pos hc]
      have hg := tl_sgp hc
      have hp0 : 0 ≤ B p := rx_pm_p hc
      have h1 := h.step hB hp0
      obtain ⟨n'', rfl⟩ : ∃ x, n = x + 1 := ⟨n - 1, by have := h.p1; omega⟩
      have eG : az_sum B b (n'' + 1) (p, m, f, q ++ w, o) = az_go B b n'' (p + 1, (az_push q m f).1, (az_push q m f).2, (1048576 * az_sgn (B p)) :: w, o) := by
        simp only [az_sum]
        rw [if_pos (show az_sgn (B p) ≠ -1 by omega), decide_eq_true (show az_sgn (B p) < 4 by omega), az_close_push hw q m f hq]
        rfl
      rw [eG]
      have hwt : az_hdt ((1048576 * az_sgn (B p)) :: w) := fun x hx q => by
        have hx' : 1048576 * az_sgn (B p) = x := by simpa using hx
        unfold az_tm at q
        omega
      have hO := tl_prod hB hF h1h hwt (b := b) (by simp; omega) (E := E + 1) (n := n'') h1 (by omega)
      rcases hO with ⟨d1, d2⟩ | ⟨n', p', m', f', q1, u1, u2, u3, u4, u5, u6, u7⟩
      · have d3 : lp_emit (rx_product F (tp_step t)) (B p) 0 3 4 = rx_product F (tp_step t) 3 4 := dd_emit _ _ _
        refine .inl ?_
        rw [dd_loop' (by decide) (rx_product F) N (by rw [d3]; exact d1), d3]
        exact ⟨d1, d2⟩
      · rw [u1, show q1 ++ (1048576 * az_sgn (B p)) :: w = (q1 ++ [1048576 * az_sgn (B p)]) ++ w by simp]
        have h2 := u3.emit h.de (op := B p) (arg := 0) (x := 1048576 * az_sgn (B p)) (.inr (.inr ⟨by omega, rfl⟩))
        have ep : az_push (q1 ++ [1048576 * az_sgn (B p)]) m' f' = ((az_push q1 m' f').1 + 1, su (az_push q1 m' f').2 (az_push q1 m' f').1 (1048576 * az_sgn (B p))) := by
          rw [az_push_app]
          show (_ + 1, su _ _ (1048576 * (1048576 * az_sgn (B p) / 1048576))) = _
          rw [show 1048576 * az_sgn (B p) / 1048576 = az_sgn (B p) by omega]
        have hq2 : ∀ x, x ∈ q1 ++ [1048576 * az_sgn (B p)] → az_pm x := fun x hx => by
          rcases List.mem_append.mp hx with hx | hx
          · have := u2.1 x hx
            exact ⟨by have := this.1; omega, this.2⟩
          · rw [List.mem_singleton.mp hx]
            exact ⟨by omega, by omega⟩
        have hr := tl_sloop hB hF h1h hw hb (E := E) N n' (t := lp_emit (rx_product F (tp_step t)) (B p) 0) (p := p') (m := m') (f := f') (q := q1 ++ [1048576 * az_sgn (B p)]) hq2 u2.2 (by rw [ep]; exact h2) (by omega) u5
        have g : tl_G D t (lp_emit (rx_product F (tp_step t)) (B p) 0) (az_push q m f).1 (az_push q m f).2 ((az_push q1 m' f').1 + 1) (su (az_push q1 m' f').2 (az_push q1 m' f').1 (1048576 * az_sgn (B p))) := ((tl_G.same rfl rfl).tr u6).tr (tl_G.emit u3.cn _ _ _)
        have uh : tl_H 0 (1 + hh) (az_push q m f).1 (su (az_push q1 m' f').2 (az_push q1 m' f').1 (1048576 * az_sgn (B p))) ((az_push q1 m' f').1 + 1) := u7.note u6.1 (az_eff_b (by omega)) (by omega) (Int.le_refl _) (by omega)
        rw [ep] at hr
        rcases hr with ⟨d1, d2⟩ | ⟨n2, p2, m2, f2, q2, v1, v2, v3, v4, v5, v6, v7⟩
        · exact .inl ⟨d1, d2⟩
        · exact .inr ⟨n2, p2, m2, f2, q2, v1, v2, v3, by omega, v5, g.tr v6, uh.tr v7 g.1 v6.1 v6.2.1 (by omega) (Int.le_refl _) (by omega)⟩
    · rw [if_neg hc]
      exact .inr ⟨n, p, m, f, q, rfl, ⟨hq, tl_sgn ht (by simpa using hc)⟩, h, Int.le_refl _, hn, tl_G.rf, tl_H.rf (by omega)⟩
/-- a sum from its first factor on -/
theorem tl_sum {B : Int → Int} (hB : az_by B) {D m0 : Nat} {o hh : Int} {F : hy_T → hy_T} (hF : tl_F B D m0 o hh F) (h1h : 1 ≤ hh) {w : List Int} (hw : az_hd w) {b : Nat} (hb : b ≤ w.length) {E n : Nat} {t : hy_T} {p : Int} {m : Nat} {f : Nat → Int} (h : tl_S B D E m0 t p m f) (hn : 250 ≤ n + p) :
    tl_U B D E m0 b (2 + hh) t (rx_sum (rx_product F) t) (az_go B b n (p, m, f, w, o)) p m f w o := by
  have hp0 := h.p0
  unfold rx_sum
  rcases tl_prod hB hF h1h (az_hd_t hw) hb h hn with ⟨d1, d2⟩ | ⟨n', p', m', f', q1, u1, u2, u3, u4, u5, u6, u7⟩
  · refine .inl ?_
    rw [dd_loop' (by decide) (rx_product F) 240 d1]
    exact ⟨d1, d2⟩
  · rw [u1]
    have hr := tl_sloop hB hF h1h hw hb (E := E) 240 n' (t := rx_product F t) (p := p') (m := m') (f := f') (q := q1) (fun x hx => ⟨by have := (u2.1 x hx).1; omega, (u2.1 x hx).2⟩) u2.2 u3 (by omega) u5
    rcases hr with ⟨d1, d2⟩ | ⟨n2, p2, m2, f2, q2, v1, v2, v3, v4, v5, v6, v7⟩
    · exact .inl ⟨d1, d2⟩
    · exact .inr ⟨n2, p2, m2, f2, q2, v1, v2, v3, by omega, v5, u6.tr v6, u7.tr v7 u6.1 v6.1 v6.2.1 (by omega) (by omega) (by omega)⟩
theorem tl_Uw {B : Int → Int} {D E m0 b : Nat} {hh h2 : Int} {t t' : hy_T} {G : Int ⊕ Zs} {p : Int} {m : Nat} {f : Nat → Int} {w : List Int} {o : Int} (hq : hh ≤ h2) (h : tl_U B D E m0 b hh t t' G p m f w o) : tl_U B D E m0 b h2 t t' G p m f w o := by
  rcases h with d | ⟨n', p', m', f', q, u1, u2, u4, u5, u6, u7, u8⟩
  · exact .inl d
  · exact .inr ⟨n', p', m', f', q, u1, u2, u4, u5, u6, u7, u8.w hq⟩
theorem tl_sumL {B : Int → Int} (hB : az_by B) {D m0 : Nat} : ∀ (k : Nat), k ≤ 6 → ∀ (t : hy_T) (p : Int) (m : Nat) (f : Nat → Int) (w : List Int) (o : Int) (b n E : Nat), tl_S B D E m0 t p m f → o = 6 - (k : Int) → az_hd w → b ≤ w.length → 250 ≤ n + p → tl_U B D E m0 b (3 + 2 * (k : Int)) t (rx_sumL k t) (az_go B b n (p, m, f, w, o)) p m f w o
  | 0, hk, t, p, m, f, w, o, b, n, E, h, ho, hw, hb, hn =>
    tl_Uw (by omega) (tl_sum (hh := 1 + 2 * ((0 : Nat) : Int)) hB ⟨dd_factor _, fun t p m f w b n E h hb hn => tl_fac hB 0 hk none (fun _ => rfl) (fun k' e => by omega) h ho hb hn⟩ (by omega) hw hb h hn)
  | k + 1, hk, t, p, m, f, w, o, b, n, E, h, ho, hw, hb, hn =>
    tl_Uw (by push_cast; omega) (tl_sum (hh := 1 + 2 * ((k + 1 : Nat) : Int)) hB ⟨dd_factor _, fun t p m f w b n E h hb hn => tl_fac hB (k + 1) hk (some (rx_sumL k)) (fun e => by omega) (fun k' e => by
      obtain rfl : k' = k := by omega
      exact ⟨_, rfl, dd_sumL k', fun t p m f w o b n E h ho hw hb hn => tl_sumL hB k' (by omega) t p m f w o b n E h ho hw hb hn⟩) h ho hb hn⟩ (by omega) hw hb h hn)
/-- a whole sum, as conditions and amounts read it -/
def tl_R (B : Int → Int) (D E m0 : Nat) (t t' : hy_T) (R : Int ⊕ Zs) (p : Int) (m : Nat) (f : Nat → Int) (w : List Int) (o : Int) : Prop :=
  (t' 3 4 ≠ 0 ∧ R = .inl (t' 3 4)) ∨ ∃ (p' : Int) (m' : Nat) (f' : Nat → Int), R = .inr (p', m', f', w, o) ∧ tl_S B D E m0 t' p' m' f' ∧ p < p' ∧ tl_G D t t' m f m' f' ∧ tl_H 1 15 m f' m'
theorem tl_rs {B : Int → Int} (hB : az_by B) {D m0 : Nat} {k : Nat} (hk : k ≤ 6) {t : hy_T} {p : Int} {m : Nat} {f : Nat → Int} {w : List Int} {o : Int} {E : Nat} (h : tl_S B D E m0 t p m f) (ho : o = 6 - (k : Int)) (hw : az_hd w) : tl_R B D E m0 t (rx_sumL k t) (az_rs B (p, m, f, w, o)) p m f w o := by
  have hp0 := h.p0
  have eg : az_rs B (p, m, f, w, o) = az_go B w.length 250 (p, m, f, w, o) := rfl
  rw [eg]
  rcases tl_sumL hB k hk t p m f w o w.length 250 E h ho hw (Nat.le_refl _) (by omega) with ⟨d1, d2⟩ | ⟨n', p', m', f', q, u1, ⟨u2, u3⟩, u4, u5, u6, u7, u8⟩
  · exact .inl ⟨d1, d2⟩
  · obtain ⟨n'', rfl⟩ : ∃ x, n' = x + 1 := ⟨n' - 1, by have := u4.p1; omega⟩
    have hh : ¬ az_has ((q ++ w).length - w.length) (q ++ w) = true := fun c => by
      obtain ⟨x, hx, h14⟩ := (az_has_a q w).mp c
      have := u2 x hx
      unfold az_pm at this
      omega
    refine .inr ⟨p', (az_push q m' f').1, (az_push q m' f').2, ?_, u4, u5, u7, u8.w (by omega)⟩
    rw [u1]
    simp only [az_sum]
    rw [if_neg (show ¬ az_sgn (B p') ≠ -1 from fun c => c u3), if_neg (fun c => hh c.2), if_neg hh, az_close_push hw q m' f' u2]
/-- a step and a code of a comparison or of 'not' -/
def tl_c2 (op arg x : Int) : Prop := tl_cm op arg x ∨ (az_how op ≠ -1 ∧ x = 1048576 * az_how op) ∨ (op = 33 ∧ x = 10485760)
/-- a step and a code of a condition; leaps that wait lie in w -/
def tl_cc (D : Nat) (w : List Int) (j : Nat) (op arg x : Int) : Prop := tl_c2 op arg x ∨ ((op = 38 ∨ op = 124) ∧ ((x = 1048576 * az_jop op + (arg - D) ∧ 0 ≤ arg - D ∧ arg - D < 1048576) ∨ (x = 1048576 * az_jop op ∧ (1048576 * az_jop op + (j : Int)) ∈ w)))
def tl_T (B : Int → Int) (D E a : Nat) (t : hy_T) (p : Int) (m : Nat) (f : Nat → Int) (w : List Int) : Prop := tl_S B D E m t p m f ∧ a ≤ m ∧ ∀ j : Nat, a ≤ j → j < m → tl_cc D w j (t 20 (j + D)) (t 21 (j + D)) (f j)
theorem tl_S.emp {B : Int → Int} {D E m0 : Nat} {t : hy_T} {p : Int} {m : Nat} {f : Nat → Int} (h : tl_S B D E m0 t p m f) : tl_S B D E m t p m f := ⟨h.1, ⟨h.2.1.1, h.2.1.2.1, Nat.le_refl _⟩, fun j h1 h2 => by omega⟩
theorem tl_T.add {B : Int → Int} {D E E' a : Nat} {t t' : hy_T} {p p' : Int} {m m' : Nat} {f f' : Nat → Int} {w : List Int} (h : tl_T B D E a t p m f w) (h2 : tl_S B D E' m t' p' m' f') (g : tl_G D t t' m f m' f') : tl_T B D E' a t' p' m' f' w := by
  obtain ⟨h0, ha, hc⟩ := h
  obtain ⟨g1, g2, g3⟩ := g
  refine ⟨h2.emp, by omega, fun j hj hm => ?_⟩
  by_cases hl : j < m
  · obtain ⟨x, y⟩ := g3 (j + D) (by omega)
    rw [x, y, g2 j hl]
    exact hc j hj hl
  · exact .inl (.inl (h2.cs j (by omega) hm))
/-- one code more, of a comparison or of 'not' -/
theorem tl_T.emit {B : Int → Int} {D E a : Nat} {t : hy_T} {p : Int} {m : Nat} {f : Nat → Int} {w : List Int} (h : tl_T B D (E + 1) a t p m f w) (hD : D ≤ E) {op arg x : Int} (hx : ∀ w', tl_cc D w' m op arg x) : tl_T B D E a (lp_emit t op arg) p (m + 1) (su f m x) w := by
  obtain ⟨h0, ha, hc⟩ := h
  have h1 := h0.p1
  have hl := h0.le
  have h2 := h0.cn
  have e : lp_emit t op arg = hy_up (hy_up (hy_up t 20 (m + D) op) 21 (m + D) arg) 19 3 (t 19 3 + 1) := by
    unfold lp_emit
    rw [if_pos (by omega), show (t 19 3).toNat = m + D by omega]
  have e20 : ∀ i, lp_emit t op arg 20 i = if i = m + D then op else t 20 i := fun i => by
    rw [e, hy_up_ne (by decide), hy_up_ne (by decide)]
    simp only [hy_up, true_and]
  have e21 : ∀ i, lp_emit t op arg 21 i = if i = m + D then arg else t 21 i := fun i => by
    rw [e, hy_up_ne (by decide)]
    simp only [hy_up, true_and]
    split
    · rfl
    · rw [if_neg (by omega)]
  have e3 : ∀ j, lp_emit t op arg 3 j = t 3 j := fun j => by rw [e]; rfl
  have e4 : ∀ j, lp_emit t op arg 4 j = t 4 j := fun j => by rw [e]; rfl
  have e19 : lp_emit t op arg 19 3 = t 19 3 + 1 := by rw [e]; rfl
  refine ⟨⟨⟨⟨by rw [e3]; exact h0.ok, by rw [e3]; exact h0.at_⟩, ⟨h0.p0, h0.p1⟩, fun q hq => by rw [e3, e4]; exact h0.by_ q hq⟩, ⟨by rw [e19]; omega, ⟨by omega, hD⟩, Nat.le_refl _⟩, fun j h3 h4 => by omega⟩, by omega, fun j h3 h4 => ?_⟩
  rw [e20, e21]
  by_cases hj : j = m
  · rw [if_pos (by omega), if_pos (by omega), show su f m x j = x by unfold su; rw [if_pos hj], hj]
    exact hx w
  · rw [if_neg (by omega), if_neg (by omega), show su f m x j = f j by unfold su; rw [if_neg hj]]
    exact hc j h3 (by omega)
theorem dd_both {sg : Int} (hs : 0 ≤ sg) {F : hy_T → hy_T} (hF : dd_good F) : dd_good (rb_both sg F) := fun t h => by
  have e := hF t h
  unfold rb_both
  show (if tp_next (F t) = sg then _ else lp_lead (F t) (-1)) 3 4 = t 3 4
  rw [dd_next (by rw [e]; exact h), if_neg (by omega), dd_lead]
  exact e
theorem dd_piece {S : hy_T → hy_T} (hS : dd_good S) (N : Option ((hy_T → hy_T) × (hy_T → hy_T))) : dd_good (rp_piece S N) := fun t h => by
  have e := hS t h
  have h2 : S t 3 4 ≠ 0 := by rw [e]; exact h
  unfold rp_piece
  rw [dd_next h, if_neg (by decide), dd_next h2, if_neg (by decide), dd_fail h2]
  exact e
theorem dd_lev : ∀ n, dd_good (rp_lev n)
  | 0 => dd_piece (dd_sumL 0) _
  | n + 1 => dd_piece (dd_sumL (n + 1)) _
theorem dd_either (n : Nat) : dd_good (rp_either n) := dd_both (by decide) (dd_both (by decide) (dd_lev n))
