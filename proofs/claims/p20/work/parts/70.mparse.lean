/-! the model's law as it is read: a machine over a list of what waits -/
abbrev Zs : Type := Int × Nat × (Nat → Int) × List Int × Int
def az_num (B : Int → Int) : Nat → Int → Int → Int ⊕ (Int × Int)
  | 0, p, v => if 48 ≤ B p ∧ B p ≤ 57 then .inl (-2000 - p) else .inr (p, v)
  | n + 1, p, v => if 48 ≤ B p ∧ B p ≤ 57 then az_num B n (p + 1) (10 * v + B p - 48) else .inr (p, v)
def az_open (what : Int) (s : Zs) : Int ⊕ Zs := if s.2.2.2.2 = 6 then .inl (-5000 - s.1) else .inr (s.1 + 1, s.2.1, s.2.2.1, (1048576 * what) :: s.2.2.2.1, s.2.2.2.2 + 1)
abbrev az_popc (all : Bool) (x : Int) : Prop := (4 ≤ x / 1048576 ∧ x / 1048576 ≤ 6) ∨ (all = true ∧ (x / 1048576 = 2 ∨ x / 1048576 = 3))
def az_close (all : Bool) : List Int → Nat → (Nat → Int) → List Int × Nat × (Nat → Int)
  | [], m, f => ([], m, f)
  | x :: w, m, f => if az_popc all x then az_close all w (m + 1) (su f m (1048576 * (x / 1048576))) else (x :: w, m, f)
def az_fac (B : Int → Int) : Nat → Zs → Int ⊕ Zs
  | 0, _ => .inl 0
  | n + 1, s =>
    if B s.1 = 91 then (match az_open 14 s with | .inl e => .inl e | .inr s1 => az_fac B n s1)
    else if 48 ≤ B s.1 ∧ B s.1 ≤ 57 then (match az_num B 5 s.1 0 with | .inl e => .inl e | .inr q => .inr (q.1, s.2.1 + 1, su s.2.2.1 s.2.1 q.2, s.2.2.2.1, s.2.2.2.2))
    else if lp_letter (B s.1) = -1 then .inl (-1000 - s.1)
    else .inr (s.1 + 1, s.2.1 + 1, su s.2.2.1 s.2.1 (1048576 + lp_letter (B s.1)), s.2.2.2.1, s.2.2.2.2)
def az_sgn (c : Int) : Int := if c = 43 then 2 else if c = 45 then 3 else if c = 42 then 4 else if c = 47 then 5 else if c = 37 then 6 else -1
def az_has : Nat → List Int → Bool
  | 0, _ => false
  | _ + 1, [] => false
  | n + 1, x :: w => decide (x / 1048576 = 14) || az_has n w
def az_sum (B : Int → Int) (b : Nat) : Nat → Zs → Int ⊕ Zs
  | 0, _ => .inl 0
  | n + 1, s =>
    if az_sgn (B s.1) ≠ -1 then
      (match az_fac B 8 (s.1 + 1, (az_close (decide (az_sgn (B s.1) < 4)) s.2.2.2.1 s.2.1 s.2.2.1).2.1, (az_close (decide (az_sgn (B s.1) < 4)) s.2.2.2.1 s.2.1 s.2.2.1).2.2, (1048576 * az_sgn (B s.1)) :: (az_close (decide (az_sgn (B s.1) < 4)) s.2.2.2.1 s.2.1 s.2.2.1).1, s.2.2.2.2) with
       | .inl e => .inl e
       | .inr s1 => az_sum B b n s1)
    else if B s.1 = 93 ∧ az_has (s.2.2.2.1.length - b) s.2.2.2.1 = true then
      az_sum B b n (s.1 + 1, (az_close true s.2.2.2.1 s.2.1 s.2.2.1).2.1, (az_close true s.2.2.2.1 s.2.1 s.2.2.1).2.2, (az_close true s.2.2.2.1 s.2.1 s.2.2.1).1.tail, s.2.2.2.2 - 1)
    else if az_has (s.2.2.2.1.length - b) s.2.2.2.1 = true then .inl (-1000 - s.1)
    else .inr (s.1, (az_close true s.2.2.2.1 s.2.1 s.2.2.1).2.1, (az_close true s.2.2.2.1 s.2.1 s.2.2.1).2.2, (az_close true s.2.2.2.1 s.2.1 s.2.2.1).1, s.2.2.2.2)
def az_rs (B : Int → Int) (s : Zs) : Int ⊕ Zs := match az_fac B 8 s with
  | .inl e => .inl e
  | .inr s1 => az_sum B s.2.2.2.1.length 250 s1
def az_ends : List Int → Nat → (Nat → Int) → Int → List Int × Nat × (Nat → Int) × Int
  | [], m, f, o => ([], m, f, o)
  | x :: w, m, f, o => if x / 1048576 = 10 then az_ends w (m + 1) (su f m 10485760) (o - 1) else (x :: w, m, f, o)
def az_land (all : Bool) : List Int → Nat → (Nat → Int) → List Int × (Nat → Int)
  | [], _, f => ([], f)
  | x :: w, m, f => if x / 1048576 = 11 ∨ (all = true ∧ x / 1048576 = 12) then az_land all w m (su f (x % 1048576).toNat (1048576 * (f (x % 1048576).toNat / 1048576) + m)) else (x :: w, f)
def az_how (c : Int) : Int := if c = 60 then 7 else if c = 62 then 8 else if c = 61 then 9 else -1
def az_cmp2 (how : Int) (s : Zs) : Zs :=
  (s.1, (az_ends s.2.2.2.1 (s.2.1 + 1) (su s.2.2.1 s.2.1 (1048576 * how)) s.2.2.2.2).2.1, (az_ends s.2.2.2.1 (s.2.1 + 1) (su s.2.2.1 s.2.1 (1048576 * how)) s.2.2.2.2).2.2.1, (az_ends s.2.2.2.1 (s.2.1 + 1) (su s.2.2.1 s.2.1 (1048576 * how)) s.2.2.2.2).1, (az_ends s.2.2.2.1 (s.2.1 + 1) (su s.2.2.1 s.2.1 (1048576 * how)) s.2.2.2.2).2.2.2)
def az_cmp (B : Int → Int) (s : Zs) : Int ⊕ Zs := match az_rs B s with
  | .inl e => .inl e
  | .inr s1 => if az_how (B s1.1) = -1 then .inl (-1000 - s1.1) else
    (match az_rs B (s1.1 + 1, s1.2.1, s1.2.2.1, s1.2.2.2.1, s1.2.2.2.2) with
     | .inl e => .inl e
     | .inr s2 => .inr (az_cmp2 (az_how (B s1.1)) s2))
def az_shut (s : Zs) : Zs := (s.1 + 1, s.2.1, (az_land true s.2.2.2.1 s.2.1 s.2.2.1).2, (az_land true s.2.2.2.1 s.2.1 s.2.2.1).1.tail, s.2.2.2.2 - 1)
def az_shut2 (s : Zs) : Zs := (s.1, (az_ends s.2.2.2.1 s.2.1 s.2.2.1 s.2.2.2.2).2.1, (az_ends s.2.2.2.1 s.2.1 s.2.2.1 s.2.2.2.2).2.2.1, (az_ends s.2.2.2.1 s.2.1 s.2.2.1 s.2.2.2.2).1, (az_ends s.2.2.2.1 s.2.1 s.2.2.1 s.2.2.2.2).2.2.2)
def az_jop (c : Int) : Int := if c = 38 then 11 else 12
def az_jump (c : Int) (s : Zs) : Zs := (s.1 + 1, s.2.1 + 1, su (az_land (decide (c = 124)) s.2.2.2.1 s.2.1 s.2.2.1).2 s.2.1 (1048576 * az_jop c), (1048576 * az_jop c + s.2.1) :: (az_land (decide (c = 124)) s.2.2.2.1 s.2.1 s.2.2.1).1, s.2.2.2.2)
def az_cond (B : Int → Int) : Nat → Bool → Zs → Int ⊕ Zs
  | 0, _, _ => .inl 0
  | n + 1, true, s =>
    if B s.1 = 33 ∨ B s.1 = 40 then (match az_open (if B s.1 = 33 then 10 else 13) s with | .inl e => .inl e | .inr s1 => az_cond B n true s1)
    else (match az_cmp B s with | .inl e => .inl e | .inr s1 => az_cond B n false s1)
  | n + 1, false, s =>
    if B s.1 = 41 then (if (az_shut s).2.2.2.1 = [] then .inr (az_shut s) else az_cond B n false (az_shut2 (az_shut s)))
    else if B s.1 = 38 ∨ B s.1 = 124 then az_cond B n true (az_jump (B s.1) s)
    else .inl (-1000 - s.1)
def az_rc (B : Int → Int) (p : Int) (m : Nat) (f : Nat → Int) : Int ⊕ Zs :=
  if B p = 40 then az_cond B 600 true (p + 1, m, f, [13631488], 1) else .inl (-1000 - p)
/-! what is kept by it -/
def az_eff (op : Int) : Int := if op = 0 ∨ op = 1 then 1 else if op = 10 then 0 else -1
def az_dep (f : Nat → Int) (a : Nat) : Nat → Int
  | 0 => 0
  | k + 1 => if k + 1 ≤ a then 0 else az_dep f a k + az_eff (f k / 1048576)
theorem az_dep_a (f : Nat → Int) (a : Nat) : ∀ k : Nat, k ≤ a → az_dep f a k = 0
  | 0, _ => rfl
  | k + 1, h => by simp only [az_dep]; rw [if_pos h]
theorem az_dep_s (f : Nat → Int) (a k : Nat) (h : a ≤ k) : az_dep f a (k + 1) = az_dep f a k + az_eff (f k / 1048576) := by
  simp only [az_dep]
  rw [if_neg (by omega)]
theorem az_dep_le (f : Nat → Int) (a : Nat) : ∀ k : Nat, az_dep f a k ≤ k
  | 0 => by simp [az_dep]
  | k + 1 => by
    have h := az_dep_le f a k
    simp only [az_dep]
    split
    · omega
    · unfold az_eff
      split
      · omega
      · split <;> omega
/-- only the signs of the codes ahead matter -/
theorem az_dep_eq {f g : Nat → Int} {a : Nat} : ∀ k : Nat, (∀ j, j < k → f j / 1048576 = g j / 1048576) → az_dep f a k = az_dep g a k
  | 0, _ => rfl
  | k + 1, h => by
    simp only [az_dep]
    rw [az_dep_eq k (fun j hj => h j (by omega)), h k (by omega)]
theorem az_dep_su (f : Nat → Int) (a m : Nat) (v : Int) (k : Nat) (h : k ≤ m) : az_dep (su f m v) a k = az_dep f a k :=
  az_dep_eq k (fun j hj => by simp only [su]; rw [if_neg (by omega)])
def az_pend (w : List Int) (k : Nat) : Prop := ∃ x, x ∈ w ∧ x % 1048576 = k ∧ (x / 1048576 = 11 ∨ x / 1048576 = 12)
/-- a code that is well laid, or whose leap still waits -/
def az_okc (f : Nat → Int) (a m : Nat) (w : List Int) (k : Nat) : Prop :=
  (0 ≤ f k ∧ f k < 13631488 ∧ 0 ≤ az_dep f a k) ∧
  (f k / 1048576 = 1 → f k % 1048576 < 10) ∧
  (f k / 1048576 = 10 → 1 ≤ az_dep f a k) ∧
  ((f k / 1048576 = 11 ∨ f k / 1048576 = 12) → 1 ≤ az_dep f a k ∧ (az_pend w k ∨ ((k : Int) < f k % 1048576 ∧ f k % 1048576 ≤ m ∧ az_dep f a (f k % 1048576).toNat = az_dep f a k))) ∧
  (2 ≤ f k / 1048576 → f k / 1048576 ≤ 9 → 2 ≤ az_dep f a k)
def az_lc (f : Nat → Int) (a m : Nat) (w : List Int) : Prop := ∀ k : Nat, a ≤ k → k < m → az_okc f a m w k
theorem az_lc_w {f : Nat → Int} {a m : Nat} {w w' : List Int} (h : az_lc f a m w) (hw : ∀ k, az_pend w k → az_pend w' k) : az_lc f a m w' := fun k h1 h2 => by
  obtain ⟨c0, c1, c2, c3, c4⟩ := h k h1 h2
  exact ⟨c0, c1, c2, fun q => ⟨(c3 q).1, (c3 q).2.imp (hw k) id⟩, c4⟩
/-- a code is noted -/
theorem az_lc_note {f : Nat → Int} {a m : Nat} {w : List Int} (h : az_lc f a m w) (ha : a ≤ m) {x : Int} (hx : 0 ≤ x ∧ x < 13631488) (hd : 0 ≤ az_dep f a m)
    (h1 : x / 1048576 = 1 → x % 1048576 < 10) (h2 : x / 1048576 = 10 → 1 ≤ az_dep f a m) (h3 : (x / 1048576 = 11 ∨ x / 1048576 = 12) → 1 ≤ az_dep f a m ∧ az_pend w m)
    (h4 : 2 ≤ x / 1048576 → x / 1048576 ≤ 9 → 2 ≤ az_dep f a m) : az_lc (su f m x) a (m + 1) w ∧ az_dep (su f m x) a (m + 1) = az_dep f a m + az_eff (x / 1048576) := by
  have em : su f m x m = x := by simp [su]
  refine ⟨fun k k1 k2 => ?_, by rw [az_dep_s _ _ _ ha, az_dep_su f a m x m (Nat.le_refl _), em]⟩
  have ed : az_dep (su f m x) a k = az_dep f a k := az_dep_su f a m x k (by omega)
  by_cases hk : k = m
  · subst hk
    unfold az_okc
    rw [em, ed]
    exact ⟨⟨hx.1, hx.2, hd⟩, h1, h2, fun q => ⟨(h3 q).1, .inl (h3 q).2⟩, h4⟩
  · have ek : su f m x k = f k := by simp [su, hk]
    obtain ⟨c0, c1, c2, c3, c4⟩ := h k k1 (by omega)
    unfold az_okc
    rw [ek, ed]
    refine ⟨c0, c1, c2, fun q => ⟨(c3 q).1, ?_⟩, c4⟩
    rcases (c3 q).2 with q1 | ⟨q1, q2, q3⟩
    · exact .inl q1
    · refine .inr ⟨q1, by omega, ?_⟩
      rw [az_dep_su f a m x _ (by omega)]
      exact q3
/-- how many of what waits will be noted; how many are open; how many are signs of sums -/
def az_cnt : List Int → Nat
  | [] => 0
  | x :: w => (if (2 ≤ x / 1048576 ∧ x / 1048576 ≤ 6) ∨ x / 1048576 = 10 then 1 else 0) + az_cnt w
def az_cno : List Int → Nat
  | [] => 0
  | x :: w => (if x / 1048576 = 10 ∨ x / 1048576 = 13 ∨ x / 1048576 = 14 then 1 else 0) + az_cno w
def az_bin : List Int → Nat
  | [] => 0
  | x :: w => (if 2 ≤ x / 1048576 ∧ x / 1048576 ≤ 6 then 1 else 0) + az_bin w
abbrev az_ent (x : Int) : Prop := 0 ≤ x ∧ x < 15728640 ∧ x % 1048576 < 260
/-- the state of the reading, with some room left -/
def az_ok (sl : Nat) (s : Zs) : Prop := (0 ≤ s.1 ∧ s.1 ≤ 240) ∧ ((s.2.1 + az_cnt s.2.2.2.1 + sl : Nat) : Int) ≤ s.1 ∧ (s.2.2.2.1.length : Int) ≤ s.1 ∧ (s.2.2.2.2 = az_cno s.2.2.2.1 ∧ s.2.2.2.2 ≤ 6) ∧ (∀ x, x ∈ s.2.2.2.1 → az_ent x) ∧ ∀ j : Nat, j < 260 → 0 ≤ s.2.2.1 j ∧ s.2.2.1 j < 13631488
abbrev az_by (B : Int → Int) : Prop := ∀ p, -1 ≤ B p ∧ B p ≤ 255 ∧ (240 ≤ p → B p = -1)
theorem az_row_su {f : Nat → Int} (h : ∀ j : Nat, j < 260 → 0 ≤ f j ∧ f j < 13631488) (m : Nat) {x : Int} (hx : 0 ≤ x ∧ x < 13631488) : ∀ j : Nat, j < 260 → 0 ≤ su f m x j ∧ su f m x j < 13631488 := fun j hj => by
  simp only [su]
  split
  · exact hx
  · exact h j hj
theorem az_num_s {B : Int → Int} (hB : az_by B) : ∀ (n : Nat) (p v : Int) (q : Int × Int) (hi : Int), 0 ≤ v → (v + 1) * 10 ^ n ≤ hi → az_num B n p v = .inr q → p ≤ q.1 ∧ (q.1 ≤ 240 ∨ q.1 = p) ∧ (48 ≤ B p ∧ B p ≤ 57 → 0 < n → p < q.1) ∧ 0 ≤ q.2 ∧ q.2 < hi
  | 0, p, v, q, hi, hv, hh, h => by
    simp only [az_num] at h
    split at h
    · cases h
    · cases h
      exact ⟨Int.le_refl _, .inr rfl, fun _ q => absurd q (by omega), hv, by simp at hh; omega⟩
  | n + 1, p, v, q, hi, hv, hh, h => by
    simp only [az_num] at h
    split at h
    · next hd =>
      have hb := (hB p).2.2
      have hp : p < 240 := by
        refine Decidable.byContradiction (fun q => ?_)
        have := hb (by omega); omega
      obtain ⟨a1, a2, a3, a4, a5⟩ := az_num_s hB n (p + 1) _ q hi (by omega) (by
        have e : (v + 1) * 10 ^ (n + 1) = (10 * v + 10) * 10 ^ n := by rw [Int.pow_succ, show (10 * v + 10 : Int) = (v + 1) * 10 by omega, Int.mul_assoc, Int.mul_comm (10 ^ n) 10]
        rw [e] at hh
        have hm : (10 * v + B p - 48 + 1) * 10 ^ n ≤ (10 * v + 10) * 10 ^ n := Int.mul_le_mul_of_nonneg_right (by omega) (Int.le_of_lt (Int.pow_pos (by decide)))
        omega) h
      exact ⟨by omega, .inl (by omega), fun _ _ => by omega, a4, a5⟩
    · next hd =>
      cases h
      have h10 : 1 ≤ (10 : Int) ^ (n + 1) := Int.pow_pos (by decide)
      have : v + 1 ≤ (v + 1) * 10 ^ (n + 1) := by
        have := Int.mul_le_mul_of_nonneg_left h10 (show 0 ≤ v + 1 by omega)
        omega
      exact ⟨Int.le_refl _, .inr rfl, fun q => absurd q hd, hv, by omega⟩
