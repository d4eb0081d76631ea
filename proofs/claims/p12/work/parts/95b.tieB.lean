/-! loops of conditions -/
abbrev az_lp (x : Int) : Prop := x / 1048576 = 11 ∨ x / 1048576 = 12
/-- where what waits lands -/
def az_lan : List Int → Nat → (Nat → Int) → (Nat → Int)
  | [], _, f => f
  | x :: q, m, f => az_lan q m (su f (x % 1048576).toNat (1048576 * (f (x % 1048576).toNat / 1048576) + m))
theorem az_land_lan {w : List Int} (hw : ∀ x, w.head? = some x → ¬ az_lp x) : ∀ (q : List Int) (m : Nat) (f : Nat → Int), (∀ x, x ∈ q → az_lp x) → az_land true (q ++ w) m f = (w, az_lan q m f)
  | [], m, f, _ => by
    show az_land true w m f = (w, f)
    cases w with
    | nil => rfl
    | cons x w =>
      simp only [az_land]
      have hx := hw x rfl
      rw [if_neg (fun c => hx (c.elim .inl (fun c => .inr c.2)))]
  | x :: q, m, f, h => by
    have hx := h x (List.mem_cons_self ..)
    show az_land true (x :: (q ++ w)) m f = _
    simp only [az_land, az_lan]
    rw [if_pos (hx.elim .inl (fun c => .inr ⟨trivial, c⟩))]
    exact az_land_lan hw q m _ (fun y hy => h y (List.mem_cons_of_mem _ hy))
theorem tl_T.out {B : Int → Int} {D E a : Nat} {t : hy_T} {p : Int} {m : Nat} {f : Nat → Int} {w : List Int} {y : Int} (hy : ¬ az_lp y) (hm : (m : Int) < 1048576) (h : tl_T B D E a t p m f (y :: w)) : tl_T B D E a t p m f w := by
  obtain ⟨x1, x2, x3⟩ := h
  refine ⟨x1, x2, fun j h1 h2 => ?_⟩
  rcases x3 j h1 h2 with q | ⟨q1, q2⟩
  · exact .inl q
  · refine .inr ⟨q1, ?_⟩
    rcases q2 with q2 | ⟨q2, q3⟩
    · exact .inl q2
    · refine .inr ⟨q2, ?_⟩
      rcases List.mem_cons.mp q3 with q4 | q4
      · exfalso
        have hj : az_jop (t 20 (j + D)) = 11 ∨ az_jop (t 20 (j + D)) = 12 := by
          unfold az_jop
          split
          · exact .inl rfl
          · exact .inr rfl
        refine hy ?_
        unfold az_lp
        rcases hj with e1 | e1 <;> (rw [e1] at q4; omega)
      · exact q4
abbrev az_ps (sg x : Int) : Prop := x / 1048576 = 11 ∨ (sg = 124 ∧ x / 1048576 = 12)
theorem az_land_ps {sg : Int} {w : List Int} (hw : ∀ x, w.head? = some x → ¬ az_ps sg x) : ∀ (q : List Int) (m : Nat) (f : Nat → Int), (∀ x, x ∈ q → az_ps sg x) → az_land (decide (sg = 124)) (q ++ w) m f = (w, az_lan q m f)
  | [], m, f, _ => by
    show az_land (decide (sg = 124)) w m f = (w, f)
    cases w with
    | nil => rfl
    | cons x w =>
      simp only [az_land]
      have hx := hw x rfl
      rw [if_neg (fun c => hx (c.elim .inl (fun c => .inr ⟨of_decide_eq_true c.1, c.2⟩)))]
  | x :: q, m, f, h => by
    have hx := h x (List.mem_cons_self ..)
    show az_land (decide (sg = 124)) (x :: (q ++ w)) m f = _
    simp only [az_land, az_lan]
    rw [if_pos (hx.elim .inl (fun c => .inr ⟨decide_eq_true c.1, c.2⟩))]
    exact az_land_ps hw q m _ (fun y hy => h y (List.mem_cons_of_mem _ hy))
theorem az_lan_app : ∀ (q r : List Int) (m : Nat) (f : Nat → Int), az_lan (q ++ r) m f = az_lan r m (az_lan q m f)
  | [], r, m, f => rfl
  | x :: q, r, m, f => az_lan_app q r m _
theorem az_lan1 {sg : Int} (hs : az_jop sg = 11 ∨ az_jop sg = 12) {j : Nat} (hj : j < 1048576) (m : Nat) (f : Nat → Int) : az_lan [1048576 * az_jop sg + (j : Int)] m f = su f j (1048576 * (f j / 1048576) + m) := by
  have e : ((1048576 * az_jop sg + (j : Int)) % 1048576).toNat = j := by
    rcases hs with h | h <;> (rw [h]; omega)
  simp only [az_lan]
  rw [e]
theorem tl_jop {sg : Int} (h : sg = 38 ∨ sg = 124) : (sg = 38 ∧ az_jop sg = 11) ∨ (sg = 124 ∧ az_jop sg = 12) := by
  rcases h with rfl | rfl
  · exact .inl ⟨rfl, rfl⟩
  · exact .inr ⟨rfl, rfl⟩
theorem tl_T.mono {B : Int → Int} {D E a : Nat} {t : hy_T} {p : Int} {m : Nat} {f : Nat → Int} {w w' : List Int} (h : tl_T B D E a t p m f w) (hw : ∀ x, x ∈ w → x ∈ w') : tl_T B D E a t p m f w' := by
  obtain ⟨x1, x2, x3⟩ := h
  refine ⟨x1, x2, fun j h1 h2 => ?_⟩
  rcases x3 j h1 h2 with q | ⟨q1, q2⟩
  · exact .inl q
  · exact .inr ⟨q1, q2.elim .inl (fun c => .inr ⟨c.1, hw _ c.2⟩)⟩
/-- a leap that is laid -/
theorem tl_T.leap {B : Int → Int} {D E a : Nat} {t : hy_T} {p : Int} {m : Nat} {f : Nat → Int} {w : List Int} {sg : Int} (hs : sg = 38 ∨ sg = 124) (h : tl_T B D (E + 1) a t p m f w) (hD : D ≤ E) : tl_T B D E a (lp_emit t sg 0) p (m + 1) (su f m (1048576 * az_jop sg)) ((1048576 * az_jop sg + (m : Int)) :: w) ∧ lp_emit t sg 0 20 (m + D) = sg := by
  have hm := h.mono (w' := (1048576 * az_jop sg + (m : Int)) :: w) (fun x hx => List.mem_cons_of_mem _ hx)
  obtain ⟨h0, ha, hc⟩ := hm
  have h1 := h0.p1
  have hl := h0.le
  have h2 := h0.cn
  have e : lp_emit t sg 0 = hy_up (hy_up (hy_up t 20 (m + D) sg) 21 (m + D) 0) 19 3 (t 19 3 + 1) := by
    unfold lp_emit
    rw [if_pos (by omega), show (t 19 3).toNat = m + D by omega]
  have e20 : ∀ i, lp_emit t sg 0 20 i = if i = m + D then sg else t 20 i := fun i => by
    rw [e, hy_up_ne (by decide), hy_up_ne (by decide)]
    simp only [hy_up, true_and]
  have e21 : ∀ i, lp_emit t sg 0 21 i = if i = m + D then 0 else t 21 i := fun i => by
    rw [e, hy_up_ne (by decide)]
    simp only [hy_up, true_and]
    split
    · rfl
    · rw [if_neg (by omega)]
  have e3 : ∀ j, lp_emit t sg 0 3 j = t 3 j := fun j => by rw [e]; rfl
  have e4 : ∀ j, lp_emit t sg 0 4 j = t 4 j := fun j => by rw [e]; rfl
  have e19 : lp_emit t sg 0 19 3 = t 19 3 + 1 := by rw [e]; rfl
  refine ⟨⟨⟨⟨⟨by rw [e3]; exact h0.ok, by rw [e3]; exact h0.at_⟩, ⟨h0.p0, h0.p1⟩, fun q hq => by rw [e3, e4]; exact h0.by_ q hq⟩, ⟨by rw [e19]; omega, ⟨by omega, hD⟩, Nat.le_refl _⟩, fun j h3 h4 => by omega⟩, by omega, fun j h3 h4 => ?_⟩, by rw [e20, if_pos rfl]⟩
  rw [e20, e21]
  by_cases hj : j = m
  · rw [if_pos (by omega), if_pos (by omega), show su f m (1048576 * az_jop sg) j = 1048576 * az_jop sg by unfold su; rw [if_pos hj], hj]
    exact .inr ⟨hs, .inr ⟨rfl, List.mem_cons_self ..⟩⟩
  · rw [if_neg (by omega), if_neg (by omega), show su f m (1048576 * az_jop sg) j = f j by unfold su; rw [if_neg hj]]
    exact hc j h3 (by omega)
/-- a leap lands -/
theorem tl_T.lead {B : Int → Int} {D E a : Nat} {t : hy_T} {p : Int} {m : Nat} {f : Nat → Int} {w : List Int} {sg : Int} (hs : sg = 38 ∨ sg = 124) {j : Nat} (h : tl_T B D E a t p m f ((1048576 * az_jop sg + (j : Int)) :: w)) (hj : a ≤ j ∧ j < m) (h20 : t 20 (j + D) = sg) (hf : f j = 1048576 * az_jop sg) : tl_T B D E a (lp_lead t ((j : Int) + D)) p m (su f j (1048576 * (f j / 1048576) + m)) w := by
  obtain ⟨h0, ha, hc⟩ := h
  have h1 := h0.p1
  have hl := h0.le
  have h2 := h0.cn
  have hde := h0.de
  have hj2 := tl_jop hs
  have e : lp_lead t ((j : Int) + D) = hy_up t 21 (j + D) (t 19 3) := by
    unfold lp_lead
    rw [if_pos (by omega), show ((j : Int) + D).toNat = j + D by omega]
  have e20 : ∀ i, lp_lead t ((j : Int) + D) 20 i = t 20 i := fun i => by rw [e, hy_up_ne (by decide)]
  have e21 : ∀ i, lp_lead t ((j : Int) + D) 21 i = if i = j + D then t 19 3 else t 21 i := fun i => by
    rw [e]
    simp only [hy_up, true_and]
  have e3 : ∀ i, lp_lead t ((j : Int) + D) 3 i = t 3 i := fun i => by rw [e]; rfl
  have e4 : ∀ i, lp_lead t ((j : Int) + D) 4 i = t 4 i := fun i => by rw [e]; rfl
  have e19 : lp_lead t ((j : Int) + D) 19 3 = t 19 3 := by rw [e]; rfl
  refine ⟨⟨⟨⟨by rw [e3]; exact h0.ok, by rw [e3]; exact h0.at_⟩, ⟨h0.p0, h0.p1⟩, fun q hq => by rw [e3, e4]; exact h0.by_ q hq⟩, ⟨by rw [e19]; exact h2, ⟨hl, h0.de⟩, Nat.le_refl _⟩, fun i h3 h4 => by omega⟩, ha, fun i h3 h4 => ?_⟩
  rw [e20, e21]
  by_cases hi : i = j
  · rw [hi, if_pos rfl, show su f j (1048576 * (f j / 1048576) + m) j = 1048576 * (f j / 1048576) + m by unfold su; rw [if_pos rfl], h20, hf, h2]
    refine .inr ⟨hs, .inl ⟨by omega, by omega, by omega⟩⟩
  · rw [if_neg (by omega), show su f j (1048576 * (f j / 1048576) + m) i = f i by unfold su; rw [if_neg hi]]
    rcases hc i h3 h4 with q | ⟨q1, q2⟩
    · exact .inl q
    · refine .inr ⟨q1, q2.elim .inl (fun c => .inr ⟨c.1, ?_⟩)⟩
      rcases List.mem_cons.mp c.2 with q4 | q4
      · exfalso
        have hk := tl_jop q1
        refine hi ?_
        omega
      · exact q4
/-- the leap that waits at a loop: of both sides -/
def tl_q (D : Nat) (sg : Int) (t : hy_T) (m0 m : Nat) (g : Nat → Int) (l : Int) (q : List Int) : Prop := (l = -1 ∧ q = []) ∨ ∃ j : Nat, (m0 ≤ j ∧ j < m) ∧ l = (j : Int) + D ∧ q = [1048576 * az_jop sg + (j : Int)] ∧ t 20 (j + D) = sg ∧ g j = 1048576 * az_jop sg
theorem tl_q.ps {D : Nat} {sg : Int} {t : hy_T} {m0 m : Nat} {g : Nat → Int} {l : Int} {q : List Int} (hs : sg = 38 ∨ sg = 124) (h : tl_q D sg t m0 m g l q) (hm : m < 1000) : ∀ x, x ∈ q → az_ps sg x := by
  intro x hx
  rcases h with ⟨-, rfl⟩ | ⟨j, j1, j2, rfl, j4⟩
  · cases hx
  · rw [List.mem_singleton.mp hx]
    have := tl_jop hs
    unfold az_ps
    omega
theorem tl_leadq {B : Int → Int} {D E a : Nat} {t t0 : hy_T} {p : Int} {m m0 : Nat} {g f0 : Nat → Int} {w : List Int} {sg : Int} (hs : sg = 38 ∨ sg = 124) {l : Int} {q : List Int} (h : tl_T B D E a t p m g (q ++ w)) (hq : tl_q D sg t m0 m g l q) (ha : a ≤ m0) (hg : tl_G D t0 t m0 f0 m g) : tl_T B D E a (lp_lead t l) p m (az_lan q m g) w ∧ tl_G D t0 (lp_lead t l) m0 f0 m (az_lan q m g) := by
  rcases hq with ⟨rfl, rfl⟩ | ⟨j, ⟨j0, j1⟩, rfl, rfl, j4, j5⟩
  · have e : lp_lead t (-1) = t := by
      unfold lp_lead
      rw [if_neg (by omega)]
    rw [e]
    exact ⟨h, hg⟩
  · have h1 := h.1.p1
    have hl := h.1.le
    have hj := tl_jop hs
    rw [az_lan1 (by omega) (by omega)]
    refine ⟨h.lead hs ⟨by omega, j1⟩ j4 j5, ?_⟩
    obtain ⟨g1, g2, g3⟩ := hg
    refine ⟨g1, fun i hi => ?_, fun i hi => ?_⟩
    · unfold su
      rw [if_neg (by omega)]
      exact g2 i hi
    · have e : lp_lead t ((j : Int) + D) = hy_up t 21 (j + D) (t 19 3) := by
        unfold lp_lead
        rw [if_pos (by have := h.1.de; omega), show ((j : Int) + D).toNat = j + D by omega]
      rw [e, hy_up_ne (by decide)]
      refine ⟨(g3 i hi).1, ?_⟩
      simp only [hy_up, true_and]
      rw [if_neg (by omega)]
      exact (g3 i hi).2
/-! where 'true or not' lies on the stack -/
def az_bo (f : Nat → Int) (a k : Nat) : Prop := a < k ∧ 7 ≤ f (k - 1) / 1048576 ∧ f (k - 1) / 1048576 ≤ 10
def az_bw (f : Nat → Int) (a m : Nat) (w : List Int) : Prop := ∀ j : Nat, a ≤ j → j < m → (f j / 1048576 ≤ 12 ∧ (10 ≤ f j / 1048576 → az_bo f a j)) ∧ (11 ≤ f j / 1048576 → ((1048576 * (f j / 1048576) + (j : Int)) ∈ w ∨ ((j < (f j % 1048576).toNat ∧ (f j % 1048576).toNat ≤ m) ∧ az_bo f a (f j % 1048576).toNat)))
theorem az_bo_eq {f g : Nat → Int} {a k : Nat} (h : az_bo f a k) (e : ∀ i, i + 1 = k → g i / 1048576 = f i / 1048576) : az_bo g a k := by
  obtain ⟨h1, h2, h3⟩ := h
  have := e (k - 1) (by omega)
  exact ⟨h1, by omega, by omega⟩
theorem az_lan_op {m : Nat} (hm : m < 1000) : ∀ (q : List Int) (f : Nat → Int) (i : Nat), az_lan q m f i / 1048576 = f i / 1048576
  | [], f, i => rfl
  | x :: q, f, i => by
    simp only [az_lan]
    rw [az_lan_op hm q _ i]
    unfold su
    split
    · next h => rw [h]; omega
    · rfl
theorem az_bo_lan {m : Nat} (hm : m < 1000) (q : List Int) {f : Nat → Int} {a k : Nat} (h : az_bo f a k) : az_bo (az_lan q m f) a k := az_bo_eq h (fun i _ => az_lan_op hm q f i)
theorem az_bw_mono {f : Nat → Int} {a m : Nat} {w w' : List Int} (h : az_bw f a m w) (hw : ∀ x, x ∈ w → x ∈ w') : az_bw f a m w' := fun j h1 h2 => by
  obtain ⟨x1, x2⟩ := h j h1 h2
  exact ⟨x1, fun q => (x2 q).elim (fun c => .inl (hw _ c)) .inr⟩
theorem az_bw_out {f : Nat → Int} {a m : Nat} {w : List Int} {y : Int} (hy : y = 10485760 ∨ y = 13631488) (hm : m < 1000) (h : az_bw f a m (y :: w)) : az_bw f a m w := fun j h1 h2 => by
  obtain ⟨x1, x2⟩ := h j h1 h2
  refine ⟨x1, fun q => (x2 q).elim (fun c => ?_) .inr⟩
  rcases List.mem_cons.mp c with c | c
  · exfalso
    have := x1.1
    omega
  · exact .inl c
theorem az_bw_note {f : Nat → Int} {a m : Nat} {w : List Int} (h : az_bw f a m w) {x : Int} (hx : x / 1048576 ≤ 9 ∨ (x / 1048576 = 10 ∧ az_bo f a m)) : az_bw (su f m x) a (m + 1) w := fun j h1 h2 => by
  have sp : ∀ k, k ≤ m → az_bo f a k → az_bo (su f m x) a k := fun k hk hb => az_bo_eq hb (fun i hi => by unfold su; rw [if_neg (by omega)])
  by_cases hj : j = m
  · have e : su f m x j = x := by unfold su; rw [if_pos hj]
    rw [e, hj]
    refine ⟨⟨by rcases hx with q | q <;> omega, fun q => ?_⟩, fun q => ?_⟩
    · rcases hx with q2 | q2
      · omega
      · exact sp m (Nat.le_refl _) q2.2
    · rcases hx with q2 | q2 <;> omega
  · have e : su f m x j = f j := by unfold su; rw [if_neg hj]
    rw [e]
    obtain ⟨⟨x1, x2⟩, x3⟩ := h j h1 (by omega)
    refine ⟨⟨x1, fun q => sp j (by omega) (x2 q)⟩, fun q => (x3 q).elim .inl (fun c => .inr ⟨⟨c.1.1, by omega⟩, sp _ c.1.2 c.2⟩)⟩
theorem az_bw_leap {f : Nat → Int} {a m : Nat} {w : List Int} (h : az_bw f a m w) (hb : az_bo f a m) {J : Int} (hJ : J = 11 ∨ J = 12) : az_bw (su f m (1048576 * J)) a (m + 1) ((1048576 * J + (m : Int)) :: w) := fun j h1 h2 => by
  have sp : ∀ k, k ≤ m → az_bo f a k → az_bo (su f m (1048576 * J)) a k := fun k hk hb => az_bo_eq hb (fun i hi => by unfold su; rw [if_neg (by omega)])
  by_cases hj : j = m
  · have e : su f m (1048576 * J) j = 1048576 * J := by unfold su; rw [if_pos hj]
    rw [e, hj]
    refine ⟨⟨by omega, fun q => sp m (Nat.le_refl _) hb⟩, fun q => .inl ?_⟩
    rw [show 1048576 * J / 1048576 = J by omega]
    exact List.mem_cons_self ..
  · have e : su f m (1048576 * J) j = f j := by unfold su; rw [if_neg hj]
    rw [e]
    obtain ⟨⟨x1, x2⟩, x3⟩ := h j h1 (by omega)
    refine ⟨⟨x1, fun q => sp j (by omega) (x2 q)⟩, fun q => (x3 q).elim (fun c => .inl (List.mem_cons_of_mem _ c)) (fun c => .inr ⟨⟨c.1.1, by omega⟩, sp _ c.1.2 c.2⟩)⟩
theorem az_bw_lead {f : Nat → Int} {a m : Nat} {w : List Int} {J : Int} {i : Nat} (h : az_bw f a m ((1048576 * J + (i : Int)) :: w)) (hm : m < 1000) (hb : az_bo f a m) (hJ : J = 11 ∨ J = 12) (hi : a ≤ i ∧ i < m) (hf : f i = 1048576 * J) : az_bw (su f i (1048576 * (f i / 1048576) + m)) a m w := fun j h1 h2 => by
  have op : ∀ k, su f i (1048576 * (f i / 1048576) + m) k / 1048576 = f k / 1048576 := fun k => by
    unfold su
    split
    · next q => rw [q]; omega
    · rfl
  have sp : ∀ k, az_bo f a k → az_bo (su f i (1048576 * (f i / 1048576) + m)) a k := fun k hb => az_bo_eq hb (fun _ _ => op _)
  obtain ⟨⟨x1, x2⟩, x3⟩ := h j h1 h2
  rw [op j]
  refine ⟨⟨x1, fun q => sp j (x2 q)⟩, fun q => ?_⟩
  by_cases hj : j = i
  · have e : su f i (1048576 * (f i / 1048576) + m) j = 1048576 * (f i / 1048576) + m := by unfold su; rw [if_pos hj]
    have e2 : ((1048576 * (f i / 1048576) + (m : Int)) % 1048576).toNat = m := by omega
    rw [e, e2]
    exact .inr ⟨⟨by omega, Nat.le_refl _⟩, sp m hb⟩
  · have e : su f i (1048576 * (f i / 1048576) + m) j = f j := by unfold su; rw [if_neg hj]
    rw [e]
    rcases x3 q with c | c
    · rcases List.mem_cons.mp c with c | c
      · exfalso
        have := x1
        omega
      · exact .inl c
    · exact .inr ⟨c.1, sp _ c.2⟩
theorem tl_cm_op {op arg x : Int} (h : tl_cm op arg x) : x / 1048576 ≤ 9 := by
  rcases h with ⟨-, h1, h2⟩ | ⟨-, h1, h2⟩ | ⟨h1, h2⟩
  · omega
  · omega
  · have := az_sgn_in h1
    omega
theorem az_bw_add {B : Int → Int} {D E' a : Nat} {t t' : hy_T} {p' : Int} {m m' : Nat} {f f' : Nat → Int} {w : List Int} (h : az_bw f a m w) (h2 : tl_S B D E' m t' p' m' f') (g : tl_G D t t' m f m' f') : az_bw f' a m' w := fun j h1 h3 => by
  obtain ⟨g1, g2, g3⟩ := g
  have sp : ∀ k, k ≤ m → az_bo f a k → az_bo f' a k := fun k hk hb => az_bo_eq hb (fun i hi => by rw [g2 i (by omega)])
  by_cases hl : j < m
  · rw [g2 j hl]
    obtain ⟨⟨x1, x2⟩, x3⟩ := h j h1 hl
    exact ⟨⟨x1, fun q => sp j (by omega) (x2 q)⟩, fun q => (x3 q).elim .inl (fun c => .inr ⟨⟨c.1.1, by omega⟩, sp _ c.1.2 c.2⟩)⟩
  · have := tl_cm_op (h2.cs j (by omega) h3)
    exact ⟨⟨by omega, fun q => by omega⟩, fun q => by omega⟩
/-- the state inside a condition, with where 'true or not' lies -/
def tl_V (B : Int → Int) (D E a : Nat) (t : hy_T) (p : Int) (m : Nat) (f : Nat → Int) (w : List Int) : Prop := tl_T B D E a t p m f w ∧ az_bw f a m w
theorem tl_V.m1 {B : Int → Int} {D E a : Nat} {t : hy_T} {p : Int} {m : Nat} {f : Nat → Int} {w : List Int} (h : tl_V B D E a t p m f w) : m < 1000 := by
  have h1 := h.1.1.p1
  have h2 := h.1.1.le
  omega
theorem tl_V.add {B : Int → Int} {D E E' a : Nat} {t t' : hy_T} {p p' : Int} {m m' : Nat} {f f' : Nat → Int} {w : List Int} (h : tl_V B D E a t p m f w) (h2 : tl_S B D E' m t' p' m' f') (g : tl_G D t t' m f m' f') : tl_V B D E' a t' p' m' f' w := ⟨h.1.add h2 g, az_bw_add h.2 h2 g⟩
theorem tl_V.mono {B : Int → Int} {D E a : Nat} {t : hy_T} {p : Int} {m : Nat} {f : Nat → Int} {w w' : List Int} (h : tl_V B D E a t p m f w) (hw : ∀ x, x ∈ w → x ∈ w') : tl_V B D E a t p m f w' := ⟨h.1.mono hw, az_bw_mono h.2 hw⟩
theorem tl_V.out {B : Int → Int} {D E a : Nat} {t : hy_T} {p : Int} {m : Nat} {f : Nat → Int} {w : List Int} {y : Int} (hy : y = 10485760 ∨ y = 13631488) (h : tl_V B D E a t p m f (y :: w)) : tl_V B D E a t p m f w :=
  ⟨h.1.out (by unfold az_lp; omega) (by have := h.m1; omega), az_bw_out hy h.m1 h.2⟩
theorem tl_leadV {B : Int → Int} {D E a : Nat} {t t0 : hy_T} {p : Int} {m m0 : Nat} {g f0 : Nat → Int} {w : List Int} {sg : Int} (hs : sg = 38 ∨ sg = 124) {l : Int} {q : List Int} (h : tl_V B D E a t p m g (q ++ w)) (hb : az_bo g a m) (hq : tl_q D sg t m0 m g l q) (ha : a ≤ m0) (hg : tl_G D t0 t m0 f0 m g) : tl_V B D E a (lp_lead t l) p m (az_lan q m g) w ∧ tl_G D t0 (lp_lead t l) m0 f0 m (az_lan q m g) := by
  obtain ⟨r1, r2⟩ := tl_leadq hs h.1 hq ha hg
  refine ⟨⟨r1, ?_⟩, r2⟩
  have hm := h.m1
  rcases hq with ⟨rfl, rfl⟩ | ⟨j, ⟨j0, j1⟩, rfl, rfl, j4, j5⟩
  · exact h.2
  · have hj := tl_jop hs
    rw [az_lan1 (by omega) (by omega)]
    exact az_bw_lead h.2 hm hb (by omega) ⟨by omega, j1⟩ j5
/-- behind a part of a condition: what waits is q on w; C of what comes, S of what waits -/
def tl_L (C S : Int → Prop) (B : Int → Int) (D E a : Nat) (t t' : hy_T) (G : Int ⊕ Zs) (p : Int) (m : Nat) (f : Nat → Int) (w : List Int) (o : Int) : Prop :=
  (t' 3 4 ≠ 0 ∧ G = .inl (t' 3 4)) ∨ ∃ (n' : Nat) (p' : Int) (m' : Nat) (f' : Nat → Int) (q : List Int), G = az_cond B n' false (p', m', f', q ++ w, o) ∧ ((∀ x, x ∈ q → S x) ∧ C (B p')) ∧ (tl_V B D E a t' p' m' (az_lan q m' f') w ∧ az_bo (az_lan q m' f') a m') ∧ (p < p' ∧ 600 ≤ n' + 2 * p') ∧ tl_G D t t' m f m' (az_lan q m' f') ∧ tl_H 1 16 m (az_lan q m' f') m'
abbrev az_h (lo : Int) (w : List Int) : Prop := ∃ x w', w = x :: w' ∧ lo ≤ x / 1048576 ∧ x / 1048576 ≤ 13
def tl_K (lo : Int) (C S : Int → Prop) (B : Int → Int) (D : Nat) (k : Nat) (F : hy_T → hy_T) : Prop := dd_good F ∧ ∀ (t : hy_T) (p : Int) (m : Nat) (f : Nat → Int) (w : List Int) (o : Int) (E a n : Nat), tl_V B D E a t p m f w → o = 6 - (k : Int) → az_h lo w → 600 ≤ n + 2 * p → tl_L C S B D E a t (F t) (az_cond B n true (p, m, f, w, o)) p m f w o
theorem dd_rb {sg : Int} (hs : 0 ≤ sg) (F : hy_T → hy_T) : ∀ (n : Nat) (l : Int) {t : hy_T}, t 3 4 ≠ 0 → rb_loop sg F n t l 3 4 = t 3 4
  | 0, l, t, h => dd_lead l t
  | n + 1, l, t, h => by
    simp only [rb_loop]
    rw [dd_next h, if_neg (by omega)]
    exact dd_lead l t
theorem az_hd_h {lo : Int} (hlo : 10 ≤ lo) {w : List Int} (h : az_h lo w) : az_hd w := fun x hx => by
  obtain ⟨y, w', rfl, h1, h2⟩ := h
  have : y = x := by simpa using hx
  omega
theorem tl_fin {B : Int → Int} {sg : Int} (hs : sg = 38 ∨ sg = 124) {C S : Int → Prop} (hS : ∀ x, S x → az_ps sg x) {D E a m0 : Nat} (ha : a ≤ m0) {w : List Int} {o p0 : Int} {t0 : hy_T} {f0 : Nat → Int} {n : Nat} {t : hy_T} {p : Int} {m : Nat} {f : Nat → Int} {q1 q : List Int} {l : Int}
    (hT : tl_V B D E a t p m (az_lan q1 m f) (q ++ w)) (hb : az_bo (az_lan q1 m f) a m) (hc : (∀ x, x ∈ q1 → S x) ∧ C (B p)) (hq : tl_q D sg t m0 m (az_lan q1 m f) l q) (hg : tl_G D t0 t m0 f0 m (az_lan q1 m f)) (hH : tl_H 1 16 m0 (az_lan q1 m f) m) (hp : p0 < p) (hn : 600 ≤ n + 2 * p) (hne : B p ≠ sg) : tl_L (fun c => C c ∧ c ≠ sg) (az_ps sg) B D E a t0 (lp_lead t l) (az_cond B n false (p, m, f, q1 ++ (q ++ w), o)) p0 m0 f0 w o := by
  obtain ⟨r1, r2⟩ := tl_leadV hs hT hb hq ha hg
  have h1 := hT.1.1.p1
  have hl := hT.1.1.le
  refine .inr ⟨n, p, m, f, q1 ++ q, by rw [List.append_assoc], ⟨fun x hx => ?_, hc.2, hne⟩, by rw [az_lan_app]; exact ⟨r1, az_bo_lan (by omega) q hb⟩, ⟨hp, hn⟩, by rw [az_lan_app]; exact r2, by rw [az_lan_app]; exact hH.cong (fun j _ => az_lan_op (by omega) q _ j)⟩
  rcases List.mem_append.mp hx with h | h
  · exact hS x (hc.1 x h)
  · exact hq.ps hs (by omega) x h
theorem tl_loop {B : Int → Int} (hB : az_by B) {sg : Int} (hs : sg = 38 ∨ sg = 124) {C S : Int → Prop} (hS : ∀ x, S x → az_ps sg x) {D k : Nat} {F : hy_T → hy_T} (hF : tl_K (az_jop sg) C S B D k F) {w : List Int} (hw : az_h (az_jop sg + 1) w) {o : Int} (ho : o = 6 - (k : Int)) {E a m0 : Nat} (ha : a ≤ m0) {p0 : Int} {t0 : hy_T} {f0 : Nat → Int} :
    ∀ (N n : Nat) {t : hy_T} {p : Int} {m : Nat} {f : Nat → Int} {q1 q : List Int} {l : Int}, (tl_V B D E a t p m (az_lan q1 m f) (q ++ w) ∧ az_bo (az_lan q1 m f) a m) → ((∀ x, x ∈ q1 → S x) ∧ C (B p)) → tl_q D sg t m0 m (az_lan q1 m f) l q → tl_G D t0 t m0 f0 m (az_lan q1 m f) → tl_H 1 16 m0 (az_lan q1 m f) m → p0 < p → 240 ≤ N + p → 600 ≤ n + 2 * p →
    tl_L (fun c => C c ∧ c ≠ sg) (az_ps sg) B D E a t0 (rb_loop sg F N t l) (az_cond B n false (p, m, f, q1 ++ (q ++ w), o)) p0 m0 f0 w o
  | 0, n, t, p, m, f, q1, q, l, ⟨hT, hbo⟩, hc, hq, hg, hH, hp, hN, hn => by
    have e : B p = -1 := (hB p).2.2 (by omega)
    exact tl_fin hs hS ha hT hbo hc hq hg hH hp hn (by omega)
  | N + 1, n, t, p, m, f, q1, q, l, ⟨hT, hbo⟩, hc, hq, hg, hH, hp, hN, hn => by
    have e := hT.1.1.next
    have hp1 := hT.1.1.p1
    have hle := hT.1.1.le
    have hj := tl_jop hs
    simp only [rb_loop]
    rw [e]
    by_cases hc2 : B p = sg
    · rw [if_pos hc2]
      have hsg0 : 0 ≤ B p := by omega
      obtain ⟨n1, rfl⟩ : ∃ x, n = x + 1 := ⟨n - 1, by omega⟩
      have T1 : tl_V B D (E + 1) a (tp_step t) (p + 1) m (az_lan q1 m f) (q ++ w) := hT.add (hT.1.1.step hB hsg0) (tl_G.same rfl rfl)
      have q' : tl_q D sg (tp_step t) m0 m (az_lan q1 m f) l q := hq
      have g1 : tl_G D t0 (tp_step t) m0 f0 m (az_lan q1 m f) := hg.tr (tl_G.same rfl rfl)
      obtain ⟨T2, g2⟩ := tl_leadV hs T1 hbo q' ha g1
      have c2 : lp_lead (tp_step t) l 19 3 = m + D := T2.1.1.cn
      obtain ⟨T3a, x20⟩ := T2.1.leap hs hT.1.1.de
      have T3 : tl_V B D E a (lp_emit (lp_lead (tp_step t) l) sg 0) (p + 1) (m + 1) (su (az_lan q m (az_lan q1 m f)) m (1048576 * az_jop sg)) ((1048576 * az_jop sg + (m : Int)) :: w) := ⟨T3a, az_bw_leap T2.2 (az_bo_lan (by omega) q hbo) (by omega)⟩
      have g3 := g2.tr (tl_G.emit T2.1.1.cn sg 0 (1048576 * az_jop sg))
      have hH3 : tl_H 0 16 m0 (su (az_lan q m (az_lan q1 m f)) m (1048576 * az_jop sg)) (m + 1) := (hH.cong (fun j _ => az_lan_op (by omega) q _ j)).note hg.1 (v := -1) (by unfold az_eff; rw [if_neg (by omega), if_neg (by omega)]) (by decide) (by decide) (by decide)
      obtain ⟨y, w', ew, y1, y2⟩ := hw
      have hwx : ∀ x, w.head? = some x → ¬ az_ps sg x := fun x hx => by
        rw [ew] at hx
        have : y = x := by simpa using hx
        unfold az_ps
        omega
      have eL : az_land (decide (sg = 124)) (q1 ++ (q ++ w)) m f = (w, az_lan q m (az_lan q1 m f)) := by
        rw [← List.append_assoc, az_land_ps hwx (q1 ++ q) m f (fun x hx => by
          rcases List.mem_append.mp hx with h | h
          · exact hS x (hc.1 x h)
          · exact hq.ps hs (by omega) x h), az_lan_app]
      have eG : az_cond B (n1 + 1) false (p, m, f, q1 ++ (q ++ w), o) = az_cond B n1 true (p + 1, m + 1, su (az_lan q m (az_lan q1 m f)) m (1048576 * az_jop sg), (1048576 * az_jop sg + (m : Int)) :: w, o) := by
        simp only [az_cond]
        rw [if_neg (show ¬ B p = 41 by omega), if_pos (show B p = 38 ∨ B p = 124 by omega)]
        unfold az_jump
        dsimp only
        rw [hc2, eL]
      rw [eG]
      have hb := hF.2 _ (p + 1) (m + 1) _ ((1048576 * az_jop sg + (m : Int)) :: w) o E a n1 T3 ho ⟨_, _, rfl, by omega, by omega⟩ (by omega)
      rcases hb with ⟨d1, d2⟩ | ⟨n2, p2, m2, f2, q2, u1, u2, u3, ⟨u4, u5⟩, u6, uh⟩
      · refine .inl ?_
        rw [dd_rb (by omega) F N _ d1]
        exact ⟨d1, d2⟩
      · rw [u1]
        have u7 := u6.1
        have hq2 : tl_q D sg (F (lp_emit (lp_lead (tp_step t) l) sg 0)) m0 m2 (az_lan q2 m2 f2) (lp_lead (tp_step t) l 19 3) [1048576 * az_jop sg + (m : Int)] :=
          .inr ⟨m, ⟨hg.1, by omega⟩, c2, rfl, ((u6.2.2 (m + D) (by omega)).1).trans x20, (u6.2.1 m (by omega)).trans (by unfold su; rw [if_pos rfl])⟩
        exact tl_loop hB hs hS hF ⟨y, w', ew, y1, y2⟩ ho ha N n2 (q := [1048576 * az_jop sg + (m : Int)]) u3 u2 hq2 (g3.tr u6) (hH3.tr uh g3.1 u7 u6.2.1 (by decide) (by decide) (by decide)) (by omega) (by omega) u5
    · rw [if_neg hc2]
      exact tl_fin hs hS ha hT hbo hc hq hg hH hp hn hc2
theorem tl_both {B : Int → Int} (hB : az_by B) {sg : Int} (hs : sg = 38 ∨ sg = 124) {C S : Int → Prop} (hS : ∀ x, S x → az_ps sg x) {D k : Nat} {F : hy_T → hy_T} (hF : tl_K (az_jop sg) C S B D k F) : tl_K (az_jop sg + 1) (fun c => C c ∧ c ≠ sg) (az_ps sg) B D k (rb_both sg F) :=
  ⟨dd_both (by omega) hF.1, fun t p m f w o E a n h ho hw hn => by
    have hp0 := h.1.1.p0
    have hw2 : az_h (az_jop sg) w := by
      obtain ⟨y, w', ew, y1, y2⟩ := hw
      exact ⟨y, w', ew, by omega, y2⟩
    unfold rb_both
    rcases hF.2 t p m f w o E a n h ho hw2 hn with ⟨d1, d2⟩ | ⟨n2, p2, m2, f2, q2, u1, u2, u3, ⟨u4, u5⟩, u6, uh⟩
    · refine .inl ?_
      rw [dd_rb (by omega) F 240 _ d1]
      exact ⟨d1, d2⟩
    · rw [u1]
      exact tl_loop hB hs hS hF hw ho h.1.2.1 240 n2 (q := []) (l := -1) u3 u2 (.inl ⟨rfl, rfl⟩) u6 uh u4 (by omega) u5⟩
/-- behind a piece of a condition: what az_ends makes of the place -/
def tl_P (B : Int → Int) (D E a : Nat) (t t' : hy_T) (G : Int ⊕ Zs) (p : Int) (m : Nat) (f : Nat → Int) (w : List Int) (o : Int) : Prop :=
  (t' 3 4 ≠ 0 ∧ G = .inl (t' 3 4)) ∨ ∃ (n' : Nat) (p' : Int) (m' : Nat) (f' : Nat → Int), G = az_cond B n' false (p', (az_ends w m' f' o).2.1, (az_ends w m' f' o).2.2.1, (az_ends w m' f' o).1, (az_ends w m' f' o).2.2.2) ∧ (tl_V B D E a t' p' m' f' w ∧ az_bo f' a m') ∧ (p < p' ∧ 600 ≤ n' + 2 * p') ∧ tl_G D t t' m f m' f' ∧ tl_H 1 16 m f' m'
def tl_PK (B : Int → Int) (D k : Nat) (F : hy_T → hy_T) : Prop := dd_good F ∧ ∀ (t : hy_T) (p : Int) (m : Nat) (f : Nat → Int) (w : List Int) (o : Int) (E a n : Nat), tl_V B D E a t p m f w → o = 6 - (k : Int) → az_h 10 w → 600 ≤ n + 2 * p → tl_P B D E a t (F t) (az_cond B n true (p, m, f, w, o)) p m f w o
theorem az_ends_h {w : List Int} (h : az_h 11 w) (m : Nat) (f : Nat → Int) (o : Int) : az_ends w m f o = (w, m, f, o) := by
  obtain ⟨y, w', rfl, h1, h2⟩ := h
  simp only [az_ends]
  rw [if_neg (by omega)]
theorem tl_PK.k {B : Int → Int} {D k : Nat} {F : hy_T → hy_T} (h : tl_PK B D k F) : tl_K 11 (fun _ => True) (fun _ => False) B D k F :=
  ⟨h.1, fun t p m f w o E a n h1 ho hw hn => by
    have hw2 : az_h 10 w := by
      obtain ⟨y, w', ew, y1, y2⟩ := hw
      exact ⟨y, w', ew, by omega, y2⟩
    rcases h.2 t p m f w o E a n h1 ho hw2 hn with d | ⟨n2, p2, m2, f2, u1, u2, u3, u4, uh⟩
    · exact .inl d
    · rw [az_ends_h hw] at u1
      exact .inr ⟨n2, p2, m2, f2, [], u1, ⟨fun x hx => (by cases hx), trivial⟩, u2, u3, u4, uh⟩⟩
abbrev tl_CE (c : Int) : Prop := (True ∧ c ≠ 38) ∧ c ≠ 124
theorem tl_eitherK {B : Int → Int} (hB : az_by B) {D k n : Nat} (h : tl_PK B D k (rp_lev n)) : tl_K 13 (fun c => tl_CE c) (az_ps 124) B D k (rp_either n) :=
  tl_both hB (.inr rfl) (fun x hx => hx.elim .inl (fun c => absurd c.1 (by decide))) (tl_both hB (.inl rfl) (fun x hx => hx.elim) h.k)
theorem tl_howc {c : Int} : rp_cmp c ↔ az_how c ≠ -1 := by
  unfold az_how
  constructor
  · intro h
    rcases h with rfl | rfl | rfl <;> decide
  · intro h
    by_cases h1 : c = 60
    · exact .inl h1
    · by_cases h2 : c = 62
      · exact .inr (.inl h2)
      · by_cases h3 : c = 61
        · exact .inr (.inr h3)
        · rw [if_neg h1, if_neg h2, if_neg h3] at h
          exact absurd rfl h
theorem tl_cmp {B : Int → Int} (hB : az_by B) {D E a : Nat} {k : Nat} (hk : k ≤ 6) {N : Option ((hy_T → hy_T) × (hy_T → hy_T))} {n : Nat} {t : hy_T} {p : Int} {m : Nat} {f : Nat → Int} {w : List Int} {o : Int} (h : tl_V B D E a t p m f w) (ho : o = 6 - (k : Int)) (hw : az_hd w) (hc : ¬ (B p = 33 ∨ B p = 40)) (hn : 600 ≤ (n + 1 : Nat) + 2 * p) : tl_P B D E a t (rp_piece (rx_sumL k) N t) (az_cond B (n + 1) true (p, m, f, w, o)) p m f w o := by
  have e := h.1.1.next
  have eG : az_cond B (n + 1) true (p, m, f, w, o) = match az_cmp B (p, m, f, w, o) with | .inl e => .inl e | .inr s1 => az_cond B n false s1 := by
    simp only [az_cond]
    rw [if_neg hc]
    rfl
  unfold rp_piece
  rw [e, if_neg hc, eG]
  unfold az_cmp
  rcases tl_rs hB hk h.1.1 ho hw with ⟨d1, d2⟩ | ⟨p1, m1, f1, u1, u2, u3, u4, uh⟩
  · rw [d2, dd_next d1, if_neg (by decide), dd_fail d1]
    exact .inl ⟨d1, rfl⟩
  · rw [u1]
    dsimp only
    have e1 := u2.next
    rw [e1]
    have h1 := h.add u2 u4
    by_cases hq : rp_cmp (B p1)
    · have hh := tl_howc.mp hq
      rw [if_pos hq, if_neg hh]
      have hb : 0 ≤ B p1 := by
        rcases hq with q | q | q <;> omega
      have s2 := (u2.step hB hb).emp
      rcases tl_rs hB hk s2 ho hw with ⟨d1, d2⟩ | ⟨p2, m2, f2, v1, v2, v3, v4, vh⟩
      · rw [d2]
        refine .inl ?_
        rw [dd_emit]
        exact ⟨d1, rfl⟩
      · rw [v1]
        dsimp only
        have T1 : tl_V B D (E + 1) a (tp_step (rx_sumL k t)) (p1 + 1) m1 f1 w := h1.add s2 (tl_G.same rfl rfl)
        have T2 := T1.add v2 v4
        have hw9 := az_how_in hh
        have T3 := T2.1.emit h.1.1.de (op := B p1) (arg := 0) (x := 1048576 * az_how (B p1)) (fun w' => .inl (.inr (.inl ⟨hh, rfl⟩)))
        have T4 : tl_V B D E a (lp_emit (rx_sumL k (tp_step (rx_sumL k t))) (B p1) 0) p2 (m2 + 1) (su f2 m2 (1048576 * az_how (B p1))) w := ⟨T3, az_bw_note T2.2 (.inl (by omega))⟩
        have bo : az_bo (su f2 m2 (1048576 * az_how (B p1))) a (m2 + 1) := by
          have e9 : su f2 m2 (1048576 * az_how (B p1)) (m2 + 1 - 1) = 1048576 * az_how (B p1) := by unfold su; rw [if_pos (by omega)]
          refine ⟨by have := T2.1.2.1; omega, ?_, ?_⟩
          · rw [e9]; omega
          · rw [e9]; omega
        exact .inr ⟨n, p2, m2 + 1, su f2 m2 (1048576 * az_how (B p1)), rfl, ⟨T4, bo⟩, ⟨by omega, by omega⟩, ((u4.tr (tl_G.same rfl rfl)).tr v4).tr (tl_G.emit v2.cn _ _ _), (uh.tr vh u4.1 v4.1 v4.2.1 (e := 2) (h := 16) (by decide) (by decide) (by decide)).note (Nat.le_trans u4.1 v4.1) (az_eff_b (by omega)) (by decide) (by decide) (by decide)⟩
    · rw [if_neg hq, if_pos (by refine Decidable.byContradiction (fun q => hq (tl_howc.mpr q)))]
      have := u2.fail (n := 1) (by decide)
      refine .inl ⟨this.2, ?_⟩
      rw [this.1]
      show Sum.inl (-1000 - p1) = Sum.inl (-1000 * 1 - p1)
      congr 1
theorem az_ends10 (w : List Int) (m : Nat) (f : Nat → Int) (o : Int) : az_ends (10485760 :: w) m f (o + 1) = az_ends w (m + 1) (su f m 10485760) o := by
  show (if (10485760 : Int) / 1048576 = 10 then _ else _) = _
  rw [if_pos (by decide), show o + 1 - 1 = o by omega]
/-- 'not' before a piece -/
theorem tl_not {B : Int → Int} (hB : az_by B) {D E a : Nat} {P E' : hy_T → hy_T} {S : hy_T → hy_T} {n : Nat} {t : hy_T} {p : Int} {m : Nat} {f : Nat → Int} {w : List Int} {o : Int} (h : tl_V B D E a t p m f w) (ho : o ≠ 6) (hc : B p = 33)
    (hP : tl_P B D (E + 1) a (tp_step t) (P (tp_step t)) (az_cond B n true (p + 1, m, f, 10485760 :: w, o + 1)) (p + 1) m f (10485760 :: w) (o + 1)) : tl_P B D E a t (rp_piece S (some (P, E')) t) (az_cond B (n + 1) true (p, m, f, w, o)) p m f w o := by
  have e := h.1.1.next
  have eo : az_open 10 (p, m, f, w, o) = .inr (p + 1, m, f, 10485760 :: w, o + 1) := if_neg (show ¬ o = 6 from ho)
  have eG : az_cond B (n + 1) true (p, m, f, w, o) = az_cond B n true (p + 1, m, f, 10485760 :: w, o + 1) := by
    simp only [az_cond]
    rw [if_pos (.inl hc), if_pos hc, eo]
  unfold rp_piece
  rw [e, if_pos (.inl hc), eG]
  dsimp only
  rw [if_pos hc]
  rcases hP with ⟨d1, d2⟩ | ⟨n', p', m', f', u1, ⟨u2, ub⟩, ⟨u3, u4⟩, u5, uh⟩
  · refine .inl ?_
    rw [dd_emit]
    exact ⟨d1, d2⟩
  · rw [u1, az_ends10]
    have hp1 := u2.1.1.p1
    have hle := u2.1.1.le
    have hlist : tl_V B D (E + 1) a (P (tp_step t)) p' m' f' w := u2.out (.inl rfl)
    have hl2 := hlist.1.emit h.1.1.de (op := 33) (arg := 0) (x := 10485760) (fun w' => .inl (.inr (.inr ⟨rfl, rfl⟩)))
    have bo : az_bo (su f' m' 10485760) a (m' + 1) := by
      have e9 : su f' m' 10485760 (m' + 1 - 1) = 10485760 := by unfold su; rw [if_pos (by omega)]
      refine ⟨by have := hlist.1.2.1; omega, ?_, ?_⟩
      · rw [e9]; decide
      · rw [e9]; decide
    have g0 : tl_G D t (tp_step t) m f m f := tl_G.same rfl rfl
    exact .inr ⟨n', p', m' + 1, su f' m' 10485760, rfl, ⟨⟨hl2, az_bw_note hlist.2 (.inr ⟨by decide, ub⟩)⟩, bo⟩, ⟨by omega, by omega⟩, (g0.tr u5).tr (tl_G.emit u2.1.1.cn _ _ _), uh.note u5.1 (v := 0) (by decide) (by decide) (by decide) (by decide)⟩
/-- a condition in brackets, as a piece -/
theorem tl_par {B : Int → Int} (hB : az_by B) {D E a : Nat} {P E' : hy_T → hy_T} {S : hy_T → hy_T} {n : Nat} {t : hy_T} {p : Int} {m : Nat} {f : Nat → Int} {w : List Int} {o : Int} (h : tl_V B D E a t p m f w) (ho : o ≠ 6) (hc : B p = 40) (hw : w ≠ [])
    (hE : tl_L (fun c => tl_CE c) (az_ps 124) B D (E + 1) a (tp_step t) (E' (tp_step t)) (az_cond B n true (p + 1, m, f, 13631488 :: w, o + 1)) (p + 1) m f (13631488 :: w) (o + 1)) : tl_P B D E a t (rp_piece S (some (P, E')) t) (az_cond B (n + 1) true (p, m, f, w, o)) p m f w o := by
  have e := h.1.1.next
  have eo : az_open 13 (p, m, f, w, o) = .inr (p + 1, m, f, 13631488 :: w, o + 1) := if_neg (show ¬ o = 6 from ho)
  have eG : az_cond B (n + 1) true (p, m, f, w, o) = az_cond B n true (p + 1, m, f, 13631488 :: w, o + 1) := by
    simp only [az_cond]
    rw [if_pos (.inr hc), if_neg (show ¬ B p = 33 by omega), eo]
  unfold rp_piece
  rw [e, if_pos (.inr hc), eG]
  dsimp only
  rw [if_neg (show ¬ B p = 33 by omega)]
  rcases hE with ⟨d1, d2⟩ | ⟨n', p', m', f', q, u1, ⟨u2, ⟨-, u3⟩, u4⟩, ⟨u5, ub⟩, ⟨u6, u7⟩, u8, uh⟩
  · rw [dd_take d1 (by decide)]
    exact .inl ⟨d1, d2⟩
  · have e2 := u5.1.1.next
    have hp1 := u5.1.1.p1
    have hle := u5.1.1.le
    rw [u1]
    obtain ⟨n'', rfl⟩ : ∃ x, n' = x + 1 := ⟨n' - 1, by omega⟩
    have el : az_land true (q ++ 13631488 :: w) m' f' = (13631488 :: w, az_lan q m' f') := az_land_lan (fun x hx => by
      have hx' : (13631488 : Int) = x := by simpa using hx
      unfold az_lp
      omega) q m' f' (fun x hx => (u2 x hx).elim .inl (fun c => .inr c.2))
    by_cases h41 : B p' = 41
    · have et : tp_take (E' (tp_step t)) 41 = tp_step (E' (tp_step t)) := by
        unfold tp_take
        rw [e2, if_pos h41]
        rfl
      have es : az_shut (p', m', f', q ++ 13631488 :: w, o + 1) = (p' + 1, m', az_lan q m' f', w, o) := by
        unfold az_shut
        dsimp only
        rw [el]
        dsimp only [List.tail_cons]
        rw [show o + 1 - 1 = o by omega]
      have T1 : tl_V B D (E + 1) a (tp_step (E' (tp_step t))) (p' + 1) m' (az_lan q m' f') w := (u5.out (.inr rfl)).add ((u5.1.1.step hB (by omega)).re (E + 1) (by omega) u5.1.1.de) (tl_G.same rfl rfl)
      rw [et]
      have g0 : tl_G D t (tp_step t) m f m f := tl_G.same rfl rfl
      refine .inr ⟨n'', p' + 1, m', az_lan q m' f', ?_, ⟨T1.add ((T1.1.1.re E (by have := T1.1.1.le; omega) h.1.1.de).emp) tl_G.rf, ub⟩, ⟨by omega, by omega⟩, (g0.tr u8).tr (tl_G.same rfl rfl), uh⟩
      simp only [az_cond]
      rw [if_pos h41, es, if_neg hw]
      rfl
    · have et : tp_take (E' (tp_step t)) 41 = tp_fail (E' (tp_step t)) 1 (E' (tp_step t) 3 3) := by
        unfold tp_take
        rw [e2, if_neg h41]
      rw [et]
      have := u5.1.1.fail (n := 1) (by decide)
      refine .inl ⟨this.2, ?_⟩
      simp only [az_cond]
      rw [if_neg h41, if_neg (fun c => c.elim u3 u4), this.1]
      show Sum.inl (-1000 - p') = Sum.inl (-1000 * 1 - p')
      congr 1
/-- a piece at every depth -/
theorem tl_lev {B : Int → Int} (hB : az_by B) {D : Nat} : ∀ k : Nat, k ≤ 6 → tl_PK B D k (rp_lev k)
  | 0, hk => ⟨dd_lev 0, fun t p m f w o E a n h ho hw hn => by
    have hp1 := h.1.1.p1
    obtain ⟨n1, rfl⟩ : ∃ x, n = x + 1 := ⟨n - 1, by omega⟩
    show tl_P B D E a t (rp_piece (rx_sumL 0) none t) _ p m f w o
    by_cases hc : B p = 33 ∨ B p = 40
    · have e := h.1.1.next
      unfold rp_piece
      rw [e, if_pos hc]
      have := h.1.1.fail (n := 5) (by decide)
      refine .inl ⟨this.2, ?_⟩
      have eo : ∀ what, az_open what (p, m, f, w, o) = .inl (-5000 - p) := fun what => if_pos (show o = 6 by omega)
      simp only [az_cond]
      rw [if_pos hc, eo, this.1]
      show Sum.inl (-5000 - p) = Sum.inl (-1000 * 5 - p)
      congr 1
    · exact tl_cmp hB hk h ho (az_hd_h (by decide) hw) hc hn⟩
  | k + 1, hk => ⟨dd_lev (k + 1), fun t p m f w o E a n h ho hw hn => by
    have hp1 := h.1.1.p1
    obtain ⟨n1, rfl⟩ : ∃ x, n = x + 1 := ⟨n - 1, by omega⟩
    have ih := tl_lev hB (D := D) k (by omega)
    show tl_P B D E a t (rp_piece (rx_sumL (k + 1)) (some (rp_lev k, rp_either k)) t) _ p m f w o
    by_cases hc : B p = 33
    · exact tl_not hB h (by omega) hc (ih.2 _ _ _ _ _ _ _ _ _ ((h.add (h.1.1.step hB (by omega)) (tl_G.same rfl rfl)).mono (fun x hx => List.mem_cons_of_mem _ hx)) (by omega) ⟨_, _, rfl, by decide, by decide⟩ (by omega))
    · by_cases hc2 : B p = 40
      · exact tl_par hB h (by omega) hc2 (by obtain ⟨y, w', rfl, -⟩ := hw; exact List.cons_ne_nil _ _) ((tl_eitherK hB ih).2 _ _ _ _ _ _ _ _ _ ((h.add (h.1.1.step hB (by omega)) (tl_G.same rfl rfl)).mono (fun x hx => List.mem_cons_of_mem _ hx)) (by omega) ⟨_, _, rfl, by decide, by decide⟩ (by omega))
      · exact tl_cmp hB hk h ho (az_hd_h (by decide) hw) (fun q => q.elim hc hc2) hn⟩
