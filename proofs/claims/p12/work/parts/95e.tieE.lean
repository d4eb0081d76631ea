/-! what the steps of the class and the codes of the model come to -/
theorem mc_dep {C : Nat → Int} {a b : Nat} {Dm : Nat → Nat} (h : mc_wfD C a b Dm) : ∀ n : Nat, a + n ≤ b → (Dm (a + n) : Int) = az_dep C a (a + n)
  | 0, hn => by
    have e : Dm a = 0 := by
      have := h.2.1
      rw [Int.toNat_natCast] at this
      exact this
    rw [Nat.add_zero, e, az_dep_a C a a (Nat.le_refl _)]
    rfl
  | n + 1, hn => by
    have ih := mc_dep h n (by omega)
    obtain ⟨c0, c1, c2, c3, c4⟩ := h.2.2.2 (a + n) (by omega) (by omega)
    rw [show a + (n + 1) = a + n + 1 by omega, az_dep_s C a (a + n) (by omega), ← ih]
    unfold az_eff
    by_cases z1 : C (a + n) / 1048576 = 0 ∨ C (a + n) / 1048576 = 1
    · rw [if_pos z1]
      have := (c1 z1).1
      omega
    · rw [if_neg z1]
      by_cases z2 : C (a + n) / 1048576 = 10
      · rw [if_pos z2]
        have := (c2 z2).2
        omega
      · rw [if_neg z2]
        by_cases z3 : C (a + n) / 1048576 = 11 ∨ C (a + n) / 1048576 = 12
        · have := (c3 z3).2.1
          omega
        · have := (c4 z1 z2 z3).2
          omega
theorem tl_sgnv {op : Int} (h : az_sgn op ≠ -1) : (op = 43 ∧ az_sgn op = 2) ∨ (op = 45 ∧ az_sgn op = 3) ∨ (op = 42 ∧ az_sgn op = 4) ∨ (op = 47 ∧ az_sgn op = 5) ∨ (op = 37 ∧ az_sgn op = 6) := by
  by_cases h1 : op = 43
  · subst h1; exact .inl ⟨rfl, rfl⟩
  · by_cases h2 : op = 45
    · subst h2; exact .inr (.inl ⟨rfl, rfl⟩)
    · by_cases h3 : op = 42
      · subst h3; exact .inr (.inr (.inl ⟨rfl, rfl⟩))
      · by_cases h4 : op = 47
        · subst h4; exact .inr (.inr (.inr (.inl ⟨rfl, rfl⟩)))
        · by_cases h5 : op = 37
          · subst h5; exact .inr (.inr (.inr (.inr ⟨rfl, rfl⟩)))
          · unfold az_sgn at h
            rw [if_neg h1, if_neg h2, if_neg h3, if_neg h4, if_neg h5] at h
            exact absurd rfl h
theorem tl_reck {op : Int} (h : az_sgn op ≠ -1) (l r : Int) (hr : ¬ (r = 0 ∧ (op = 47 ∨ op = 37))) : rc_reck l op r = mc_reck (az_sgn op) l r := by
  rcases tl_sgnv h with ⟨q1, q2⟩ | ⟨q1, q2⟩ | ⟨q1, q2⟩ | ⟨q1, q2⟩ | ⟨q1, q2⟩
  · rw [q2]
    unfold rc_reck mc_reck
    rw [if_neg (by omega), if_neg (by omega), if_pos q1, if_pos (by decide)]
  · rw [q2]
    unfold rc_reck mc_reck
    rw [if_neg (by omega), if_neg (by omega), if_neg (by omega), if_pos q1, if_neg (by decide), if_pos (by decide)]
  · rw [q2]
    unfold rc_reck mc_reck
    rw [if_neg (by omega), if_pos q1, if_neg (by decide), if_neg (by decide), if_pos (by decide)]
  · rw [q2]
    unfold rc_reck mc_reck
    rw [if_neg (by omega), if_neg (by omega), if_neg (by omega), if_neg (by omega), if_pos q1, if_neg (by omega), if_neg (by decide), if_neg (by decide), if_neg (by decide), if_pos (by decide)]
  · rw [q2]
    unfold rc_reck mc_reck
    rw [if_pos q1, if_neg (by omega), if_neg (by decide), if_neg (by decide), if_neg (by decide), if_neg (by decide), if_pos (by decide)]
theorem tl_howv {op : Int} (h : az_how op ≠ -1) : (op = 60 ∧ az_how op = 7) ∨ (op = 62 ∧ az_how op = 8) ∨ (op = 61 ∧ az_how op = 9) := by
  rcases tl_howc.mpr h with rfl | rfl | rfl
  · exact .inl ⟨rfl, rfl⟩
  · exact .inr (.inl ⟨rfl, rfl⟩)
  · exact .inr (.inr ⟨rfl, rfl⟩)
theorem b01 (p : Prop) [Decidable p] : 0 ≤ (if p then (1 : Int) else 0) ∧ (if p then (1 : Int) else 0) ≤ 1 := by
  split <;> omega
theorem tl_reck2 {op : Int} (h : az_how op ≠ -1) (l r : Int) : rc_reck l op r = mc_reck (az_how op) l r ∧ 0 ≤ rc_reck l op r ∧ rc_reck l op r ≤ 1 := by
  rcases tl_howv h with ⟨q1, q2⟩ | ⟨q1, q2⟩ | ⟨q1, q2⟩
  · have e : rc_reck l op r = if l < r then 1 else 0 := by
      unfold rc_reck
      rw [if_neg (by omega), if_neg (by omega), if_neg (by omega), if_neg (by omega), if_neg (by omega), if_pos q1]
    rw [e, q2]
    refine ⟨?_, b01 _⟩
    unfold mc_reck
    rw [if_neg (show ¬ (7 : Int) = 2 by decide), if_neg (show ¬ (7 : Int) = 3 by decide), if_neg (show ¬ (7 : Int) = 4 by decide), if_neg (show ¬ (7 : Int) = 5 by decide), if_neg (show ¬ (7 : Int) = 6 by decide), if_pos (show (7 : Int) = 7 by decide)]
  · have e : rc_reck l op r = if r < l then 1 else 0 := by
      unfold rc_reck
      rw [if_neg (by omega), if_neg (by omega), if_neg (by omega), if_neg (by omega), if_neg (by omega), if_neg (by omega), if_pos q1]
    rw [e, q2]
    refine ⟨?_, b01 _⟩
    unfold mc_reck
    rw [if_neg (show ¬ (8 : Int) = 2 by decide), if_neg (show ¬ (8 : Int) = 3 by decide), if_neg (show ¬ (8 : Int) = 4 by decide), if_neg (show ¬ (8 : Int) = 5 by decide), if_neg (show ¬ (8 : Int) = 6 by decide), if_neg (show ¬ (8 : Int) = 7 by decide), if_pos (show (8 : Int) = 8 by decide)]
  · have e : rc_reck l op r = if l = r then 1 else 0 := by
      unfold rc_reck
      rw [if_neg (by omega), if_neg (by omega), if_neg (by omega), if_neg (by omega), if_neg (by omega), if_neg (by omega), if_neg (by omega)]
    rw [e, q2]
    refine ⟨?_, b01 _⟩
    unfold mc_reck
    rw [if_neg (show ¬ (9 : Int) = 2 by decide), if_neg (show ¬ (9 : Int) = 3 by decide), if_neg (show ¬ (9 : Int) = 4 by decide), if_neg (show ¬ (9 : Int) = 5 by decide), if_neg (show ¬ (9 : Int) = 6 by decide), if_neg (show ¬ (9 : Int) = 7 by decide), if_neg (show ¬ (9 : Int) = 8 by decide)]
theorem w32_b {x : Int} (h : 0 ≤ x ∧ x ≤ 1) : w32 (1 - x) = 1 - x := by
  have : x = 0 ∨ x = 1 := by omega
  rcases this with rfl | rfl <;> rfl
theorem tl_run {ops args V V' C : Nat → Int} {steps : Int} {a b D : Nat} {Dm : Nat → Nat} (hw : mc_wfD C a b Dm) (hb : (b : Int) + D < steps) (hc : ∀ j : Nat, a ≤ j → j < b → tl_cc D [] j (ops (j + D)) (args (j + D)) (C j)) (he : ops (b + D) = 46) (hbw : az_bw C a b []) (hH : tl_H 1 16 a C b) (hV : ∀ j, j < 10 → V j = V' j) :
    ∀ (n N k z : Nat) (f : Nat → Int), a ≤ k → k ≤ b → b ≤ n + k → b ≤ N + k → Dm k = z → (az_bo C a k → 0 ≤ f (z - 1) ∧ f (z - 1) ≤ 1) → rc_run ops args V steps n ((k : Int) + D) z f = mc_run C V' b N k z f ∧ (az_bo C a b → 0 ≤ rc_run ops args V steps n ((k : Int) + D) z f ∧ rc_run ops args V steps n ((k : Int) + D) z f ≤ 1) := by
  have fin : ∀ (n N z : Nat) (f : Nat → Int), Dm b = z → (az_bo C a b → 0 ≤ f (z - 1) ∧ f (z - 1) ≤ 1) → rc_run ops args V steps n ((b : Int) + D) z f = mc_run C V' b N b z f ∧ (az_bo C a b → 0 ≤ rc_run ops args V steps n ((b : Int) + D) z f ∧ rc_run ops args V steps n ((b : Int) + D) z f ≤ 1) := fun n N z f hz hbo => by
    have hz1 : z = 1 := by
      have := hw.2.2.1
      rw [Int.toNat_natCast] at this
      omega
    have e1 : mc_run C V' b N b z f = f 0 := mc_stop (by omega)
    have e2 : rc_run ops args V steps n ((b : Int) + D) z f = f 0 := by
      have e3 : rc_end z f = f 0 := if_pos (by omega)
      cases n with
      | zero => exact e3
      | succ n => rw [rc_stop (fun q => q.2.2 (by rw [show ((b : Int) + D).toNat = b + D by omega]; exact he)), e3]
    rw [e1, e2]
    refine ⟨rfl, fun q => ?_⟩
    have := hbo q
    rw [hz1] at this
    exact this
  intro n
  induction n with
  | zero =>
    intro N k z f h1 h2 h3 h4 hz hbo
    obtain rfl : k = b := by omega
    exact fin 0 N z f hz hbo
  | succ n ih =>
    intro N k z f h1 h2 h3 h4 hz hbo
    by_cases hk : k = b
    · subst hk
      exact fin (n + 1) N z f hz hbo
    · obtain ⟨N1, rfl⟩ : ∃ x, N = x + 1 := ⟨N - 1, by omega⟩
      have hkb : k < b := by omega
      obtain ⟨c0, c1, c2, c3, c4⟩ := hw.2.2.2 k (by omega) (by omega)
      obtain ⟨⟨w1, w2⟩, w3⟩ := hbw k h1 hkb
      have hz16 : (Dm k : Int) ≤ 16 := by
        have e := mc_dep hw (k - a) (by omega)
        rw [show a + (k - a) = k by omega] at e
        rw [e]
        exact hH.2 k h1 h2
      have ek : ((k : Int) + D).toNat = k + D := by omega
      have ek2 : (k : Int).toNat = k := Int.toNat_natCast k
      have ekk : ((k : Int) + D + 1) = ((k + 1 : Nat) : Int) + D := by push_cast; omega
      have hkI : (k : Int) < b := by omega
      have nbo : ¬ (7 ≤ C k / 1048576 ∧ C k / 1048576 ≤ 10) → ¬ az_bo C a (k + 1) := fun q c => q ⟨c.2.1, c.2.2⟩
      -- one step alike
      have go : ∀ (z' : Nat) (f' : Nat → Int), ops (k + D) ≠ 46 → rc_step (ops (k + D)) (args (k + D)) V ((k : Int) + D + 1) z f = some ((k : Int) + D + 1, z', f') → mc_step (C k / 1048576) (C k % 1048576) V' ((k : Int) + 1) z f = some ((k : Int) + 1, z', f') → Dm (k + 1) = z' → (az_bo C a (k + 1) → 0 ≤ f' (z' - 1) ∧ f' (z' - 1) ≤ 1) → rc_run ops args V steps (n + 1) ((k : Int) + D) z f = mc_run C V' b (N1 + 1) k z f ∧ (az_bo C a b → 0 ≤ rc_run ops args V steps (n + 1) ((k : Int) + D) z f ∧ rc_run ops args V steps (n + 1) ((k : Int) + D) z f ≤ 1) := fun z' f' q1 q2 q3 q4 q5 => by
        have r1 := rc_go (n := n) (steps := steps) (a := (k : Int) + D) ⟨by omega, by omega, by rw [ek]; exact q1⟩ (by rw [ek]; exact q2)
        have r2 := mc_go (m := N1) (b := b) hkI (by rw [ek2]; exact q3)
        rw [r1, r2, ekk]
        have := ih N1 (k + 1) z' f' (by omega) (by omega) (by omega) (by omega) q4 q5
        exact this
      have no : ops (k + D) ≠ 46 → rc_step (ops (k + D)) (args (k + D)) V ((k : Int) + D + 1) z f = none → mc_step (C k / 1048576) (C k % 1048576) V' ((k : Int) + 1) z f = none → rc_run ops args V steps (n + 1) ((k : Int) + D) z f = mc_run C V' b (N1 + 1) k z f ∧ (az_bo C a b → 0 ≤ rc_run ops args V steps (n + 1) ((k : Int) + D) z f ∧ rc_run ops args V steps (n + 1) ((k : Int) + D) z f ≤ 1) := fun q1 q2 q3 => by
        have r1 := rc_no (n := n) (steps := steps) (a := (k : Int) + D) ⟨by omega, by omega, by rw [ek]; exact q1⟩ (by rw [ek]; exact q2)
        have r2 := mc_no (m := N1) (b := b) hkI (by rw [ek2]; exact q3)
        rw [r1, r2]
        exact ⟨rfl, fun _ => by decide⟩
      rcases hc k h1 hkb with ((⟨o1, o2, o3, o4⟩ | ⟨o1, o2, o3, o4⟩ | ⟨o1, o2⟩) | ⟨o1, o2⟩ | ⟨o1, o2⟩) | ⟨o1, ⟨o2, o3, o4⟩ | ⟨-, o2⟩⟩
      · -- a number
        have e1 : C k / 1048576 = 0 := by omega
        have e2 : C k % 1048576 = args (k + D) := by omega
        refine go (z + 1) (su f z (args (k + D))) (by omega) ?_ ?_ (by have := (c1 (.inl e1)).1; omega) (fun c => absurd c (nbo (by omega)))
        · unfold rc_step
          rw [if_pos (.inl o1), if_pos ⟨by omega, .inl o1⟩, if_pos o1]
        · unfold mc_step
          rw [if_pos (.inl e1), if_pos e1, e2]
      · -- a letter
        have e1 : C k / 1048576 = 1 := by omega
        have e2 : C k % 1048576 = args (k + D) := by omega
        refine go (z + 1) (su f z (V (args (k + D)).toNat)) (by omega) ?_ ?_ (by have := (c1 (.inr e1)).1; omega) (fun c => absurd c (nbo (by omega)))
        · unfold rc_step
          rw [if_pos (.inr o1), if_pos ⟨by omega, .inr o4⟩, if_neg (by omega)]
        · unfold mc_step
          rw [if_pos (.inr e1), if_neg (by omega), e2, hV _ (by omega)]
      · -- + - * / %
        have hg := az_sgn_in o1
        have hs := tl_sgnv o1
        have e1 : C k / 1048576 = az_sgn (ops (k + D)) := by omega
        obtain ⟨d1, d2⟩ := c4 (by omega) (by omega) (by omega)
        have hstep : ¬ (ops (k + D) = 48 ∨ ops (k + D) = 97) := by omega
        by_cases hr : f (z - 1) = 0 ∧ (ops (k + D) = 47 ∨ ops (k + D) = 37)
        · refine no (by omega) ?_ ?_
          · unfold rc_step
            rw [if_neg hstep, if_neg (by omega), if_neg (by omega), if_neg (by omega), if_pos (.inr hr)]
          · unfold mc_step
            rw [if_neg (by omega), if_neg (by omega), if_neg (by omega), if_pos ⟨by omega, hr.1⟩]
        · refine go (z - 1) (su f (z - 2) (rc_reck (f (z - 2)) (ops (k + D)) (f (z - 1)))) (by omega) ?_ ?_ (by omega) (fun c => absurd c (nbo (by omega)))
          · unfold rc_step
            rw [if_neg hstep, if_neg (by omega), if_neg (by omega), if_neg (by omega), if_neg (by omega)]
          · unfold mc_step
            rw [if_neg (by omega), if_neg (by omega), if_neg (by omega), if_neg (by omega), tl_reck o1 _ _ hr, e1]
      · -- < > =
        have hg := az_how_in o1
        have hs := tl_howc.mpr o1
        have e1 : C k / 1048576 = az_how (ops (k + D)) := by omega
        obtain ⟨d1, d2⟩ := c4 (by omega) (by omega) (by omega)
        obtain ⟨x1, x2⟩ := tl_reck2 o1 (f (z - 2)) (f (z - 1))
        refine go (z - 1) (su f (z - 2) (rc_reck (f (z - 2)) (ops (k + D)) (f (z - 1)))) (by omega) ?_ ?_ (by omega) (fun _ => ?_)
        · unfold rc_step
          rw [if_neg (by omega), if_neg (by omega), if_neg (by omega), if_neg (by omega), if_neg (by omega)]
        · unfold mc_step
          rw [if_neg (by omega), if_neg (by omega), if_neg (by omega), if_neg (by omega), x1, e1]
        · have e9 : su f (z - 2) (rc_reck (f (z - 2)) (ops (k + D)) (f (z - 1))) (z - 1 - 1) = rc_reck (f (z - 2)) (ops (k + D)) (f (z - 1)) := by
            unfold su
            rw [if_pos (by omega)]
          rw [e9]
          exact x2
      · -- not
        have e1 : C k / 1048576 = 10 := by omega
        obtain ⟨d1, d2⟩ := c2 e1
        have hx := hbo (w2 (by omega))
        refine go z (su f (z - 1) (w32 (1 - f (z - 1)))) (by omega) ?_ ?_ (by omega) (fun _ => ?_)
        · unfold rc_step
          rw [if_neg (by omega), if_neg (by omega), if_pos o1]
        · unfold mc_step
          rw [if_neg (by omega), if_pos e1]
        · have e9 : su f (z - 1) (w32 (1 - f (z - 1))) (z - 1) = 1 - f (z - 1) := by
            unfold su
            rw [if_pos rfl, w32_b hx]
          rw [e9]
          omega
      · -- a leap
        have hj := tl_jop o1
        have e1 : C k / 1048576 = az_jop (ops (k + D)) := by omega
        have e2 : C k % 1048576 = args (k + D) - D := by omega
        obtain ⟨d1, d2, d3, d4, d5⟩ := c3 (by omega)
        have hx := hbo (w2 (by omega))
        by_cases hl : (f (z - 1) ≠ 0 ∧ ops (k + D) = 124) ∨ (f (z - 1) = 0 ∧ ops (k + D) = 38)
        · have q1 : rc_step (ops (k + D)) (args (k + D)) V ((k : Int) + D + 1) z f = some (args (k + D), z, f) := by
            unfold rc_step
            rw [if_neg (by omega), if_neg (by omega), if_neg (by omega), if_pos (by omega), if_pos hl]
          have q2 : mc_step (C k / 1048576) (C k % 1048576) V' ((k : Int) + 1) z f = some (C k % 1048576, z, f) := by
            unfold mc_step
            rw [if_neg (by omega), if_neg (by omega), if_pos (by omega), if_pos (by omega)]
          have n46 : ops (k + D) ≠ 46 := by omega
          have r1 := rc_go (n := n) (steps := steps) (a := (k : Int) + D) ⟨by omega, by omega, by rw [ek]; exact n46⟩ (by rw [ek]; exact q1)
          have r2 := mc_go (m := N1) (b := b) hkI (by rw [ek2]; exact q2)
          have hv : C k % 1048576 = ((C k % 1048576).toNat : Int) := by omega
          have ha : args (k + D) = ((C k % 1048576).toNat : Int) + D := by omega
          rw [r1, r2, ha]
          have := ih N1 (C k % 1048576).toNat z f (by omega) (by omega) (by omega) (by omega) (by omega) (fun _ => hx)
          rw [← hv] at this ⊢
          exact this
        · refine go (z - 1) f (by omega) ?_ ?_ (by omega) (fun c => absurd c (nbo (by omega)))
          · unfold rc_step
            rw [if_neg (by omega), if_neg (by omega), if_neg (by omega), if_pos (by omega), if_neg hl]
          · unfold mc_step
            rw [if_neg (by omega), if_neg (by omega), if_pos (by omega), if_neg (by omega)]
      · cases o2
