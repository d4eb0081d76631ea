/-! days that go by, on both sides -/
theorem bc_bits : ∀ n : Nat, n < 64 → sp_bc (n : Int) = mf_bitsN (n : Int) 12 := by decide +kernel
theorem bc_bits' {x : Int} (h : 0 ≤ x ∧ x ≤ 63) : sp_bc x = mf_bitsN x 12 := by
  have := bc_bits x.toNat (by omega)
  rw [show ((x.toNat : Nat) : Int) = x by omega] at this
  exact this
theorem hv_or : ∀ x : Fin 64, ∀ e : Fin 6, 0 ≤ hz_ior (x.val : Int) (hz_ishl 1 (e.val : Int)) ∧ hz_ior (x.val : Int) (hz_ishl 1 (e.val : Int)) ≤ 63 := by decide +kernel
theorem hv_or' {x e : Int} (h : 0 ≤ x ∧ x ≤ 63) (he : 0 ≤ e ∧ e < 6) : 0 ≤ hz_ior x (hz_ishl 1 e) ∧ hz_ior x (hz_ishl 1 e) ≤ 63 := by
  have := hv_or ⟨x.toNat, by omega⟩ ⟨e.toNat, by omega⟩
  dsimp only at this
  rw [show ((x.toNat : Nat) : Int) = x by omega, show ((e.toNat : Nat) : Int) = e by omega] at this
  exact this
theorem hv_and {x m : Int} (h : 0 ≤ x ∧ x ≤ 63) : 0 ≤ hz_iand x m ∧ hz_iand x m ≤ 63 := by
  have := hz_iand_lel (x := x) (m := m) (by omega)
  omega
theorem draw_eq {x : Int} (h : 0 ≤ x ∧ x ≤ 65535) : sp_draw x = (25173 * x + 13849) % 65536 := by
  unfold sp_draw
  rw [hz_iand_n (by omega) (by decide)]
  have e : (65535 : Int).toNat = 2 ^ 16 - 1 := by decide
  rw [e, Nat.and_two_pow_sub_one_eq_mod]
  omega
theorem sp_shift_r (b : Nat) : ∀ (n a : Nat) (t : hy_T) (r j : Nat), r ≠ b + 3 → sp_shift b t a n r j = t r j
  | 0, a, t, r, j, h => rfl
  | n + 1, a, t, r, j, h => by
    simp only [sp_shift]
    rw [sp_shift_r b n (a + 1) _ r j h, hy_up_ne (by omega)]
theorem sp_shift_v (b : Nat) : ∀ (n a : Nat) (t : hy_T) (j : Nat), sp_shift b t a n (b + 3) j = if a ≤ j ∧ j < a + n then t (b + 3) (j + 6) else t (b + 3) j
  | 0, a, t, j => by
    rw [if_neg (by omega)]
    rfl
  | n + 1, a, t, j => by
    simp only [sp_shift]
    rw [sp_shift_v b n (a + 1)]
    simp only [hy_up, true_and]
    by_cases h1 : a + 1 ≤ j ∧ j < a + 1 + n
    · rw [if_pos h1, if_neg (by omega), if_pos (by omega)]
    · rw [if_neg h1]
      by_cases h2 : j = a
      · rw [if_pos h2, if_pos (by omega), h2]
      · rw [if_neg h2, if_neg (by omega)]
theorem me_shN_v : ∀ (n k : Nat) (t : hy_T) (w j : Nat), w < 6 → me_shN n k t (85 + w) j = if k ≤ j ∧ j < k + n then t (85 + w) (j + 1) else t (85 + w) j
  | 0, k, t, w, j, hw => by
    rw [if_neg (by omega)]
    rfl
  | n + 1, k, t, w, j, hw => by
    simp only [me_shN]
    rw [me_shN_v n (k + 1) _ w j hw, me_sh1_v t k (by omega) (by omega), me_sh1_v t k (by omega) (by omega)]
    by_cases h1 : k + 1 ≤ j ∧ j < k + 1 + n
    · rw [if_pos h1, if_neg (by omega), if_pos (by omega)]
    · rw [if_neg h1]
      by_cases h2 : j = k
      · rw [if_pos h2, if_pos (by omega), h2]
      · rw [if_neg h2, if_neg (by omega)]
theorem me_sh1_r (t : hy_T) (k r j : Nat) (h : r < 85 ∨ 90 < r) : me_sh1 t k r j = t r j := by
  unfold me_sh1
  rw [hy_up_ne (by omega), hy_up_ne (by omega), hy_up_ne (by omega), hy_up_ne (by omega), hy_up_ne (by omega), hy_up_ne (by omega)]
theorem me_shN_r : ∀ (n k : Nat) (t : hy_T) (r j : Nat), (r < 85 ∨ 90 < r) → me_shN n k t r j = t r j
  | 0, k, t, r, j, h => rfl
  | n + 1, k, t, r, j, h => by
    simp only [me_shN]
    rw [me_shN_r n (k + 1) _ r j h, me_sh1_r t k r j h]
/-- the bounds of what empires have, and that treaties speak of plain colours -/
def fh (u : hy_T) : Prop := ∀ j : Nat, j < 48 → (0 ≤ u 62 j ∧ u 62 j ≤ 63) ∧ (mf_plain u ((j / 4 : Nat) : Int) = false → u 62 j = 0)
def ft (u : hy_T) : Prop := ∀ i : Nat, (i : Int) < u 59 34 → mf_plain u (u 85 i) = true
def fd_L (t u : hy_T) : Prop := ∀ V V' : Nat → Int, (∀ j, j < 10 → V j = V' j) → mb_amt u V' 98 10 = lc_amt t V 98 10
def fd_S (b : Nat) (t u : hy_T) : Prop := fs_S b t u ∧ (t b 6 = u 59 59 ∧ t b 7 = u 59 60) ∧ (t b 6 = -2 ↔ u 59 58 = 0)
def fd_A (b : Nat) (t u : hy_T) : Prop := fd_S b t u ∧ (md_ok u ∧ fd_L t u) ∧ fh u ∧ ft u
theorem mf_plain_F {t t1 : hy_T} (h0 : t1 59 0 = t 59 0) (h6 : ∀ j, t1 60 j = t 60 j) (c : Int) : mf_plain t1 c = mf_plain t c := by
  unfold mf_plain
  rw [h0, h6]
theorem mixed_plain {u : hy_T} {c : Int} (h : mf_plain u c = true) : mf_mixed u c = false := by
  unfold mf_plain at h
  unfold mf_mixed
  revert h
  cases sp_told (u 59 0) c
  · simp
  · simp only [Bool.true_and, decide_eq_true_eq]
    intro h
    rw [h]
    decide
theorem fd_chance {b : Nat} {t u : hy_T} (h : fd_A b t u) {i : Nat} (hi : (i : Int) < t b 3) : sp_chance b t i = mb_br u i := by
  obtain ⟨⟨⟨⟨⟨s1, s2, s3⟩, s4, s5⟩, s6, s7⟩, -⟩, ⟨⟨k1, -⟩, hL⟩, hh, ht⟩ := h
  have hr := k1.2.2.2 i (by omega)
  obtain ⟨w1, w2, w3, w4, w5⟩ := hr
  have p : ∀ w : Nat, w < 6 → sp_part b t i w = u (85 + w) i := fun w hw => by
    unfold sp_part
    rw [if_pos (by omega), show (6 * (i : Int) + (w : Int)).toNat = 6 * i + w by omega]
    exact s7 i w hi hw
  have p0 : sp_part b t i 0 = u 85 i := p 0 (by decide)
  have p1 : sp_part b t i 1 = u 86 i := p 1 (by decide)
  have p2 : sp_part b t i 2 = u 87 i := p 2 (by decide)
  have p5 : sp_part b t i 5 = u 90 i := p 5 (by decide)
  have hlow := lw_in' w2
  unfold sp_chance mb_br
  rw [p0, p1, p2, p5, s4]
  refine (hL _ _ (fun j hj => ?_)).symm
  unfold mq_V
  rw [mixed_plain (ht i (by omega)), if_neg (by decide)]
  have eb : sp_bc (sp_hav (t (b + 1)) (u 85 i) (sp_lowN (u 86 i) 4 0)) = mf_bitsN (u 62 (4 * u 85 i + sp_lowN (u 86 i) 4 0).toNat) 12 := by
    unfold sp_hav
    rw [if_pos ⟨w1, hlow⟩, s6 _ (by omega)]
    exact bc_bits' (hh _ (by omega)).1
  rw [eb]
  rfl
theorem fd_x {b : Nat} (hb : b = 33 ∨ b = 41) {t u : hy_T} (h : fd_A b t u) : fd_A b (hy_up t b 5 (sp_draw (t b 5))) (md_x u) := by
  obtain ⟨⟨⟨⟨⟨s1, s2, s3⟩, s4, s5⟩, s6, s7⟩, s8, s9⟩, ⟨⟨k1, k2⟩, hL⟩, hh, ht⟩ := h
  have x1 := (md_x_s k1).1
  have cb : ∀ j, j ≠ 5 → hy_up t b 5 (sp_draw (t b 5)) b j = t b j := fun j hj => by simp [hy_up, hj]
  have mb : ∀ j, j ≠ 1 → md_x u 59 j = u 59 j := fun j hj => by simp [md_x, hy_up, hj]
  have mr : ∀ r j, r ≠ 59 → md_x u r j = u r j := fun r j hr => by unfold md_x; rw [hy_up_ne (by omega)]
  refine ⟨⟨⟨⟨⟨?_, ?_, ?_⟩, ?_, ?_⟩, fun j hj => ?_, fun i w hi hw => ?_⟩, ⟨?_, ?_⟩, ?_⟩, ⟨⟨x1, by rw [mb 58 (by decide), mb 34 (by decide)]; exact k2⟩, fun V V' hV => ?_⟩, fun j hj => ?_, fun i hi => ?_⟩
  · rw [cb 3 (by decide), mb 34 (by decide)]; exact s1
  · rw [cb 3 (by decide)]; exact s2
  · rw [cb 3 (by decide)]; exact s3
  · rw [cb 4 (by decide), mb 2 (by decide)]; exact s4
  · show hy_up t b 5 (sp_draw (t b 5)) b 5 = (25173 * u 59 1 + 13849) % 65536
    rw [show hy_up t b 5 (sp_draw (t b 5)) b 5 = sp_draw (t b 5) by simp [hy_up], draw_eq (by rw [s5]; exact k1.2.2.1), s5]
  · rw [hy_up_ne (by omega), mr 62 j (by decide)]; exact s6 j hj
  · rw [hy_up_ne (by omega), mr _ i (by omega)]
    rw [cb 3 (by decide)] at hi
    exact s7 i w hi hw
  · rw [cb 6 (by decide), mb 59 (by decide)]; exact s8.1
  · rw [cb 7 (by decide), mb 60 (by decide)]; exact s8.2
  · rw [cb 6 (by decide), mb 58 (by decide)]; exact s9
  · have F : hy_F (fun r j => r == b && j == 5) t (hy_up t b 5 (sp_draw (t b 5))) := hy_F.rf.up (by simp)
    have G : hy_F (fun r j => r == 59 && j == 1) u (md_x u) := hy_F.rf.up rfl
    rw [lc_same_amt (lc_same_of F (fun r j q => by revert q; simp only [lawX, Bool.or_eq_true, Bool.and_eq_true, beq_iff_eq, Bool.and_eq_false_iff, beq_eq_false_iff_ne]; omega)), mb_amt_F G (fun r j q => by revert q; simp only [mlawX, Bool.or_eq_true, Bool.and_eq_true, beq_iff_eq, Bool.and_eq_false_iff, beq_eq_false_iff_ne]; omega)]
    exact hL V V' hV
  · rw [mf_plain_F (mb 0 (by decide)) (fun j => mr 60 j (by decide)), mr 62 j (by decide)]; exact hh j hj
  · rw [mf_plain_F (mb 0 (by decide)) (fun j => mr 60 j (by decide)), mr 85 i (by decide)]
    rw [mb 34 (by decide)] at hi
    exact ht i hi
theorem fd_end {b : Nat} (hb : b = 33 ∨ b = 41) {t u : hy_T} (h : fd_A b t u) {i : Nat} (hi : (i : Int) < t b 3) : fd_A b (sp_broken b t i) (me_end u i) ∧ sp_broken b t i b 3 = t b 3 - 1 := by
  obtain ⟨⟨⟨⟨⟨s1, s2, s3⟩, s4, s5⟩, s6, s7⟩, ⟨s8, s8b⟩, s9⟩, ⟨⟨k1, k2, k3⟩, hL⟩, hh, ht⟩ := h
  have hiu : (i : Int) < u 59 34 := by omega
  obtain ⟨w1, w2, w3, w4, w5⟩ := k1.2.2.2 i hiu
  obtain ⟨m1, m2, m3, m4⟩ := me_end_s k1 hiu ⟨k2, by omega⟩
  have hpl := ht i hiu
  -- the class
  have cf : ∀ r j, ¬ (r = b ∧ (j = 6 ∨ j = 7)) → sp_first b t i r j = t r j := fun r j hr => sp_first_G b t i r j (by
    simp only [Bool.and_eq_false_iff, Bool.or_eq_false_iff, beq_eq_false_iff_ne]
    omega)
  have p : ∀ w : Nat, w < 6 → sp_part b (sp_first b t i) i w = u (85 + w) i := fun w hw => by
    unfold sp_part
    rw [cf b 3 (by omega), if_pos (by omega), show (6 * (i : Int) + (w : Int)).toNat = 6 * i + w by omega, cf (b + 3) _ (by omega)]
    exact s7 i w hi hw
  have p0 : sp_part b (sp_first b t i) i 0 = u 85 i := p 0 (by decide)
  have p1 : sp_part b (sp_first b t i) i 1 = u 86 i := p 1 (by decide)
  have p2 : sp_part b (sp_first b t i) i 2 = u 87 i := p 2 (by decide)
  have p3 : sp_part b (sp_first b t i) i 3 = u 88 i := p 3 (by decide)
  have eb : sp_broken b t i = hy_up (sp_shift b (sp_moveN b (sp_first b t i) (u 85 i) (u 86 i) (u 88 i) (u 87 i) 4) (6 * (i : Int)).toNat (6 * (t b 3 - 1) - 6 * (i : Int)).toNat) b 3 (t b 3 - 1) := by
    unfold sp_broken
    dsimp only
    rw [p0, p1, p2, p3]
  have mvr : ∀ r j, r ≠ b + 1 → sp_moveN b (sp_first b t i) (u 85 i) (u 86 i) (u 88 i) (u 87 i) 4 r j = sp_first b t i r j := fun r j hr => sp_moveN_F b _ _ _ _ _ 4 r j (by simpa using hr)
  have cb : ∀ j, j ≠ 3 → sp_broken b t i b j = sp_first b t i b j := fun j hj => by
    rw [eb, show ∀ T : hy_T, hy_up T b 3 (t b 3 - 1) b j = T b j from fun T => by simp [hy_up, hj], sp_shift_r b _ _ _ b j (by omega), mvr b j (by omega)]
  have cb3 : sp_broken b t i b 3 = t b 3 - 1 := by rw [eb]; simp [hy_up]
  have c1 : ∀ j, sp_broken b t i (b + 1) j = if fs_in (u 85 i) (u 86 i) 4 j then hz_ior (hz_iand (t (b + 1) j) (hz_ixor (hz_ishl 1 (u 88 i)) (-1))) (hz_ishl 1 (u 87 i)) else t (b + 1) j := fun j => by
    rw [eb, hy_up_ne (by omega), sp_shift_r b _ _ _ (b + 1) j (by omega), mv_v b _ w1 4 (by decide) j, cf (b + 1) j (by omega), if_neg (show ¬ u 88 i = -1 by omega)]
  have c3 : ∀ j, sp_broken b t i (b + 3) j = if 6 * i ≤ j ∧ (j : Int) < 6 * (t b 3 - 1) then t (b + 3) (j + 6) else t (b + 3) j := fun j => by
    rw [eb, hy_up_ne (by omega), sp_shift_v, mvr (b + 3) _ (by omega), mvr (b + 3) _ (by omega), cf (b + 3) _ (by omega), cf (b + 3) _ (by omega)]
    by_cases hj : 6 * i ≤ j ∧ (j : Int) < 6 * (t b 3 - 1)
    · rw [if_pos hj, if_pos (by omega)]
    · rw [if_neg hj, if_neg (by omega)]
  -- the model
  have e0r : ∀ r j, ¬ (r = 59 ∧ (j = 58 ∨ j = 59 ∨ j = 60)) → me_e1 u i r j = u r j := fun r j hr => me_e1_F u i r j (by
    simp only [Bool.and_eq_false_iff, Bool.or_eq_false_iff, beq_eq_false_iff_ne]
    omega)
  have e2r : ∀ r j, r ≠ 62 → me_e2 (me_e1 u i) i r j = me_e1 u i r j := fun r j hr => by unfold me_e2; exact ch_r _ _ _ _ _ 4 r j hr
  have e3r : ∀ r j, r ≠ 62 → me_e3 (me_e2 (me_e1 u i) i) i r j = me_e1 u i r j := fun r j hr => by
    unfold me_e3
    rw [ch_r _ _ _ _ _ 4 r j hr]
    exact e2r r j hr
  have mr : ∀ r j, (r < 85 ∨ 90 < r) → r ≠ 62 → r ≠ 59 → me_end u i r j = u r j := fun r j h1 h2 h3 => by
    unfold me_end me_pre me_e4
    rw [me_shN_r _ _ _ r j h1, hy_up_ne (by omega), e3r r j h2, e0r r j (by omega)]
  have m59 : ∀ j, j ≠ 34 → me_end u i 59 j = me_e1 u i 59 j := fun j hj => by
    unfold me_end me_pre me_e4
    rw [me_shN_r _ _ _ 59 j (by decide), show ∀ (T : hy_T) (v : Int), hy_up T 59 34 v 59 j = T 59 j from fun T v => by simp [hy_up, hj], e3r 59 j (by decide)]
  have m62 : ∀ j, me_end u i 62 j = if fs_in (u 85 i) (u 86 i) 4 j then hz_ior (hz_iand (u 62 j) (hz_ixor (hz_ishl 1 (u 88 i)) (-1))) (hz_ishl 1 (u 87 i)) else u 62 j := fun j => by
    unfold me_end me_pre me_e4
    rw [me_shN_r _ _ _ 62 j (by decide), hy_up_ne (by decide)]
    unfold me_e3
    rw [e2r 85 i (by decide), e2r 86 i (by decide), e2r 87 i (by decide), e0r 85 i (by omega), e0r 86 i (by omega), e0r 87 i (by omega), ch_v _ w1 4 j, if_neg (show ¬ (1 : Int) = 0 by decide)]
    unfold me_e2
    rw [e0r 85 i (by omega), e0r 86 i (by omega), e0r 88 i (by omega), ch_v _ w1 4 j, if_pos rfl, e0r 62 j (by omega)]
    by_cases hf : fs_in (u 85 i) (u 86 i) 4 j
    · rw [if_pos hf, if_pos hf, if_pos hf]
    · rw [if_neg hf, if_neg hf, if_neg hf]
  have m85 : ∀ w j : Nat, w < 6 → me_end u i (85 + w) j = if i ≤ j ∧ (j : Int) < u 59 34 - 1 then u (85 + w) (j + 1) else u (85 + w) j := fun w j hw => by
    unfold me_end me_pre me_e4
    rw [me_shN_v _ _ _ w j hw, hy_up_ne (by omega), hy_up_ne (by omega), e3r _ _ (by omega), e3r _ _ (by omega), e0r _ _ (by omega), e0r _ _ (by omega)]
    by_cases hj : i ≤ j ∧ (j : Int) < u 59 34 - 1
    · rw [if_pos hj, if_pos (by omega)]
    · rw [if_neg hj, if_neg (by omega)]
  have pf : ∀ c, mf_plain (me_end u i) c = mf_plain u c := fun c => mf_plain_F (by rw [m59 0 (by decide)]; exact e0r 59 0 (by omega)) (fun j => mr 60 j (by decide) (by decide) (by decide)) c
  have hfh : fh (me_end u i) := fun j hj => by
    rw [pf, m62 j]
    by_cases hf : fs_in (u 85 i) (u 86 i) 4 j
    · rw [if_pos hf]
      refine ⟨hv_or' (hv_and (hh j hj).1) w3, fun q => ?_⟩
      exfalso
      have e4 : ((j / 4 : Nat) : Int) = u 85 i := by have := hf.1; omega
      rw [e4, hpl] at q
      cases q
    · rw [if_neg hf]
      exact hh j hj
  have c6 : sp_first b t i b 6 = if t b 6 = -2 then t b 4 else t b 6 := by
    unfold sp_first
    split
    · dsimp only
      simp [hy_up]
    · rfl
  have c7 : sp_first b t i b 7 = if t b 6 = -2 then u 87 i else t b 7 := by
    unfold sp_first
    split
    · dsimp only
      have : sp_part b (hy_up t b 6 (t b 4)) i 2 = u 87 i := by
        unfold sp_part
        rw [show hy_up t b 6 (t b 4) b 3 = t b 3 by simp [hy_up], if_pos (by omega), hy_up_ne (by omega), show (6 * (i : Int) + 2).toNat = 6 * i + 2 by omega]
        exact s7 i 2 hi (by decide)
      rw [this]
      simp [hy_up]
    · rfl
  have d59 : me_e1 u i 59 59 = if u 59 58 = 0 then u 59 2 else u 59 59 := by
    unfold me_e1 me_e0
    split <;> simp [hy_up]
  have d60 : me_e1 u i 59 60 = if u 59 58 = 0 then u 87 i else u 59 60 := by
    unfold me_e1 me_e0
    split <;> simp [hy_up]
  refine ⟨⟨⟨⟨⟨⟨?_, ?_, ?_⟩, ?_, ?_⟩, fun j hj => ?_, fun j w hj hw => ?_⟩, ⟨?_, ?_⟩, ?_⟩, ⟨⟨m2, by omega, by omega⟩, fun V V' hV => ?_⟩, hfh, fun j hj => ?_⟩, cb3⟩
  · rw [cb3, m3, s1]
  · rw [cb3]; omega
  · rw [cb3]; omega
  · rw [cb 4 (by decide), cf b 4 (by omega), m59 2 (by decide), e0r 59 2 (by decide)]; exact s4
  · rw [cb 5 (by decide), cf b 5 (by omega), m59 1 (by decide), e0r 59 1 (by decide)]; exact s5
  · rw [c1 j, m62 j, s6 j hj]
  · rw [cb3] at hj
    rw [c3, m85 w j hw]
    by_cases hij : i ≤ j
    · rw [if_pos (by omega), if_pos (by omega), show 6 * j + w + 6 = 6 * (j + 1) + w by omega]
      exact s7 (j + 1) w (by omega) hw
    · rw [if_neg (by omega), if_neg (by omega)]
      exact s7 j w (by omega) hw
  · rw [cb 6 (by decide), c6, m59 59 (by decide), d59]
    by_cases h6 : t b 6 = -2
    · rw [if_pos h6, if_pos (s9.mp h6)]; exact s4
    · rw [if_neg h6, if_neg (fun c => h6 (s9.mpr c))]; exact s8
  · rw [cb 7 (by decide), c7, m59 60 (by decide), d60]
    by_cases h6 : t b 6 = -2
    · rw [if_pos h6, if_pos (s9.mp h6)]
    · rw [if_neg h6, if_neg (fun c => h6 (s9.mpr c))]; exact s8b
  · rw [cb 6 (by decide), c6, m4]
    have hd := k1.2.1
    constructor
    · intro c
      split at c
      · omega
      · next q => exact absurd c q
    · intro c
      omega
  · rw [lc_same_amt (lc_same_of (sp_broken_F b t i) (fun r j q => by revert q; simp only [lawX, dyX, Bool.or_eq_true, Bool.and_eq_true, beq_iff_eq, Bool.or_eq_false_iff, Bool.and_eq_false_iff, beq_eq_false_iff_ne]; omega)), mb_amt_F m1 (fun r j q => by revert q; simp only [mlawX, enX, hvX, mftX, Bool.or_eq_true, Bool.and_eq_true, beq_iff_eq, Bool.or_eq_false_iff, Bool.and_eq_false_iff, beq_eq_false_iff_ne, decide_eq_true_eq, decide_eq_false_iff_not]; omega)]
    exact hL V V' hV
  · rw [m3] at hj
    rw [mf_plain_F (by rw [m59 0 (by decide)]; exact e0r 59 0 (by decide)) (fun j => mr 60 j (by decide) (by decide) (by decide)), m85 0 j (by decide)]
    split
    · exact ht (j + 1) (by omega)
    · exact ht j (by omega)
theorem fd_turn {b : Nat} (hb : b = 33 ∨ b = 41) : ∀ (n M : Nat) {t u : hy_T} (i : Nat), fd_A b t u → (i : Int) + n = t b 3 → n < M → fd_A b (sp_dayN b n t i) (md_turnN M u i)
  | n, 0, t, u, i, h, hi, hM => by omega
  | 0, M + 1, t, u, i, h, hi, hM => by
    simp only [sp_dayN, md_turnN]
    rw [if_neg (by have := h.1.1.1.1.1; omega)]
    exact h
  | n + 1, M + 1, t, u, i, h, hi, hM => by
    have hx := fd_x hb h
    have e3 : hy_up t b 5 (sp_draw (t b 5)) b 3 = t b 3 := by simp [hy_up]
    have hc := fd_chance hx (i := i) (by rw [e3]; omega)
    have e5 := hx.1.1.1.2.2
    simp only [sp_dayN, md_turnN]
    rw [if_pos (show (i : Int) < u 59 34 by have := h.1.1.1.1.1; omega), hc, e5]
    by_cases hq : md_x u 59 1 % 10 < mb_br (md_x u) i
    · rw [if_pos hq, if_pos hq]
      obtain ⟨h2, h3⟩ := fd_end hb hx (i := i) (by rw [e3]; omega)
      exact fd_turn hb n M i h2 (by rw [h3, e3]; omega) (by omega)
    · rw [if_neg hq, if_neg hq]
      have := fd_turn hb n M (i + 1) hx (by rw [e3]; push_cast; omega) (by omega)
      rw [show ((i + 1 : Nat) : Int) = (i : Int) + 1 by push_cast; rfl] at this
      exact this
theorem fd_day {b : Nat} (hb : b = 33 ∨ b = 41) {t u : hy_T} (h : fd_A b t u) (hd : t b 4 < 9999) : fd_A b (hy_up (sp_dayN b (t b 3).toNat t 0) b 4 (t b 4 + 1)) (md_day u) := by
  have h3 := h.1.1.1.1
  have h0 := fd_turn hb (t b 3).toNat 17 0 h (by omega) (by omega)
  have e4 : sp_dayN b (t b 3).toNat t ((0 : Nat) : Int) b 4 = t b 4 := by
    have a := h0.1.1.1.2.1
    have c := (md_turnN_s 17 0 h.2.1.1).2.2
    rw [a, c]
    exact h.1.1.1.2.1.symm
  unfold md_day
  revert h0 e4
  rw [show ((0 : Nat) : Int) = 0 from rfl]
  generalize sp_dayN b (t b 3).toNat t 0 = T
  generalize md_turnN 17 u 0 = U
  intro h0 e4
  obtain ⟨⟨⟨⟨⟨s1, s2, s3⟩, s4, s5⟩, s6, s7⟩, s8, s9⟩, ⟨⟨k1, k2⟩, hL⟩, hh, ht⟩ := h0
  have cb : ∀ j, j ≠ 4 → hy_up T b 4 (t b 4 + 1) b j = T b j := fun j hj => by simp [hy_up, hj]
  have mb : ∀ j, j ≠ 2 → hy_up U 59 2 (U 59 2 + 1) 59 j = U 59 j := fun j hj => by simp [hy_up, hj]
  have mr : ∀ r j, r ≠ 59 → hy_up U 59 2 (U 59 2 + 1) r j = U r j := fun r j hr => by rw [hy_up_ne (by omega)]
  refine ⟨⟨⟨⟨⟨?_, ?_, ?_⟩, ?_, ?_⟩, fun j hj => ?_, fun i w hi hw => ?_⟩, ⟨?_, ?_⟩, ?_⟩, ⟨⟨tr_ok_of (mb 34 (by decide)) ?_ ?_ (fun i hi q => tr_row_e (fun r h1 h2 => mr r i (by omega)) q) k1, by rw [mb 58 (by decide), mb 34 (by decide)]; exact k2⟩, fun V V' hV => ?_⟩, fun j hj => ?_, fun i hi => ?_⟩
  · rw [cb 3 (by decide), mb 34 (by decide)]; exact s1
  · rw [cb 3 (by decide)]; exact s2
  · rw [cb 3 (by decide)]; exact s3
  · show hy_up T b 4 (t b 4 + 1) b 4 = U 59 2 + 1
    rw [show hy_up T b 4 (t b 4 + 1) b 4 = t b 4 + 1 by simp [hy_up], ← s4, e4]
  · rw [cb 5 (by decide), mb 1 (by decide)]; exact s5
  · rw [hy_up_ne (by omega), mr 62 j (by decide)]; exact s6 j hj
  · rw [hy_up_ne (by omega), mr _ i (by omega)]
    rw [cb 3 (by decide)] at hi
    exact s7 i w hi hw
  · rw [cb 6 (by decide), mb 59 (by decide)]; exact s8.1
  · rw [cb 7 (by decide), mb 60 (by decide)]; exact s8.2
  · rw [cb 6 (by decide), mb 58 (by decide)]; exact s9
  · show 0 ≤ U 59 2 + 1 ∧ U 59 2 + 1 ≤ 9999
    have := k1.2.1
    omega
  · rw [mb 1 (by decide)]; exact k1.2.2.1
  · have F : hy_F (fun r j => r == b && j == 4) T (hy_up T b 4 (t b 4 + 1)) := hy_F.rf.up (by simp)
    have G : hy_F (fun r j => r == 59 && j == 2) U (hy_up U 59 2 (U 59 2 + 1)) := hy_F.rf.up rfl
    rw [lc_same_amt (lc_same_of F (fun r j q => by revert q; simp only [lawX, Bool.or_eq_true, Bool.and_eq_true, beq_iff_eq, Bool.and_eq_false_iff, beq_eq_false_iff_ne]; omega)), mb_amt_F G (fun r j q => by revert q; simp only [mlawX, Bool.or_eq_true, Bool.and_eq_true, beq_iff_eq, Bool.and_eq_false_iff, beq_eq_false_iff_ne]; omega)]
    exact hL V V' hV
  · rw [mf_plain_F (mb 0 (by decide)) (fun j => mr 60 j (by decide)), mr 62 j (by decide)]; exact hh j hj
  · rw [mf_plain_F (mb 0 (by decide)) (fun j => mr 60 j (by decide)), mr 85 i (by decide)]
    rw [mb 34 (by decide)] at hi
    exact ht i hi
theorem fd_daysN {b : Nat} (hb : b = 33 ∨ b = 41) : ∀ (n : Nat) {t u : hy_T}, fd_A b t u → fd_A b (sp_daysN b n t) (md_daysN n u)
  | 0, t, u, h => h
  | n + 1, t, u, h => by
    simp only [sp_daysN, md_daysN]
    rw [h.1.1.1.2.1]
    by_cases hd : u 59 2 < 9999
    · rw [if_pos hd, if_pos hd]
      have := fd_day hb h (by rw [h.1.1.1.2.1]; exact hd)
      rw [h.1.1.1.2.1] at this
      exact fd_daysN hb n this
    · rw [if_neg hd, if_neg hd]
      exact h
/-- as many days as can: the states stay alike -/
theorem fd_days {b : Nat} (hb : b = 33 ∨ b = 41) {t u : hy_T} (h : fs_S b t u) (ht : tr_ok u) (hL : fd_L t u) (hh : fh u) (hf : ft u) (n : Int) : fd_A b (sp_days b t n) (md_days u n) := by
  unfold sp_days md_days
  refine fd_daysN hb _ ?_
  obtain ⟨⟨⟨s1, s2, s3⟩, s4, s5⟩, s6, s7⟩ := h
  have cb : ∀ j, j ≠ 6 → j ≠ 7 → hy_up (hy_up t b 6 (-2)) b 7 (-2) b j = t b j := fun j h6 h7 => by simp [hy_up, h6, h7]
  have mb : ∀ j, j ≠ 58 → j ≠ 59 → j ≠ 60 → md_t0 u 59 j = u 59 j := fun j h1 h2 h3 => by simp [md_t0, hy_up, h1, h2, h3]
  have mr : ∀ r j, r ≠ 59 → md_t0 u r j = u r j := fun r j hr => by unfold md_t0; rw [hy_up_ne (by omega), hy_up_ne (by omega), hy_up_ne (by omega)]
  refine ⟨⟨⟨⟨⟨?_, ?_, ?_⟩, ?_, ?_⟩, fun j hj => ?_, fun i w hi hw => ?_⟩, ⟨?_, ?_⟩, ?_⟩, ⟨(md_t0_s ht).1, fun V V' hV => ?_⟩, fun j hj => ?_, fun i hi => ?_⟩
  · rw [cb 3 (by decide) (by decide), mb 34 (by decide) (by decide) (by decide)]; exact s1
  · rw [cb 3 (by decide) (by decide)]; exact s2
  · rw [cb 3 (by decide) (by decide)]; exact s3
  · rw [cb 4 (by decide) (by decide), mb 2 (by decide) (by decide) (by decide)]; exact s4
  · rw [cb 5 (by decide) (by decide), mb 1 (by decide) (by decide) (by decide)]; exact s5
  · rw [hy_up_ne (by omega), hy_up_ne (by omega), mr 62 j (by decide)]; exact s6 j hj
  · rw [hy_up_ne (by omega), hy_up_ne (by omega), mr _ i (by omega)]
    rw [cb 3 (by decide) (by decide)] at hi
    exact s7 i w hi hw
  · simp [md_t0, hy_up]
  · simp [md_t0, hy_up]
  · simp [md_t0, hy_up]
  · have F : hy_F (fun r j => r == b && (j == 6 || j == 7)) t (hy_up (hy_up t b 6 (-2)) b 7 (-2)) := (hy_F.rf.up (by simp)).up (by simp)
    have G := (md_t0_s ht).2
    rw [lc_same_amt (lc_same_of F (fun r j q => by revert q; simp only [lawX, Bool.or_eq_true, Bool.and_eq_true, beq_iff_eq, Bool.and_eq_false_iff, Bool.or_eq_false_iff, beq_eq_false_iff_ne]; omega)), mb_amt_F G dsX_law]
    exact hL V V' hV
  · rw [mf_plain_F (mb 0 (by decide) (by decide) (by decide)) (fun j => mr 60 j (by decide)), mr 62 j (by decide)]; exact hh j hj
  · rw [mf_plain_F (mb 0 (by decide) (by decide) (by decide)) (fun j => mr 60 j (by decide)), mr 85 i (by decide)]
    rw [mb 34 (by decide) (by decide) (by decide)] at hi
    exact hf i hi
