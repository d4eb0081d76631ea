/-! the relation of p30: tapes, owners, what is kept of them -/
abbrev p5_Y : Nat → Nat → Bool := fun r j => (r == 3 && j == 1) || (r == 59 && j == 9)
def p5_rel (t : hy_T) : Prop := t 3 1 = t 59 9
theorem p5_relF (t t1 : hy_T) (h : p5_rel t) (hY : ∀ r j, p5_Y r j = true → t1 r j = t r j) : p5_rel t1 := by
  unfold p5_rel
  rw [hY 3 1 rfl, hY 59 9 rfl]
  exact h
theorem wf_feed_31 {t : hy_T} {a b c d e : Int} (hq : t 3 1 ≤ 240) : wf_feed t a b c d e 3 1 = t 3 1 + 20 := by
  have h1 := tp_add_l (t := t) (w := a) (by omega)
  have h2 := tp_add_l (t := tp_add t a) (w := b) (by omega)
  have h3 := tp_add_l (t := tp_add (tp_add t a) b) (w := c) (by omega)
  have h4 := tp_add_l (t := tp_add (tp_add (tp_add t a) b) c) (w := d) (by omega)
  have h5 := tp_add_l (t := tp_add (tp_add (tp_add (tp_add t a) b) c) d) (w := e) (by omega)
  unfold wf_feed
  omega
theorem k3e {sc : List Int32} {t : hy_T} {a b c d e : Int} (k : cK t) : hy_Ct sc hm_W_feed 1 [.inr (some 2), .inl a, .inl b, .inl c, .inl d, .inl e] t (fun r t' => cQ taX t r t' ∧ r = some (if t 3 1 ≤ 240 then t 3 1 + 20 else -1) ∧ t' = if t 3 1 ≤ 240 then wf_feed t a b c d e else t) := (c_W_feed k.tp.l).mono (fun r t' q => by
  obtain ⟨rfl, rfl⟩ := q
  obtain ⟨k1, F⟩ := cK_feed (a := a) (b := b) (c := c) (d := d) (e := e) k
  exact ⟨⟨⟨_, rfl⟩, k1, F⟩, rfl, rfl⟩)
theorem m3e {sc : List Int32} {t : hy_T} {a b c d e : Int} (k : mK t) : hy_Ct sc hm_M_feed 1 [.inr (some 59), .inl a, .inl b, .inl c, .inl d, .inl e] t (fun r t' => mQ feX t r t' ∧ r = some (if t 59 9 ≤ 240 then t 59 9 + 20 else -1) ∧ t' = if t 59 9 ≤ 240 then mf_feed t a b c d e else t) := (c_M_feed k.mt).mono (fun r t' q => by
  obtain ⟨rfl, rfl⟩ := q
  refine ⟨⟨⟨_, rfl⟩, ?_⟩, rfl, rfl⟩
  obtain ⟨F, e9⟩ := mf_feed_s t a b c d e
  have k9 := k.mt
  split
  · exact ⟨mK_A F (fun r j q => by revert q; simp only [mkA, mlawX, mrP, mrT, mrK, feX, Bool.or_eq_true, Bool.and_eq_true, decide_eq_true_eq, beq_iff_eq, Bool.or_eq_false_iff, Bool.and_eq_false_iff, beq_eq_false_iff_ne]; omega) (by unfold mt_ok; omega) k, F⟩
  · exact ⟨k, hy_F.rf⟩)
theorem p5_feed {t t1 t2 : hy_T} {a b c d e : Int} {r1 r2 : Option Int} (h : p5_rel t) (F : hy_F taX t t1) (F2 : hy_F feX t1 t2) (q1 : r1 = some (if t 3 1 ≤ 240 then t 3 1 + 20 else -1) ∧ t1 = if t 3 1 ≤ 240 then wf_feed t a b c d e else t) (q2 : r2 = some (if t1 59 9 ≤ 240 then t1 59 9 + 20 else -1) ∧ t2 = if t1 59 9 ≤ 240 then mf_feed t1 a b c d e else t1) : r2 = r1 ∧ p5_rel t2 := by
  have x := F 59 9 rfl
  have y := F2 3 1 rfl
  have h0 : t 3 1 = t 59 9 := h
  obtain ⟨e1, e2⟩ := q1
  obtain ⟨e3, e4⟩ := q2
  refine ⟨by rw [e1, e3, x, h0], ?_⟩
  show t2 3 1 = t2 59 9
  by_cases hq : t 3 1 ≤ 240
  · rw [if_pos hq] at e2
    rw [if_pos (by omega)] at e4
    have z1 : t1 3 1 = t 3 1 + 20 := by rw [e2]; exact wf_feed_31 hq
    have z2 : t2 59 9 = t1 59 9 + 20 := by rw [e4]; exact (mf_feed_s t1 a b c d e).2
    omega
  · rw [if_neg hq] at e2
    rw [if_neg (by omega)] at e4
    have z1 : t1 3 1 = t 3 1 := by rw [e2]
    have z2 : t2 59 9 = t1 59 9 := by rw [e4]
    omega
theorem p5_law {t t1 t2 : hy_T} {n : Int} (h : p5_rel t) (F : hy_F lwcX t t1) (F2 : hy_F lwX t1 t2) (e1 : t1 = (wf_law t n).2) (e2 : t2 59 9 = if al_nc t1 n then 0 else t1 59 9) : p5_rel t2 := by
  have x := F 59 9 rfl
  have y := F2 3 1 rfl
  have h0 : t 3 1 = t 59 9 := h
  have c := wf_law_31 t n
  rw [← e1] at c
  show t2 3 1 = t2 59 9
  simp only [al_nc] at e2
  split at c <;> split at e2 <;> omega
theorem p5_land {t t1 t2 : hy_T} {n : Int} (k : cK t) (h : p5_rel t) (F : hy_F glX t t1) (F2 : hy_F ngX t1 t2) (e1 : t1 = (wf_land t n).2) (e2 : t2 59 9 = if ld_ntc t1 n then 0 else t1 59 9) : p5_rel t2 := by
  have x := F 59 9 rfl
  have y := F2 3 1 rfl
  have h0 : t 3 1 = t 59 9 := h
  have c := (wf_land_s k.tp n).2.2
  rw [← e1] at c
  show t2 3 1 = t2 59 9
  simp only [ld_ntc] at e2
  split at c <;> split at e2 <;> omega
theorem p5_lines {XW XM : Nat → Nat → Bool} {t t1 t2 : hy_T} {n : Int} (h : p5_rel t) (F : hy_F XW t t1) (F2 : hy_F XM t1 t2) (hw : XW 59 9 = false) (hm : XM 3 1 = false) (c : t1 3 1 = if 1 ≤ n ∧ n ≤ 120 ∧ n ≤ t 3 1 then 0 else t 3 1) (e2 : t2 59 9 = if ml_ntc t1 n then 0 else t1 59 9) : p5_rel t2 := by
  have x := F 59 9 hw
  have y := F2 3 1 hm
  have h0 : t 3 1 = t 59 9 := h
  show t2 3 1 = t2 59 9
  simp only [ml_ntc] at e2
  split at c <;> split at e2 <;> omega
theorem p5_parted {t t1 t2 : hy_T} {m w : Int} (hR : hy_R w) (h : p5_rel t) (F : hy_F t1X t t1) (F2 : hy_F t9X t1 t2) (e1 : t1 = if wf_partok t m w then hy_up t 3 1 0 else t) (e2 : t2 = if mf_ptc t1 m w then hy_up t1 59 9 0 else t1) : p5_rel t2 := by
  have x := F 59 9 rfl
  have y := F2 3 1 rfl
  have h0 : t 3 1 = t 59 9 := h
  have z := wf_sub (k := 10) hR (by decide)
  have hw : (0 ≤ wf_w10 w ∧ wf_w10 w < 4) ↔ (10 ≤ w ∧ w ≤ 13) := by
    unfold wf_w10
    revert z
    generalize (Int32.ofInt (w - 10)).toInt = y
    intro z
    omega
  have c : t1 3 1 = if wf_partok t m w then 0 else t 3 1 := by
    rw [e1]
    split <;> rfl
  have c2 : t2 59 9 = if mf_ptc t1 m w then 0 else t1 59 9 := by
    rw [e2]
    split <;> rfl
  have hc : wf_partok t m w ↔ mf_ptc t1 m w := by
    unfold wf_partok mf_ptc
    rw [hw]
    omega
  show t2 3 1 = t2 59 9
  by_cases hq : wf_partok t m w
  · rw [if_pos hq] at c
    rw [if_pos (hc.mp hq)] at c2
    omega
  · rw [if_neg hq] at c
    rw [if_neg (fun q => hq (hc.mpr q))] at c2
    omega
theorem p5_spies {t t1 t2 : hy_T} {n w : Int} (h : p5_rel t) (F : hy_F spX t t1) (F2 : hy_F spmX t1 t2) (c : t1 3 1 = if wf_spyok t n w then 0 else t 3 1) (e2 : t2 59 9 = if ms_spc t1 n w then 0 else t1 59 9) : p5_rel t2 := by
  have x := F 59 9 rfl
  have y := F2 3 1 rfl
  have h0 : t 3 1 = t 59 9 := h
  show t2 3 1 = t2 59 9
  simp only [wf_spyok] at c
  simp only [ms_spc] at e2
  split at c <;> split at e2 <;> omega
theorem p5_check {t t1 t2 : hy_T} {n : Int} (h : p5_rel t) (F : hy_F t1X t t1) (F2 : hy_F t9X t1 t2) (e1 : t1 = if (0 ≤ n ∧ n ≤ 8) ∧ 4 * n ≤ t 3 1 then hy_up t 3 1 0 else t) (e2 : t2 = if (0 ≤ n ∧ n ≤ 8) ∧ 4 * n ≤ t1 59 9 then hy_up t1 59 9 0 else t1) : p5_rel t2 := by
  have x := F 59 9 rfl
  have y := F2 3 1 rfl
  have h0 : t 3 1 = t 59 9 := h
  have c : t1 3 1 = if (0 ≤ n ∧ n ≤ 8) ∧ 4 * n ≤ t 3 1 then 0 else t 3 1 := by
    rw [e1]
    split <;> rfl
  have c2 : t2 59 9 = if (0 ≤ n ∧ n ≤ 8) ∧ 4 * n ≤ t1 59 9 then 0 else t1 59 9 := by
    rw [e2]
    split <;> rfl
  show t2 3 1 = t2 59 9
  split at c <;> split at c2 <;> omega
abbrev p29_Y : Nat → Nat → Bool := fun r j => (r == 2 && j == 9) || (r == 59 && j == 57)
def p29_rel (t : hy_T) : Prop := t 2 9 = t 59 57
theorem p29_relF (t t1 : hy_T) (h : p29_rel t) (hY : ∀ r j, p29_Y r j = true → t1 r j = t r j) : p29_rel t1 := by
  unfold p29_rel
  rw [hY 2 9 rfl, hY 59 57 rfl]
  exact h
theorem p29_keep {t t1 t2 : hy_T} (F2 : hy_F kpmX t1 t2) (e1 : t1 = hy_up (sp_scopy t 33 37) 2 9 1) (e2 : t2 = mf_keep t1) : p29_rel t2 := by
  have y := F2 2 9 rfl
  have z := (mf_keep_v t1).2.2.2.2.2
  rw [← e2] at z
  have w : t1 2 9 = 1 := by rw [e1]; rfl
  show t2 2 9 = t2 59 57
  omega
theorem p29_undo {t t1 t2 : hy_T} {r1 r2 : Option Int} (h : p29_rel t) (F : hy_F (cpX 33) t t1) (F2 : hy_F udX t1 t2) (e1 : r1 = some (if t 2 9 = 0 then 0 else 1)) (e2 : r2 = some (if t1 59 57 = 0 then 0 else 1)) : r2 = r1 ∧ p29_rel t2 := by
  have x := F 59 57 rfl
  have y := F2 2 9 rfl
  have x2 := F 2 9 rfl
  have y2 := F2 59 57 rfl
  have h0 : t 2 9 = t 59 57 := h
  refine ⟨by rw [e1, e2, x, h0], ?_⟩
  show t2 2 9 = t2 59 57
  omega
theorem by8 (v : Int32) : (v.toInt8.toInt32 &&& 255) = v &&& 255 := by
  apply Int32.toBitVec_inj.mp
  apply BitVec.eq_of_getLsbD_eq
  intro i hi
  simp only [Int32.toBitVec_and, BitVec.getLsbD_and]
  by_cases h8 : i < 8
  · have e : (v.toInt8.toInt32).toBitVec.getLsbD i = v.toBitVec.getLsbD i := by
      rw [Int8.toBitVec_toInt32, BitVec.getLsbD_signExtend, Int32.toBitVec_toInt8, if_pos h8]
      rw [decide_eq_true hi, Bool.true_and, BitVec.getLsbD_signExtend, decide_eq_true h8, Bool.true_and, if_pos hi]
    rw [e]
  · have e : (255 : Int32).toBitVec.getLsbD i = false := by
      have key : ∀ j : Fin 32, ¬ (j.val < 8) → (255 : Int32).toBitVec.getLsbD j.val = false := by decide
      exact key ⟨i, hi⟩ h8
    rw [e]
    simp
theorem sh_or (a b : Int32) (k : Int32) : (a ||| b) <<< k = (a <<< k) ||| (b <<< k) := by
  apply Int32.toBitVec_inj.mp
  apply BitVec.eq_of_getLsbD_eq
  intro i hi
  simp [Int32.toBitVec_shiftLeft, BitVec.getLsbD_or, Bool.and_or_distrib_left]
theorem sh_88 (a : Int32) : (a <<< 8) <<< 8 = a <<< 16 := by
  apply Int32.toBitVec_inj.mp
  apply BitVec.eq_of_getLsbD_eq
  intro i hi
  simp [Int32.toBitVec_shiftLeft]
theorem sh_168 (a : Int32) : (a <<< 8) <<< 16 = a <<< 24 := by
  apply Int32.toBitVec_inj.mp
  apply BitVec.eq_of_getLsbD_eq
  intro i hi
  simp [Int32.toBitVec_shiftLeft]
theorem hz_i2b_255 (x : Int) : hz_iand (hz_i2b x) 255 = hz_iand x 255 := by
  unfold hz_iand hz_i2b
  rw [Int32.ofInt_toInt, show Int32.ofInt 255 = 255 from rfl, by8]
theorem num4 (a b c d : Int) : hz_ior (hz_ishl (hz_ior (hz_ishl (hz_ior (hz_ishl (hz_ior (hz_ishl 0 8) a) 8) b) 8) c) 8) d = hz_ior (hz_ior (hz_ior (hz_ishl a 24) (hz_ishl b 16)) (hz_ishl c 8)) d := by
  unfold hz_ior hz_ishl
  simp only [Int32.ofInt_toInt]
  rw [show Int32.ofInt 8 &&& 31 = 8 by decide, show Int32.ofInt 16 &&& 31 = 16 by decide, show Int32.ofInt 24 &&& 31 = 24 by decide, show Int32.ofInt 0 <<< (8 : Int32) = 0 by decide, Int32.zero_or]
  rw [sh_or, sh_or, sh_or, sh_88, sh_88, sh_168]
def p30_b (t u : hy_T) : Prop := t 3 1 = u 59 9 ∧ ∀ j : Nat, j < 260 → t 4 j = hz_iand (u 65 j) 255
theorem p30_1 {t u : hy_T} (b : p30_b t u) (hl : 0 ≤ t 3 1 ∧ t 3 1 < 260) (v : Int) (k : Nat) (s : Int) (hs : s = 8 * (k : Int)) : p30_b (tp_add1 t (tp_byte v s)) (mf_ty1 u v k) ∧ tp_add1 t (tp_byte v s) 3 1 = t 3 1 + 1 := by
  have l := tp_add1_l (t := t) (v := tp_byte v s) hl.2
  refine ⟨⟨?_, fun j hj => ?_⟩, l⟩
  · rw [l, b.1]
    rfl
  · have x : tp_add1 t (tp_byte v s) 4 j = if j = (t 3 1).toNat then tp_byte v s else t 4 j := by
      unfold tp_add1
      rw [if_pos hl.2, hy_up_ne (by decide)]
      simp only [hy_up, true_and]
    have y : mf_ty1 u v k 65 j = if j = (u 59 9).toNat then hz_i2b (hz_ishr v (8 * (k : Int))) else u 65 j := by
      unfold mf_ty1
      rw [hy_up_ne (by decide)]
      simp only [hy_up, true_and]
    rw [x, y, b.1]
    split
    · rw [hz_i2b_255, hs]
      rfl
    · exact b.2 j hj
theorem p30_4 {t u : hy_T} (b : p30_b t u) (hl : 0 ≤ t 3 1 ∧ t 3 1 ≤ 256) (v : Int) : p30_b (tp_add t v) (mf_tyN v 4 u) ∧ tp_add t v 3 1 = t 3 1 + 4 := by
  obtain ⟨b1, l1⟩ := p30_1 b ⟨by omega, by omega⟩ v 3 24 (by decide)
  obtain ⟨b2, l2⟩ := p30_1 b1 ⟨by omega, by omega⟩ v 2 16 (by decide)
  obtain ⟨b3, l3⟩ := p30_1 b2 ⟨by omega, by omega⟩ v 1 8 (by decide)
  obtain ⟨b4, l4⟩ := p30_1 b3 ⟨by omega, by omega⟩ v 0 0 (by decide)
  refine ⟨b4, ?_⟩
  unfold tp_add
  omega
theorem p30_20 {t u : hy_T} (b : p30_b t u) (hl : 0 ≤ t 3 1 ∧ t 3 1 ≤ 240) (a b' c d e : Int) : p30_b (wf_feed t a b' c d e) (mf_feed u a b' c d e) := by
  obtain ⟨b1, l1⟩ := p30_4 b ⟨by omega, by omega⟩ a
  obtain ⟨b2, l2⟩ := p30_4 b1 ⟨by omega, by omega⟩ b'
  obtain ⟨b3, l3⟩ := p30_4 b2 ⟨by omega, by omega⟩ c
  obtain ⟨b4, l4⟩ := p30_4 b3 ⟨by omega, by omega⟩ d
  obtain ⟨b5, l5⟩ := p30_4 b4 ⟨by omega, by omega⟩ e
  exact b5
abbrev p30_Z : Nat → Nat → Bool := fun r j => (r == 2 && j == 9) || (r == 59 && j == 57) || r == 4 || r == 65 || r == 35 || r == 64 || r == 39 || r == 95
abbrev p30_Y : Nat → Nat → Bool := fun r j => p30_Z r j || p5_Y r j
def p30_rel (t : hy_T) : Prop := ((p5_rel t ∧ p29_rel t) ∧ ∀ j : Nat, j < 260 → t 4 j = hz_iand (t 65 j) 255) ∧ ∀ j : Nat, j < 64 → t 35 j = t 64 j ∧ (t 2 9 ≠ 0 → t 39 j = t 95 j)
theorem p30_relZ (t t1 : hy_T) (h : p30_rel t) (h5 : p5_rel t1) (hY : ∀ r j, p30_Z r j = true → t1 r j = t r j) : p30_rel t1 := by
  obtain ⟨⟨⟨-, h2⟩, h3⟩, h4⟩ := h
  refine ⟨⟨⟨h5, ?_⟩, fun j hj => ?_⟩, fun j hj => ?_⟩
  · show t1 2 9 = t1 59 57
    rw [hY 2 9 rfl, hY 59 57 rfl]
    exact h2
  · rw [hY 4 j rfl, hY 65 j rfl]
    exact h3 j hj
  · rw [hY 35 j rfl, hY 64 j rfl, hY 39 j rfl, hY 95 j rfl, hY 2 9 rfl]
    exact h4 j hj
theorem p30_relF (t t1 : hy_T) (h : p30_rel t) (hY : ∀ r j, p30_Y r j = true → t1 r j = t r j) : p30_rel t1 :=
  p30_relZ t t1 h (p5_relF t t1 h.1.1.1 (fun r j q => hY r j (by simp only [p30_Y, q]; simp))) (fun r j q => hY r j (by simp only [p30_Y, q]; simp))
theorem p30_rel0 : p30_rel t0 := ⟨⟨⟨rfl, rfl⟩, fun j hj => (show (0 : Int) = hz_iand 0 255 by decide)⟩, fun j hj => ⟨rfl, fun q => absurd (show t0 2 9 = 0 from rfl) q⟩⟩
theorem p30_len {XW XM : Nat → Nat → Bool} {t t1 t2 : hy_T} (h : p30_rel t) (F : hy_F XW t t1) (F2 : hy_F XM t1 t2) (a : frees XW p30_Z) (b : frees XM p30_Z) (h5 : p5_rel t2) : p30_rel t2 :=
  p30_relZ t t2 h h5 (fun r j q => (F2 r j (b r j q)).trans (F r j (a r j q)))
theorem p30_feed {t t1 t2 : hy_T} {a b c d e : Int} (k : cK t) (h : p30_rel t) (F : hy_F taX t t1) (F2 : hy_F feX t1 t2) (e2 : t1 = if t 3 1 ≤ 240 then wf_feed t a b c d e else t) (e4 : t2 = if t1 59 9 ≤ 240 then mf_feed t1 a b c d e else t1) : p30_rel t2 := by
  have x := F 59 9 rfl
  have h0 : t 3 1 = t 59 9 := h.1.1.1
  have hl := k.tp.l
  by_cases hq : t 3 1 ≤ 240
  · rw [if_pos hq] at e2
    rw [if_pos (by omega)] at e4
    have b0 : p30_b t t1 := ⟨by omega, fun j hj => by rw [F 65 j rfl]; exact h.1.2 j hj⟩
    have b1 := p30_20 b0 ⟨hl.1, hq⟩ a b c d e
    rw [← e2, ← e4] at b1
    refine ⟨⟨⟨?_, ?_⟩, fun j hj => ?_⟩, fun j hj => ?_⟩
    · show t2 3 1 = t2 59 9
      rw [F2 3 1 rfl]
      exact b1.1
    · show t2 2 9 = t2 59 57
      rw [F2 2 9 rfl, F2 59 57 rfl, F 2 9 rfl, F 59 57 rfl]
      exact h.1.1.2
    · rw [F2 4 j rfl]
      exact b1.2 j hj
    · rw [F2 35 j rfl, F2 64 j rfl, F2 39 j rfl, F2 95 j rfl, F2 2 9 rfl, F 35 j rfl, F 64 j rfl, F 39 j rfl, F 95 j rfl, F 2 9 rfl]
      exact h.2 j hj
  · rw [if_neg hq] at e2
    rw [if_neg (by omega)] at e4
    rw [e4, e2]
    exact h
theorem k2x {sc : List Int32} {t : hy_T} {a b c : Int} (k : cK t) : hy_Ct sc hm_W_owner 2 [.inr (some 2), .inl a, .inl b, .inl c] t (fun r t' => cQ (fun r _ => r == 35) t r t' ∧ t' = if wf_owner a b c = true then hy_up t 35 (8 * b + a).toNat c else t) := c_W_owner.mono (fun r t' q => by
  obtain ⟨rfl, rfl⟩ := q
  have F : hy_F (fun r _ => r == 35) t (if wf_owner a b c = true then hy_up t 35 (8 * b + a).toNat c else t) := by
    split
    · exact hy_F.rf.up rfl
    · exact hy_F.rf
  exact ⟨⟨⟨_, rfl⟩, cK_F F (fun r j q => by revert q; simp only [ckX, ckT, lawX, ckN, ckS, ckP, Bool.or_eq_true, Bool.and_eq_true, beq_iff_eq, beq_eq_false_iff_ne]; omega) k, F⟩, rfl⟩)
theorem m2x {sc : List Int32} {t : hy_T} {a b c : Int} (k : mK t) : hy_Ct sc hm_M_owner 1 [.inr (some 59), .inl a, .inl b, .inl c] t (fun r t' => mQ (fun r _ => r == 64) t r t' ∧ t' = if wf_owner a b c = true then hy_up t 64 (8 * b + a).toNat c else t) := c_M_owner.mono (fun r t' q => by
  obtain ⟨rfl, rfl⟩ := q
  have F : hy_F (fun r _ => r == 64) t (if wf_owner a b c = true then hy_up t 64 (8 * b + a).toNat c else t) := by
    split
    · exact hy_F.rf.up rfl
    · exact hy_F.rf
  exact ⟨⟨⟨_, rfl⟩, mK_F F (fun r j q => by revert q; simp only [mkAll, mkA, mlawX, mrP, mrT, mrK, mrM, Bool.or_eq_true, Bool.and_eq_true, decide_eq_true_eq, beq_iff_eq, beq_eq_false_iff_ne]; omega) k, F⟩, rfl⟩)
theorem p30_owner {t t1 t2 : hy_T} {a b c : Int} (h : p30_rel t) (F : hy_F (fun r _ => r == 35) t t1) (F2 : hy_F (fun r _ => r == 64) t1 t2) (e1 : t1 = if wf_owner a b c = true then hy_up t 35 (8 * b + a).toNat c else t) (e2 : t2 = if wf_owner a b c = true then hy_up t1 64 (8 * b + a).toNat c else t1) : p30_rel t2 := by
  have h5 : p5_rel t2 := by
    show t2 3 1 = t2 59 9
    rw [F2 3 1 rfl, F2 59 9 rfl, F 3 1 rfl, F 59 9 rfl]
    exact h.1.1.1
  by_cases hq : wf_owner a b c = true
  · rw [if_pos hq] at e1 e2
    refine ⟨⟨⟨h5, ?_⟩, fun j hj => ?_⟩, fun j hj => ?_⟩
    · show t2 2 9 = t2 59 57
      rw [F2 2 9 rfl, F2 59 57 rfl, F 2 9 rfl, F 59 57 rfl]
      exact h.1.1.2
    · rw [F2 4 j rfl, F2 65 j rfl, F 4 j rfl, F 65 j rfl]
      exact h.1.2 j hj
    · have x35 : t2 35 j = if j = (8 * b + a).toNat then c else t 35 j := by
        rw [F2 35 j rfl, e1]
        simp only [hy_up, true_and]
      have x64 : t2 64 j = if j = (8 * b + a).toNat then c else t 64 j := by
        rw [e2]
        simp only [hy_up, true_and]
        rw [F 64 j rfl]
      rw [x35, x64, F2 39 j rfl, F2 95 j rfl, F2 2 9 rfl, F 39 j rfl, F 95 j rfl, F 2 9 rfl]
      refine ⟨?_, (h.2 j hj).2⟩
      split
      · rfl
      · exact (h.2 j hj).1
  · rw [if_neg hq] at e1 e2
    rw [e2, e1]
    exact h
theorem p30_keep {t t1 t2 : hy_T} (h : p30_rel t) (F : hy_F kpX t t1) (F2 : hy_F kpmX t1 t2) (e1 : t1 = hy_up (sp_scopy t 33 37) 2 9 1) (e2 : t2 = mf_keep t1) : p30_rel t2 := by
  have h29 := p29_keep (t := t) F2 e1 e2
  refine ⟨⟨⟨?_, h29⟩, fun j hj => ?_⟩, fun j hj => ?_⟩
  · show t2 3 1 = t2 59 9
    rw [F2 3 1 rfl, F2 59 9 rfl, F 3 1 rfl, F 59 9 rfl]
    exact h.1.1.1
  · rw [F2 4 j rfl, F2 65 j rfl, F 4 j rfl, F 65 j rfl]
    exact h.1.2 j hj
  · have x39 : t1 39 j = t 35 j := by
      rw [e1, hy_up_ne (by decide)]
      simp [sp_scopy, hy_up, hy_cp, hj]
    have x95 : t2 95 j = t1 64 j := by
      rw [e2]
      unfold mf_keep mf_set3
      rw [hy_up_ne (by decide), hy_up_ne (by decide), hy_up_ne (by decide)]
      show (if 95 = 95 ∧ j < 64 then _ else _) = _
      rw [if_pos ⟨rfl, hj⟩, mf_packN_F 94 _ 16 64 j rfl]
      unfold hy_cp
      rw [if_neg (by omega), hy_up_ne (by decide)]
    rw [F2 35 j rfl, F2 64 j rfl, F2 39 j rfl, x39, x95, F 64 j rfl, F 35 j rfl]
    exact ⟨(h.2 j hj).1, fun _ => (h.2 j hj).1⟩
theorem p30_undo {t t1 t2 : hy_T} (h : p30_rel t) (F : hy_F (cpX 33) t t1) (F2 : hy_F udX t1 t2) (e1 : t1 = if t 2 9 = 0 then t else sp_scopy t 37 33) (e2 : t2 = if t1 59 57 = 0 then t1 else mf_undo t1) : p30_rel t2 := by
  have x := F 59 57 rfl
  have h29 : t 2 9 = t 59 57 := h.1.1.2
  by_cases hq : t 2 9 = 0
  · rw [if_pos hq] at e1
    rw [if_pos (by omega)] at e2
    rw [e2, e1]
    exact h
  · rw [if_neg hq] at e1
    rw [if_neg (by omega)] at e2
    refine ⟨⟨⟨?_, ?_⟩, fun j hj => ?_⟩, fun j hj => ?_⟩
    · show t2 3 1 = t2 59 9
      rw [F2 3 1 rfl, F2 59 9 rfl, F 3 1 rfl, F 59 9 rfl]
      exact h.1.1.1
    · show t2 2 9 = t2 59 57
      rw [F2 2 9 rfl, F2 59 57 rfl, F 2 9 rfl, F 59 57 rfl]
      exact h29
    · rw [F2 4 j rfl, F2 65 j rfl, F 4 j rfl, F 65 j rfl]
      exact h.1.2 j hj
    · have x35 : t1 35 j = t 39 j := by
        rw [e1]
        simp [sp_scopy, hy_up, hy_cp, hj]
      have x64 : t2 64 j = t1 95 j := by
        rw [e2]
        unfold mf_undo mf_set3
        rw [hy_up_ne (by decide), hy_up_ne (by decide), hy_up_ne (by decide)]
        show (if 64 = 64 ∧ j < 64 then _ else _) = _
        rw [if_pos ⟨rfl, hj⟩, mf_unpN_F (r := 94) _ 16 (by omega) 95 j rfl]
        unfold hy_cp
        rw [if_neg (by omega)]
      rw [F2 35 j rfl, x35, x64, F2 39 j rfl, F2 95 j rfl, F 39 j rfl, F 95 j rfl]
      exact ⟨(h.2 j hj).2 hq, fun _ => (h.2 j hj).2 hq⟩
theorem p30_num {t t1 : hy_T} (h : p30_rel t) (F : hy_F t1X t t1) (k : Nat) (hk : 4 * (k : Int) + 4 ≤ t 3 1) (hl : t 3 1 ≤ 260) : tp_number t (4 * (k : Int)) = mf_numN t1 k 4 := by
  have x : ∀ i : Nat, i < 4 → tp_at t (4 * (k : Int) + i) = hz_iand (t1 65 (4 * k + i)) 255 := fun i hi => by
    unfold tp_at
    rw [if_pos (by omega), show (4 * (k : Int) + (i : Int)).toNat = 4 * k + i by omega, F 65 _ rfl]
    exact h.1.2 _ (by omega)
  unfold tp_number
  rw [show tp_at t (4 * (k : Int)) = hz_iand (t1 65 (4 * k + 0)) 255 from by rw [← x 0 (by decide)]; congr 1]
  rw [show tp_at t (4 * (k : Int) + 1) = hz_iand (t1 65 (4 * k + 1)) 255 from x 1 (by decide), show tp_at t (4 * (k : Int) + 2) = hz_iand (t1 65 (4 * k + 2)) 255 from x 2 (by decide), show tp_at t (4 * (k : Int) + 3) = hz_iand (t1 65 (4 * k + 3)) 255 from x 3 (by decide)]
  simp only [mf_numN]
  exact (num4 _ _ _ _).symm
theorem p30_run {t t1 : hy_T} (h : p30_rel t) (F : hy_F t1X t t1) (n : Int) (hn : 0 ≤ n ∧ n ≤ 8) (h4 : 4 * n ≤ t 3 1) (hl : t 3 1 ≤ 260) : ∀ (m k : Nat), (m : Int) + k = n → (if wf_rightN t m k = n then -1 else wf_rightN t m k) = mf_checkN t1 m k
  | 0, k, e => by
    show (if (k : Int) = n then -1 else (k : Int)) = -1
    exact if_pos (by omega)
  | m + 1, k, e => by
    have e1 : wf_rightN t (m + 1) k = if tp_number t (4 * (k : Int)) = (if 0 ≤ (k : Int) ∧ (k : Int) < 64 then t 35 (k : Int).toNat else 6) then wf_rightN t m ((k : Int) + 1) else k := rfl
    have e2 : mf_checkN t1 (m + 1) k = if mf_numN t1 k 4 = t1 64 k then mf_checkN t1 m (k + 1) else k := rfl
    rw [p30_num h F k (by omega) hl, if_pos (show 0 ≤ (k : Int) ∧ (k : Int) < 64 by omega), Int.toNat_natCast, (h.2 k (by omega)).1, ← F 64 k rfl] at e1
    by_cases hq : mf_numN t1 k 4 = t1 64 k
    · rw [if_pos hq] at e1 e2
      rw [e2, ← p30_run h F n hn h4 hl m (k + 1) (by omega), e1]
      rfl
    · rw [if_neg hq] at e1 e2
      rw [e2, e1]
      exact if_neg (by omega)
theorem p30_check {t t1 t2 : hy_T} {n : Int} {r1 r2 : Option Int} (k : cK t) (h : p30_rel t) (F : hy_F t1X t t1) (F2 : hy_F t9X t1 t2) (q1 : r1 = some (if (0 ≤ n ∧ n ≤ 8) ∧ 4 * n ≤ t 3 1 then wf_check t n else -2) ∧ t1 = if (0 ≤ n ∧ n ≤ 8) ∧ 4 * n ≤ t 3 1 then hy_up t 3 1 0 else t) (q2 : r2 = some (if (0 ≤ n ∧ n ≤ 8) ∧ 4 * n ≤ t1 59 9 then mf_checkN t1 n.toNat 0 else -2) ∧ t2 = if (0 ≤ n ∧ n ≤ 8) ∧ 4 * n ≤ t1 59 9 then hy_up t1 59 9 0 else t1) : r2 = r1 ∧ p30_rel t2 := by
  have h5 := p5_check h.1.1.1 F F2 q1.2 q2.2
  have x : t1 59 9 = t 59 9 := F 59 9 rfl
  have h0 : t 3 1 = t 59 9 := h.1.1.1
  refine ⟨?_, p30_len h F F2 (fun r j q => by revert q; simp only [p30_Z, t1X, Bool.or_eq_true, Bool.and_eq_true, beq_iff_eq, Bool.and_eq_false_iff, beq_eq_false_iff_ne]; omega) (fun r j q => by revert q; simp only [p30_Z, t9X, Bool.or_eq_true, Bool.and_eq_true, beq_iff_eq, Bool.and_eq_false_iff, beq_eq_false_iff_ne]; omega) h5⟩
  rw [q1.1, q2.1, x, ← h0]
  by_cases hq : (0 ≤ n ∧ n ≤ 8) ∧ 4 * n ≤ t 3 1
  · rw [if_pos hq, if_pos hq]
    have e := p30_run h F n hq.1 hq.2 k.tp.l.2 n.toNat 0 (by omega)
    unfold wf_check
    rw [← e]
    rfl
  · rw [if_neg hq, if_neg hq]

theorem p30_0 : ci_I p30_rel t0 := ⟨cK_0, mK_0, p30_rel0⟩
set_option maxHeartbeats 1000000 in
theorem law_p30 {sc : List Int32} (hl : sc.length ≤ 3584) : hy_W sc hm_law 300 10 [.inr (some 0), .inr (some 2), .inr (some 59), .inl 0] [] t0 (fun r _ => r = some 1) := by
  have main : ∀ (n i : Nat) (t : hy_T), sc.length ≤ n + i → i ≤ 90000 → ci_I p30_rel t → hy_W sc hm_law 300 10 [.inr (some 0), .inr (some 2), .inr (some 59), .inl (i : Int)] [] t (fun r _ => r = some 1) := by
    intro n
    induction n with
    | zero =>
      intro i t hn hi h
      exact law_head i ⟨by omega, hi⟩ (fun _ => law_end rfl) (fun h7 => by omega)
    | succ n ih =>
      intro i t hn hi0 h
      refine law_head i ⟨by omega, hi0⟩ (fun _ => law_end rfl) (fun h7 => ?_)
      have hi : i + 7 ≤ sc.length ∧ sc.length ≤ 90000 := ⟨h7, by omega⟩
      have fin : ∀ t2 : hy_T, ci_I p30_rel t2 → hy_W sc hm_law 300 982 [.inr (some 0), .inr (some 2), .inr (some 59), .inl (i : Int)] [] t2 (fun r _ => r = some 1) := fun t2 h2 =>
        law_next i hi0 (ih (i + 7) t2 (by omega) (by omega) h2)
      refine law_sw i hi (fun x tt hx htt => ?_)
      have hxr : 0 ≤ x ∧ x ≤ 31 := by rw [hx]; exact hz_iand_le (by decide)
      clear hx
      have cs : x = 0 ∨ x = 1 ∨ x = 2 ∨ x = 3 ∨ x = 4 ∨ x = 5 ∨ x = 6 ∨ x = 7 ∨ x = 8 ∨ x = 9 ∨ x = 10 ∨ x = 11 ∨ x = 12 ∨ x = 13 ∨ x = 14 ∨ x = 15 ∨ x = 16 ∨ x = 17 ∨ x = 18 ∨ x = 19 ∨ x = 20 ∨ x = 21 ∨ x = 22 ∨ x = 23 ∨ x = 24 ∨ x = 25 ∨ x = 26 ∨ x = 27 ∨ x = 28 ∨ x = 29 ∨ 29 < x := by omega
      rcases cs with rfl | rfl | rfl | rfl | rfl | rfl | rfl | rfl | rfl | rfl | rfl | rfl | rfl | rfl | rfl | rfl | rfl | rfl | rfl | rfl | rfl | rfl | rfl | rfl | rfl | rfl | rfl | rfl | rfl | rfl | hb
      · obtain rfl : tt = 22 := by simpa using htt.symm
        obtain ⟨a, b⟩ := pop p30_relF h (k0 (sc := sc) (a := sv sc (i + 1)) (b := sv sc (i + 2)) (c := sv sc (i + 3)) h.1) (fun t1 K => (m0 (sc := sc) (a := sv sc (i + 1)) (b := sv sc (i + 2)) (c := sv sc (i + 3)) K)) sw0 sm0 (fun r j q => by revert q; simp only [p30_Y, lawX, eX, lX, pX, fX, snX, brX, wyX, paX, trX, asX, gdX, lnX, lkX, lpX, lwcX, tyX, jyX, mkX, dzX, cpX, taX, glX, t1X, spX, dgX, kpX, mlawX, mvX, meX, mlX, mfaX, stX, hvX, pwX, btX, sgX, mlsX, jdX, tdX, dsX, enX, mftX, ldrX, wmX, maX, lwX, lrX, mrX, feX, ngX, trsX, dysX, gnX, t9X, spmX, kpmX, udX, Bool.or_eq_true, Bool.and_eq_true, decide_eq_true_eq, decide_eq_false_iff_not, beq_iff_eq, Bool.or_eq_false_iff, Bool.and_eq_false_iff, beq_eq_false_iff_ne]; omega) (fun r j q => by revert q; simp only [p30_Y, lawX, eX, lX, pX, fX, snX, brX, wyX, paX, trX, asX, gdX, lnX, lkX, lpX, lwcX, tyX, jyX, mkX, dzX, cpX, taX, glX, t1X, spX, dgX, kpX, mlawX, mvX, meX, mlX, mfaX, stX, hvX, pwX, btX, sgX, mlsX, jdX, tdX, dsX, enX, mftX, ldrX, wmX, maX, lwX, lrX, mrX, feX, ngX, trsX, dysX, gnX, t9X, spmX, kpmX, udX, Bool.or_eq_true, Bool.and_eq_true, decide_eq_true_eq, decide_eq_false_iff_not, beq_iff_eq, Bool.or_eq_false_iff, Bool.and_eq_false_iff, beq_eq_false_iff_ne]; omega)
        exact law_c0 (by decide) (by decide) hi a b fin
      · obtain rfl : tt = 59 := by simpa using htt.symm
        obtain ⟨a, b⟩ := pop p30_relF h (k1 (sc := sc) (a := sv sc (i + 1)) (b := sv sc (i + 2)) (c := sv sc (i + 3)) h.1) (fun t1 K => (m1 (sc := sc) (a := sv sc (i + 1)) (b := sv sc (i + 2)) (c := sv sc (i + 3)) K)) sw1 sm1 (fun r j q => by revert q; simp only [p30_Y, lawX, eX, lX, pX, fX, snX, brX, wyX, paX, trX, asX, gdX, lnX, lkX, lpX, lwcX, tyX, jyX, mkX, dzX, cpX, taX, glX, t1X, spX, dgX, kpX, mlawX, mvX, meX, mlX, mfaX, stX, hvX, pwX, btX, sgX, mlsX, jdX, tdX, dsX, enX, mftX, ldrX, wmX, maX, lwX, lrX, mrX, feX, ngX, trsX, dysX, gnX, t9X, spmX, kpmX, udX, Bool.or_eq_true, Bool.and_eq_true, decide_eq_true_eq, decide_eq_false_iff_not, beq_iff_eq, Bool.or_eq_false_iff, Bool.and_eq_false_iff, beq_eq_false_iff_ne]; omega) (fun r j q => by revert q; simp only [p30_Y, lawX, eX, lX, pX, fX, snX, brX, wyX, paX, trX, asX, gdX, lnX, lkX, lpX, lwcX, tyX, jyX, mkX, dzX, cpX, taX, glX, t1X, spX, dgX, kpX, mlawX, mvX, meX, mlX, mfaX, stX, hvX, pwX, btX, sgX, mlsX, jdX, tdX, dsX, enX, mftX, ldrX, wmX, maX, lwX, lrX, mrX, feX, ngX, trsX, dysX, gnX, t9X, spmX, kpmX, udX, Bool.or_eq_true, Bool.and_eq_true, decide_eq_true_eq, decide_eq_false_iff_not, beq_iff_eq, Bool.or_eq_false_iff, Bool.and_eq_false_iff, beq_eq_false_iff_ne]; omega)
        exact law_c1 (by decide) (by decide) hi a b fin
      · obtain rfl : tt = 96 := by simpa using htt.symm
        obtain ⟨a, b⟩ := two h (k2x (sc := sc) (a := sv sc (i + 1)) (b := sv sc (i + 2)) (c := sv sc (i + 3)) h.1) (fun t1 K => m2x (sc := sc) (a := sv sc (i + 1)) (b := sv sc (i + 2)) (c := sv sc (i + 3)) K) sw2 sm2 (fun r1 t1 r2 t2 F _ F2 q1 q2 => p30_owner h.2.2 F F2 q1 q2)
        exact law_c2 (by decide) (by decide) hi a b fin
      · obtain rfl : tt = 133 := by simpa using htt.symm
        obtain ⟨a, b⟩ := two h (k3 (sc := sc) (a := sv sc (i + 1)) (b := sv sc (i + 2)) (c := sv sc (i + 3)) (d := sv sc (i + 4)) (e := sv sc (i + 5)) h.1) (fun t1 K => m3 (sc := sc) (a := sv sc (i + 1)) (b := sv sc (i + 2)) (c := sv sc (i + 3)) (d := sv sc (i + 4)) (e := sv sc (i + 5)) K) sw3 sm3 (fun r1 t1 r2 t2 F _ F2 q1 q2 => p30_feed h.1 h.2.2 F F2 q1 q2)
        exact law_c3 (by decide) (by decide) hi a b fin
      · obtain rfl : tt = 190 := by simpa using htt.symm
        obtain ⟨a, b⟩ := two h (k4 (sc := sc) (n := sv sc (i + 1)) h.1) (fun t1 K => m4 (sc := sc) (n := sv sc (i + 1)) K) sw4 sm4 (fun r1 t1 r2 t2 F _ F2 q1 q2 => p30_len h.2.2 F F2 (fun r j q => by revert q; simp only [p30_Z, lawX, eX, lX, pX, fX, snX, brX, wyX, paX, trX, asX, gdX, lnX, lkX, lpX, lwcX, tyX, jyX, mkX, dzX, cpX, taX, glX, t1X, spX, dgX, kpX, mlawX, mvX, meX, mlX, mfaX, stX, hvX, pwX, btX, sgX, mlsX, jdX, tdX, dsX, enX, mftX, ldrX, wmX, maX, lwX, lrX, mrX, feX, ngX, trsX, dysX, gnX, t9X, spmX, kpmX, udX, Bool.or_eq_true, Bool.and_eq_true, decide_eq_true_eq, decide_eq_false_iff_not, beq_iff_eq, Bool.or_eq_false_iff, Bool.and_eq_false_iff, beq_eq_false_iff_ne]; omega) (fun r j q => by revert q; simp only [p30_Z, lawX, eX, lX, pX, fX, snX, brX, wyX, paX, trX, asX, gdX, lnX, lkX, lpX, lwcX, tyX, jyX, mkX, dzX, cpX, taX, glX, t1X, spX, dgX, kpX, mlawX, mvX, meX, mlX, mfaX, stX, hvX, pwX, btX, sgX, mlsX, jdX, tdX, dsX, enX, mftX, ldrX, wmX, maX, lwX, lrX, mrX, feX, ngX, trsX, dysX, gnX, t9X, spmX, kpmX, udX, Bool.or_eq_true, Bool.and_eq_true, decide_eq_true_eq, decide_eq_false_iff_not, beq_iff_eq, Bool.or_eq_false_iff, Bool.and_eq_false_iff, beq_eq_false_iff_ne]; omega) (p5_law h.2.2.1.1.1 F F2 q1.2 q2))
        exact law_c4 (by decide) (by decide) hi a b fin
      · obtain rfl : tt = 207 := by simpa using htt.symm
        obtain ⟨a, b⟩ := two h (k5 (sc := sc) (n := sv sc (i + 1)) h.1) (fun t1 K => m5 (sc := sc) (n := sv sc (i + 1)) K) sw5 sm5 (fun r1 t1 r2 t2 F _ F2 q1 q2 => p30_len h.2.2 F F2 (fun r j q => by revert q; simp only [p30_Z, lawX, eX, lX, pX, fX, snX, brX, wyX, paX, trX, asX, gdX, lnX, lkX, lpX, lwcX, tyX, jyX, mkX, dzX, cpX, taX, glX, t1X, spX, dgX, kpX, mlawX, mvX, meX, mlX, mfaX, stX, hvX, pwX, btX, sgX, mlsX, jdX, tdX, dsX, enX, mftX, ldrX, wmX, maX, lwX, lrX, mrX, feX, ngX, trsX, dysX, gnX, t9X, spmX, kpmX, udX, Bool.or_eq_true, Bool.and_eq_true, decide_eq_true_eq, decide_eq_false_iff_not, beq_iff_eq, Bool.or_eq_false_iff, Bool.and_eq_false_iff, beq_eq_false_iff_ne]; omega) (fun r j q => by revert q; simp only [p30_Z, lawX, eX, lX, pX, fX, snX, brX, wyX, paX, trX, asX, gdX, lnX, lkX, lpX, lwcX, tyX, jyX, mkX, dzX, cpX, taX, glX, t1X, spX, dgX, kpX, mlawX, mvX, meX, mlX, mfaX, stX, hvX, pwX, btX, sgX, mlsX, jdX, tdX, dsX, enX, mftX, ldrX, wmX, maX, lwX, lrX, mrX, feX, ngX, trsX, dysX, gnX, t9X, spmX, kpmX, udX, Bool.or_eq_true, Bool.and_eq_true, decide_eq_true_eq, decide_eq_false_iff_not, beq_iff_eq, Bool.or_eq_false_iff, Bool.and_eq_false_iff, beq_eq_false_iff_ne]; omega) (p5_land h.1 h.2.2.1.1.1 F F2 q1.2 q2))
        exact law_c5 (by decide) (by decide) hi a b fin
      · obtain rfl : tt = 224 := by simpa using htt.symm
        obtain ⟨a, b⟩ := two h (k6 (sc := sc) (n := sv sc (i + 1)) h.1) (fun t1 K => m6 (sc := sc) (n := sv sc (i + 1)) K) sw6 sm6 (fun r1 t1 r2 t2 F _ F2 q1 q2 => p30_len h.2.2 F F2 (fun r j q => by revert q; simp only [p30_Z, lawX, eX, lX, pX, fX, snX, brX, wyX, paX, trX, asX, gdX, lnX, lkX, lpX, lwcX, tyX, jyX, mkX, dzX, cpX, taX, glX, t1X, spX, dgX, kpX, mlawX, mvX, meX, mlX, mfaX, stX, hvX, pwX, btX, sgX, mlsX, jdX, tdX, dsX, enX, mftX, ldrX, wmX, maX, lwX, lrX, mrX, feX, ngX, trsX, dysX, gnX, t9X, spmX, kpmX, udX, Bool.or_eq_true, Bool.and_eq_true, decide_eq_true_eq, decide_eq_false_iff_not, beq_iff_eq, Bool.or_eq_false_iff, Bool.and_eq_false_iff, beq_eq_false_iff_ne]; omega) (fun r j q => by revert q; simp only [p30_Z, lawX, eX, lX, pX, fX, snX, brX, wyX, paX, trX, asX, gdX, lnX, lkX, lpX, lwcX, tyX, jyX, mkX, dzX, cpX, taX, glX, t1X, spX, dgX, kpX, mlawX, mvX, meX, mlX, mfaX, stX, hvX, pwX, btX, sgX, mlsX, jdX, tdX, dsX, enX, mftX, ldrX, wmX, maX, lwX, lrX, mrX, feX, ngX, trsX, dysX, gnX, t9X, spmX, kpmX, udX, Bool.or_eq_true, Bool.and_eq_true, decide_eq_true_eq, decide_eq_false_iff_not, beq_iff_eq, Bool.or_eq_false_iff, Bool.and_eq_false_iff, beq_eq_false_iff_ne]; omega) (p5_lines h.2.2.1.1.1 F F2 rfl rfl q1 q2))
        exact law_c6 (by decide) (by decide) hi a b fin
      · obtain rfl : tt = 241 := by simpa using htt.symm
        obtain ⟨a, b⟩ := two h (k7 (sc := sc) (n := sv sc (i + 1)) h.1) (fun t1 K => m7 (sc := sc) (n := sv sc (i + 1)) K) sw7 sm7 (fun r1 t1 r2 t2 F _ F2 q1 q2 => p30_len h.2.2 F F2 (fun r j q => by revert q; simp only [p30_Z, lawX, eX, lX, pX, fX, snX, brX, wyX, paX, trX, asX, gdX, lnX, lkX, lpX, lwcX, tyX, jyX, mkX, dzX, cpX, taX, glX, t1X, spX, dgX, kpX, mlawX, mvX, meX, mlX, mfaX, stX, hvX, pwX, btX, sgX, mlsX, jdX, tdX, dsX, enX, mftX, ldrX, wmX, maX, lwX, lrX, mrX, feX, ngX, trsX, dysX, gnX, t9X, spmX, kpmX, udX, Bool.or_eq_true, Bool.and_eq_true, decide_eq_true_eq, decide_eq_false_iff_not, beq_iff_eq, Bool.or_eq_false_iff, Bool.and_eq_false_iff, beq_eq_false_iff_ne]; omega) (fun r j q => by revert q; simp only [p30_Z, lawX, eX, lX, pX, fX, snX, brX, wyX, paX, trX, asX, gdX, lnX, lkX, lpX, lwcX, tyX, jyX, mkX, dzX, cpX, taX, glX, t1X, spX, dgX, kpX, mlawX, mvX, meX, mlX, mfaX, stX, hvX, pwX, btX, sgX, mlsX, jdX, tdX, dsX, enX, mftX, ldrX, wmX, maX, lwX, lrX, mrX, feX, ngX, trsX, dysX, gnX, t9X, spmX, kpmX, udX, Bool.or_eq_true, Bool.and_eq_true, decide_eq_true_eq, decide_eq_false_iff_not, beq_iff_eq, Bool.or_eq_false_iff, Bool.and_eq_false_iff, beq_eq_false_iff_ne]; omega) (p5_lines h.2.2.1.1.1 F F2 rfl rfl q1 q2))
        exact law_c7 (by decide) (by decide) hi a b fin
      · obtain rfl : tt = 258 := by simpa using htt.symm
        obtain ⟨a, b⟩ := pop p30_relF h (k8 (sc := sc) (n := sv sc (i + 1)) h.1) (fun t1 K => (m8 (sc := sc) (n := sv sc (i + 1)) K)) sw8 sm8 (fun r j q => by revert q; simp only [p30_Y, lawX, eX, lX, pX, fX, snX, brX, wyX, paX, trX, asX, gdX, lnX, lkX, lpX, lwcX, tyX, jyX, mkX, dzX, cpX, taX, glX, t1X, spX, dgX, kpX, mlawX, mvX, meX, mlX, mfaX, stX, hvX, pwX, btX, sgX, mlsX, jdX, tdX, dsX, enX, mftX, ldrX, wmX, maX, lwX, lrX, mrX, feX, ngX, trsX, dysX, gnX, t9X, spmX, kpmX, udX, Bool.or_eq_true, Bool.and_eq_true, decide_eq_true_eq, decide_eq_false_iff_not, beq_iff_eq, Bool.or_eq_false_iff, Bool.and_eq_false_iff, beq_eq_false_iff_ne]; omega) (fun r j q => by revert q; simp only [p30_Y, lawX, eX, lX, pX, fX, snX, brX, wyX, paX, trX, asX, gdX, lnX, lkX, lpX, lwcX, tyX, jyX, mkX, dzX, cpX, taX, glX, t1X, spX, dgX, kpX, mlawX, mvX, meX, mlX, mfaX, stX, hvX, pwX, btX, sgX, mlsX, jdX, tdX, dsX, enX, mftX, ldrX, wmX, maX, lwX, lrX, mrX, feX, ngX, trsX, dysX, gnX, t9X, spmX, kpmX, udX, Bool.or_eq_true, Bool.and_eq_true, decide_eq_true_eq, decide_eq_false_iff_not, beq_iff_eq, Bool.or_eq_false_iff, Bool.and_eq_false_iff, beq_eq_false_iff_ne]; omega)
        exact law_c8 (by decide) (by decide) hi a b fin
      · obtain rfl : tt = 275 := by simpa using htt.symm
        obtain ⟨a, b⟩ := pop p30_relF h (k9 (sc := sc) (n := sv sc (i + 1)) (w := sv sc (i + 2)) h.1) (fun t1 K => (m9 (sc := sc) (n := sv sc (i + 1)) (w := sv sc (i + 2)) K)) sw9 sm9 (fun r j q => by revert q; simp only [p30_Y, lawX, eX, lX, pX, fX, snX, brX, wyX, paX, trX, asX, gdX, lnX, lkX, lpX, lwcX, tyX, jyX, mkX, dzX, cpX, taX, glX, t1X, spX, dgX, kpX, mlawX, mvX, meX, mlX, mfaX, stX, hvX, pwX, btX, sgX, mlsX, jdX, tdX, dsX, enX, mftX, ldrX, wmX, maX, lwX, lrX, mrX, feX, ngX, trsX, dysX, gnX, t9X, spmX, kpmX, udX, Bool.or_eq_true, Bool.and_eq_true, decide_eq_true_eq, decide_eq_false_iff_not, beq_iff_eq, Bool.or_eq_false_iff, Bool.and_eq_false_iff, beq_eq_false_iff_ne]; omega) (fun r j q => by revert q; simp only [p30_Y, lawX, eX, lX, pX, fX, snX, brX, wyX, paX, trX, asX, gdX, lnX, lkX, lpX, lwcX, tyX, jyX, mkX, dzX, cpX, taX, glX, t1X, spX, dgX, kpX, mlawX, mvX, meX, mlX, mfaX, stX, hvX, pwX, btX, sgX, mlsX, jdX, tdX, dsX, enX, mftX, ldrX, wmX, maX, lwX, lrX, mrX, feX, ngX, trsX, dysX, gnX, t9X, spmX, kpmX, udX, Bool.or_eq_true, Bool.and_eq_true, decide_eq_true_eq, decide_eq_false_iff_not, beq_iff_eq, Bool.or_eq_false_iff, Bool.and_eq_false_iff, beq_eq_false_iff_ne]; omega)
        exact law_c9 (by decide) (by decide) hi a b fin
      · obtain rfl : tt = 302 := by simpa using htt.symm
        obtain ⟨a, b⟩ := pop p30_relF h (k10 (sc := sc) (n := sv sc (i + 1)) (w := sv sc (i + 2)) h.1) (fun t1 K => (m10 (sc := sc) (n := sv sc (i + 1)) (w := sv sc (i + 2)) K)) sw10 sm10 (fun _ _ _ => rfl) (fun _ _ _ => rfl)
        exact law_c10 (by decide) (by decide) hi a b fin
      · obtain rfl : tt = 329 := by simpa using htt.symm
        obtain ⟨a, b⟩ := pop p30_relF h (k11 (sc := sc) (a := sv sc (i + 1)) (b := sv sc (i + 2)) (c := sv sc (i + 3)) h.1) (fun t1 K => (m11 (sc := sc) (a := sv sc (i + 1)) (b := sv sc (i + 2)) (c := sv sc (i + 3)) K)) sw11 sm11 (fun r j q => by revert q; simp only [p30_Y, lawX, eX, lX, pX, fX, snX, brX, wyX, paX, trX, asX, gdX, lnX, lkX, lpX, lwcX, tyX, jyX, mkX, dzX, cpX, taX, glX, t1X, spX, dgX, kpX, mlawX, mvX, meX, mlX, mfaX, stX, hvX, pwX, btX, sgX, mlsX, jdX, tdX, dsX, enX, mftX, ldrX, wmX, maX, lwX, lrX, mrX, feX, ngX, trsX, dysX, gnX, t9X, spmX, kpmX, udX, Bool.or_eq_true, Bool.and_eq_true, decide_eq_true_eq, decide_eq_false_iff_not, beq_iff_eq, Bool.or_eq_false_iff, Bool.and_eq_false_iff, beq_eq_false_iff_ne]; omega) (fun r j q => by revert q; simp only [p30_Y, lawX, eX, lX, pX, fX, snX, brX, wyX, paX, trX, asX, gdX, lnX, lkX, lpX, lwcX, tyX, jyX, mkX, dzX, cpX, taX, glX, t1X, spX, dgX, kpX, mlawX, mvX, meX, mlX, mfaX, stX, hvX, pwX, btX, sgX, mlsX, jdX, tdX, dsX, enX, mftX, ldrX, wmX, maX, lwX, lrX, mrX, feX, ngX, trsX, dysX, gnX, t9X, spmX, kpmX, udX, Bool.or_eq_true, Bool.and_eq_true, decide_eq_true_eq, decide_eq_false_iff_not, beq_iff_eq, Bool.or_eq_false_iff, Bool.and_eq_false_iff, beq_eq_false_iff_ne]; omega)
        exact law_c11 (by decide) (by decide) hi a b fin
      · obtain rfl : tt = 366 := by simpa using htt.symm
        obtain ⟨a, b⟩ := pop p30_relF h (k12 (sc := sc) (a := sv sc (i + 1)) (b := sv sc (i + 2)) (c := sv sc (i + 3)) h.1) (fun t1 K => (m12 (sc := sc) (a := sv sc (i + 1)) (b := sv sc (i + 2)) (c := sv sc (i + 3)) K)) sw12 sm12 (fun r j q => by revert q; simp only [p30_Y, lawX, eX, lX, pX, fX, snX, brX, wyX, paX, trX, asX, gdX, lnX, lkX, lpX, lwcX, tyX, jyX, mkX, dzX, cpX, taX, glX, t1X, spX, dgX, kpX, mlawX, mvX, meX, mlX, mfaX, stX, hvX, pwX, btX, sgX, mlsX, jdX, tdX, dsX, enX, mftX, ldrX, wmX, maX, lwX, lrX, mrX, feX, ngX, trsX, dysX, gnX, t9X, spmX, kpmX, udX, Bool.or_eq_true, Bool.and_eq_true, decide_eq_true_eq, decide_eq_false_iff_not, beq_iff_eq, Bool.or_eq_false_iff, Bool.and_eq_false_iff, beq_eq_false_iff_ne]; omega) (fun r j q => by revert q; simp only [p30_Y, lawX, eX, lX, pX, fX, snX, brX, wyX, paX, trX, asX, gdX, lnX, lkX, lpX, lwcX, tyX, jyX, mkX, dzX, cpX, taX, glX, t1X, spX, dgX, kpX, mlawX, mvX, meX, mlX, mfaX, stX, hvX, pwX, btX, sgX, mlsX, jdX, tdX, dsX, enX, mftX, ldrX, wmX, maX, lwX, lrX, mrX, feX, ngX, trsX, dysX, gnX, t9X, spmX, kpmX, udX, Bool.or_eq_true, Bool.and_eq_true, decide_eq_true_eq, decide_eq_false_iff_not, beq_iff_eq, Bool.or_eq_false_iff, Bool.and_eq_false_iff, beq_eq_false_iff_ne]; omega)
        exact law_c12 (by decide) (by decide) hi a b fin
      · obtain rfl : tt = 403 := by simpa using htt.symm
        obtain ⟨a, b⟩ := pop p30_relF h (k13 (sc := sc) (a := sv sc (i + 1)) (b := sv sc (i + 2)) (c := sv sc (i + 3)) (d := sv sc (i + 4)) h.1) (fun t1 K => (m13 (sc := sc) (a := sv sc (i + 1)) (b := sv sc (i + 2)) (c := sv sc (i + 3)) (d := sv sc (i + 4)) K)) sw13 sm13 (fun r j q => by revert q; simp only [p30_Y, lawX, eX, lX, pX, fX, snX, brX, wyX, paX, trX, asX, gdX, lnX, lkX, lpX, lwcX, tyX, jyX, mkX, dzX, cpX, taX, glX, t1X, spX, dgX, kpX, mlawX, mvX, meX, mlX, mfaX, stX, hvX, pwX, btX, sgX, mlsX, jdX, tdX, dsX, enX, mftX, ldrX, wmX, maX, lwX, lrX, mrX, feX, ngX, trsX, dysX, gnX, t9X, spmX, kpmX, udX, Bool.or_eq_true, Bool.and_eq_true, decide_eq_true_eq, decide_eq_false_iff_not, beq_iff_eq, Bool.or_eq_false_iff, Bool.and_eq_false_iff, beq_eq_false_iff_ne]; omega) (fun r j q => by revert q; simp only [p30_Y, lawX, eX, lX, pX, fX, snX, brX, wyX, paX, trX, asX, gdX, lnX, lkX, lpX, lwcX, tyX, jyX, mkX, dzX, cpX, taX, glX, t1X, spX, dgX, kpX, mlawX, mvX, meX, mlX, mfaX, stX, hvX, pwX, btX, sgX, mlsX, jdX, tdX, dsX, enX, mftX, ldrX, wmX, maX, lwX, lrX, mrX, feX, ngX, trsX, dysX, gnX, t9X, spmX, kpmX, udX, Bool.or_eq_true, Bool.and_eq_true, decide_eq_true_eq, decide_eq_false_iff_not, beq_iff_eq, Bool.or_eq_false_iff, Bool.and_eq_false_iff, beq_eq_false_iff_ne]; omega)
        exact law_c13 (by decide) (by decide) hi a b fin
      · obtain rfl : tt = 450 := by simpa using htt.symm
        obtain ⟨a, b⟩ := pop p30_relF h (k14 (sc := sc) (a := sv sc (i + 1)) (b := sv sc (i + 2)) (c := sv sc (i + 3)) (d := sv sc (i + 4)) (e := sv sc (i + 5)) h.1) (fun t1 K => (m14 (sc := sc) (a := sv sc (i + 1)) (b := sv sc (i + 2)) (c := sv sc (i + 3)) (d := sv sc (i + 4)) (e := sv sc (i + 5)) K)) sw14 sm14 (fun r j q => by revert q; simp only [p30_Y, lawX, eX, lX, pX, fX, snX, brX, wyX, paX, trX, asX, gdX, lnX, lkX, lpX, lwcX, tyX, jyX, mkX, dzX, cpX, taX, glX, t1X, spX, dgX, kpX, mlawX, mvX, meX, mlX, mfaX, stX, hvX, pwX, btX, sgX, mlsX, jdX, tdX, dsX, enX, mftX, ldrX, wmX, maX, lwX, lrX, mrX, feX, ngX, trsX, dysX, gnX, t9X, spmX, kpmX, udX, Bool.or_eq_true, Bool.and_eq_true, decide_eq_true_eq, decide_eq_false_iff_not, beq_iff_eq, Bool.or_eq_false_iff, Bool.and_eq_false_iff, beq_eq_false_iff_ne]; omega) (fun r j q => by revert q; simp only [p30_Y, lawX, eX, lX, pX, fX, snX, brX, wyX, paX, trX, asX, gdX, lnX, lkX, lpX, lwcX, tyX, jyX, mkX, dzX, cpX, taX, glX, t1X, spX, dgX, kpX, mlawX, mvX, meX, mlX, mfaX, stX, hvX, pwX, btX, sgX, mlsX, jdX, tdX, dsX, enX, mftX, ldrX, wmX, maX, lwX, lrX, mrX, feX, ngX, trsX, dysX, gnX, t9X, spmX, kpmX, udX, Bool.or_eq_true, Bool.and_eq_true, decide_eq_true_eq, decide_eq_false_iff_not, beq_iff_eq, Bool.or_eq_false_iff, Bool.and_eq_false_iff, beq_eq_false_iff_ne]; omega)
        exact law_c14 (by decide) (by decide) hi a b fin
      · obtain rfl : tt = 507 := by simpa using htt.symm
        obtain ⟨a, b⟩ := pop p30_relF h (k15 (sc := sc) (a := sv sc (i + 1)) (b := sv sc (i + 2)) (c := sv sc (i + 3)) (d := sv sc (i + 4)) (e := sv sc (i + 5)) (f := sv sc (i + 6)) h.1) (fun t1 K => (m15 (sc := sc) (a := sv sc (i + 1)) (b := sv sc (i + 2)) (c := sv sc (i + 3)) (d := sv sc (i + 4)) (e := sv sc (i + 5)) (f := sv sc (i + 6)) K)) sw15 sm15 (fun r j q => by revert q; simp only [p30_Y, lawX, eX, lX, pX, fX, snX, brX, wyX, paX, trX, asX, gdX, lnX, lkX, lpX, lwcX, tyX, jyX, mkX, dzX, cpX, taX, glX, t1X, spX, dgX, kpX, mlawX, mvX, meX, mlX, mfaX, stX, hvX, pwX, btX, sgX, mlsX, jdX, tdX, dsX, enX, mftX, ldrX, wmX, maX, lwX, lrX, mrX, feX, ngX, trsX, dysX, gnX, t9X, spmX, kpmX, udX, Bool.or_eq_true, Bool.and_eq_true, decide_eq_true_eq, decide_eq_false_iff_not, beq_iff_eq, Bool.or_eq_false_iff, Bool.and_eq_false_iff, beq_eq_false_iff_ne]; omega) (fun r j q => by revert q; simp only [p30_Y, lawX, eX, lX, pX, fX, snX, brX, wyX, paX, trX, asX, gdX, lnX, lkX, lpX, lwcX, tyX, jyX, mkX, dzX, cpX, taX, glX, t1X, spX, dgX, kpX, mlawX, mvX, meX, mlX, mfaX, stX, hvX, pwX, btX, sgX, mlsX, jdX, tdX, dsX, enX, mftX, ldrX, wmX, maX, lwX, lrX, mrX, feX, ngX, trsX, dysX, gnX, t9X, spmX, kpmX, udX, Bool.or_eq_true, Bool.and_eq_true, decide_eq_true_eq, decide_eq_false_iff_not, beq_iff_eq, Bool.or_eq_false_iff, Bool.and_eq_false_iff, beq_eq_false_iff_ne]; omega)
        exact law_c15 (by decide) (by decide) hi a b fin
      · obtain rfl : tt = 574 := by simpa using htt.symm
        obtain ⟨a, b⟩ := pop p30_relF h (k16 (sc := sc) (a := sv sc (i + 1)) (b := sv sc (i + 2)) h.1) (fun t1 K => (m16 (sc := sc) (a := sv sc (i + 1)) (b := sv sc (i + 2)) K)) sw16 sm16 (fun r j q => by revert q; simp only [p30_Y, lawX, eX, lX, pX, fX, snX, brX, wyX, paX, trX, asX, gdX, lnX, lkX, lpX, lwcX, tyX, jyX, mkX, dzX, cpX, taX, glX, t1X, spX, dgX, kpX, mlawX, mvX, meX, mlX, mfaX, stX, hvX, pwX, btX, sgX, mlsX, jdX, tdX, dsX, enX, mftX, ldrX, wmX, maX, lwX, lrX, mrX, feX, ngX, trsX, dysX, gnX, t9X, spmX, kpmX, udX, Bool.or_eq_true, Bool.and_eq_true, decide_eq_true_eq, decide_eq_false_iff_not, beq_iff_eq, Bool.or_eq_false_iff, Bool.and_eq_false_iff, beq_eq_false_iff_ne]; omega) (fun r j q => by revert q; simp only [p30_Y, lawX, eX, lX, pX, fX, snX, brX, wyX, paX, trX, asX, gdX, lnX, lkX, lpX, lwcX, tyX, jyX, mkX, dzX, cpX, taX, glX, t1X, spX, dgX, kpX, mlawX, mvX, meX, mlX, mfaX, stX, hvX, pwX, btX, sgX, mlsX, jdX, tdX, dsX, enX, mftX, ldrX, wmX, maX, lwX, lrX, mrX, feX, ngX, trsX, dysX, gnX, t9X, spmX, kpmX, udX, Bool.or_eq_true, Bool.and_eq_true, decide_eq_true_eq, decide_eq_false_iff_not, beq_iff_eq, Bool.or_eq_false_iff, Bool.and_eq_false_iff, beq_eq_false_iff_ne]; omega)
        exact law_c16 (by decide) (by decide) hi a b fin
      · obtain rfl : tt = 601 := by simpa using htt.symm
        obtain ⟨a, b⟩ := pop p30_relF h (k17 (sc := sc) (a := sv sc (i + 1)) (b := sv sc (i + 2)) (c := sv sc (i + 3)) h.1) (fun t1 K => (m17 (sc := sc) (a := sv sc (i + 1)) (b := sv sc (i + 2)) (c := sv sc (i + 3)) K)) sw17 sm17 (fun r j q => by revert q; simp only [p30_Y, lawX, eX, lX, pX, fX, snX, brX, wyX, paX, trX, asX, gdX, lnX, lkX, lpX, lwcX, tyX, jyX, mkX, dzX, cpX, taX, glX, t1X, spX, dgX, kpX, mlawX, mvX, meX, mlX, mfaX, stX, hvX, pwX, btX, sgX, mlsX, jdX, tdX, dsX, enX, mftX, ldrX, wmX, maX, lwX, lrX, mrX, feX, ngX, trsX, dysX, gnX, t9X, spmX, kpmX, udX, Bool.or_eq_true, Bool.and_eq_true, decide_eq_true_eq, decide_eq_false_iff_not, beq_iff_eq, Bool.or_eq_false_iff, Bool.and_eq_false_iff, beq_eq_false_iff_ne]; omega) (fun r j q => by revert q; simp only [p30_Y, lawX, eX, lX, pX, fX, snX, brX, wyX, paX, trX, asX, gdX, lnX, lkX, lpX, lwcX, tyX, jyX, mkX, dzX, cpX, taX, glX, t1X, spX, dgX, kpX, mlawX, mvX, meX, mlX, mfaX, stX, hvX, pwX, btX, sgX, mlsX, jdX, tdX, dsX, enX, mftX, ldrX, wmX, maX, lwX, lrX, mrX, feX, ngX, trsX, dysX, gnX, t9X, spmX, kpmX, udX, Bool.or_eq_true, Bool.and_eq_true, decide_eq_true_eq, decide_eq_false_iff_not, beq_iff_eq, Bool.or_eq_false_iff, Bool.and_eq_false_iff, beq_eq_false_iff_ne]; omega)
        exact law_c17 (by decide) (by decide) hi a b fin
      · obtain rfl : tt = 638 := by simpa using htt.symm
        obtain ⟨a, b⟩ := pop p30_relF h (k18 (sc := sc) (a := sv sc (i + 1)) (b := sv sc (i + 2)) (c := sv sc (i + 3)) (d := sv sc (i + 4)) (e := sv sc (i + 5)) h.1) (fun t1 K => (m18 (sc := sc) (a := sv sc (i + 1)) (b := sv sc (i + 2)) (c := sv sc (i + 3)) (d := sv sc (i + 4)) (e := sv sc (i + 5)) K)) sw18 sm18 (fun r j q => by revert q; simp only [p30_Y, lawX, eX, lX, pX, fX, snX, brX, wyX, paX, trX, asX, gdX, lnX, lkX, lpX, lwcX, tyX, jyX, mkX, dzX, cpX, taX, glX, t1X, spX, dgX, kpX, mlawX, mvX, meX, mlX, mfaX, stX, hvX, pwX, btX, sgX, mlsX, jdX, tdX, dsX, enX, mftX, ldrX, wmX, maX, lwX, lrX, mrX, feX, ngX, trsX, dysX, gnX, t9X, spmX, kpmX, udX, Bool.or_eq_true, Bool.and_eq_true, decide_eq_true_eq, decide_eq_false_iff_not, beq_iff_eq, Bool.or_eq_false_iff, Bool.and_eq_false_iff, beq_eq_false_iff_ne]; omega) (fun r j q => by revert q; simp only [p30_Y, lawX, eX, lX, pX, fX, snX, brX, wyX, paX, trX, asX, gdX, lnX, lkX, lpX, lwcX, tyX, jyX, mkX, dzX, cpX, taX, glX, t1X, spX, dgX, kpX, mlawX, mvX, meX, mlX, mfaX, stX, hvX, pwX, btX, sgX, mlsX, jdX, tdX, dsX, enX, mftX, ldrX, wmX, maX, lwX, lrX, mrX, feX, ngX, trsX, dysX, gnX, t9X, spmX, kpmX, udX, Bool.or_eq_true, Bool.and_eq_true, decide_eq_true_eq, decide_eq_false_iff_not, beq_iff_eq, Bool.or_eq_false_iff, Bool.and_eq_false_iff, beq_eq_false_iff_ne]; omega)
        exact law_c18 (by decide) (by decide) hi a b fin
      · obtain rfl : tt = 695 := by simpa using htt.symm
        obtain ⟨a, b⟩ := pop p30_relF h (k19 (sc := sc) (a := sv sc (i + 1)) (b := sv sc (i + 2)) (c := sv sc (i + 3)) (d := sv sc (i + 4)) (e := sv sc (i + 5)) h.1) (fun t1 K => (m19 (sc := sc) (a := sv sc (i + 1)) (b := sv sc (i + 2)) (c := sv sc (i + 3)) (d := sv sc (i + 4)) (e := sv sc (i + 5)) K)) sw19 sm19 (fun r j q => by revert q; simp only [p30_Y, lawX, eX, lX, pX, fX, snX, brX, wyX, paX, trX, asX, gdX, lnX, lkX, lpX, lwcX, tyX, jyX, mkX, dzX, cpX, taX, glX, t1X, spX, dgX, kpX, mlawX, mvX, meX, mlX, mfaX, stX, hvX, pwX, btX, sgX, mlsX, jdX, tdX, dsX, enX, mftX, ldrX, wmX, maX, lwX, lrX, mrX, feX, ngX, trsX, dysX, gnX, t9X, spmX, kpmX, udX, Bool.or_eq_true, Bool.and_eq_true, decide_eq_true_eq, decide_eq_false_iff_not, beq_iff_eq, Bool.or_eq_false_iff, Bool.and_eq_false_iff, beq_eq_false_iff_ne]; omega) (fun r j q => by revert q; simp only [p30_Y, lawX, eX, lX, pX, fX, snX, brX, wyX, paX, trX, asX, gdX, lnX, lkX, lpX, lwcX, tyX, jyX, mkX, dzX, cpX, taX, glX, t1X, spX, dgX, kpX, mlawX, mvX, meX, mlX, mfaX, stX, hvX, pwX, btX, sgX, mlsX, jdX, tdX, dsX, enX, mftX, ldrX, wmX, maX, lwX, lrX, mrX, feX, ngX, trsX, dysX, gnX, t9X, spmX, kpmX, udX, Bool.or_eq_true, Bool.and_eq_true, decide_eq_true_eq, decide_eq_false_iff_not, beq_iff_eq, Bool.or_eq_false_iff, Bool.and_eq_false_iff, beq_eq_false_iff_ne]; omega)
        exact law_c19 (by decide) (by decide) hi a b fin
      · obtain rfl : tt = 752 := by simpa using htt.symm
        obtain ⟨a, b⟩ := two h (k20 (sc := sc) (m := sv sc (i + 1)) (w := sv sc (i + 2)) h.1) (fun t1 K => m20 (sc := sc) (m := sv sc (i + 1)) (w := sv sc (i + 2)) K) sw20 sm20 (fun r1 t1 r2 t2 F _ F2 q1 q2 => p30_len h.2.2 F F2 (fun r j q => by revert q; simp only [p30_Z, lawX, eX, lX, pX, fX, snX, brX, wyX, paX, trX, asX, gdX, lnX, lkX, lpX, lwcX, tyX, jyX, mkX, dzX, cpX, taX, glX, t1X, spX, dgX, kpX, mlawX, mvX, meX, mlX, mfaX, stX, hvX, pwX, btX, sgX, mlsX, jdX, tdX, dsX, enX, mftX, ldrX, wmX, maX, lwX, lrX, mrX, feX, ngX, trsX, dysX, gnX, t9X, spmX, kpmX, udX, Bool.or_eq_true, Bool.and_eq_true, decide_eq_true_eq, decide_eq_false_iff_not, beq_iff_eq, Bool.or_eq_false_iff, Bool.and_eq_false_iff, beq_eq_false_iff_ne]; omega) (fun r j q => by revert q; simp only [p30_Z, lawX, eX, lX, pX, fX, snX, brX, wyX, paX, trX, asX, gdX, lnX, lkX, lpX, lwcX, tyX, jyX, mkX, dzX, cpX, taX, glX, t1X, spX, dgX, kpX, mlawX, mvX, meX, mlX, mfaX, stX, hvX, pwX, btX, sgX, mlsX, jdX, tdX, dsX, enX, mftX, ldrX, wmX, maX, lwX, lrX, mrX, feX, ngX, trsX, dysX, gnX, t9X, spmX, kpmX, udX, Bool.or_eq_true, Bool.and_eq_true, decide_eq_true_eq, decide_eq_false_iff_not, beq_iff_eq, Bool.or_eq_false_iff, Bool.and_eq_false_iff, beq_eq_false_iff_ne]; omega) (p5_parted (hy_Ri _) h.2.2.1.1.1 F F2 q1 q2))
        exact law_c20 (by decide) (by decide) hi a b fin
      · obtain rfl : tt = 779 := by simpa using htt.symm
        obtain ⟨a, b⟩ := pop p30_relF h (k21 (sc := sc) (a := sv sc (i + 1)) (b := sv sc (i + 2)) (c := sv sc (i + 3)) (d := sv sc (i + 4)) h.1) (fun t1 K => (m21 (sc := sc) (a := sv sc (i + 1)) (b := sv sc (i + 2)) (c := sv sc (i + 3)) (d := sv sc (i + 4)) K)) sw21 sm21 (fun r j q => by revert q; simp only [p30_Y, lawX, eX, lX, pX, fX, snX, brX, wyX, paX, trX, asX, gdX, lnX, lkX, lpX, lwcX, tyX, jyX, mkX, dzX, cpX, taX, glX, t1X, spX, dgX, kpX, mlawX, mvX, meX, mlX, mfaX, stX, hvX, pwX, btX, sgX, mlsX, jdX, tdX, dsX, enX, mftX, ldrX, wmX, maX, lwX, lrX, mrX, feX, ngX, trsX, dysX, gnX, t9X, spmX, kpmX, udX, Bool.or_eq_true, Bool.and_eq_true, decide_eq_true_eq, decide_eq_false_iff_not, beq_iff_eq, Bool.or_eq_false_iff, Bool.and_eq_false_iff, beq_eq_false_iff_ne]; omega) (fun r j q => by revert q; simp only [p30_Y, lawX, eX, lX, pX, fX, snX, brX, wyX, paX, trX, asX, gdX, lnX, lkX, lpX, lwcX, tyX, jyX, mkX, dzX, cpX, taX, glX, t1X, spX, dgX, kpX, mlawX, mvX, meX, mlX, mfaX, stX, hvX, pwX, btX, sgX, mlsX, jdX, tdX, dsX, enX, mftX, ldrX, wmX, maX, lwX, lrX, mrX, feX, ngX, trsX, dysX, gnX, t9X, spmX, kpmX, udX, Bool.or_eq_true, Bool.and_eq_true, decide_eq_true_eq, decide_eq_false_iff_not, beq_iff_eq, Bool.or_eq_false_iff, Bool.and_eq_false_iff, beq_eq_false_iff_ne]; omega)
        exact law_c21 (by decide) (by decide) hi a b fin
      · obtain rfl : tt = 826 := by simpa using htt.symm
        obtain ⟨a, b⟩ := two h (k22 (sc := sc) (n := sv sc (i + 1)) (w := sv sc (i + 2)) h.1) (fun t1 K => m22 (sc := sc) (n := sv sc (i + 1)) (w := sv sc (i + 2)) K) sw22 sm22 (fun r1 t1 r2 t2 F _ F2 q1 q2 => p30_len h.2.2 F F2 (fun r j q => by revert q; simp only [p30_Z, lawX, eX, lX, pX, fX, snX, brX, wyX, paX, trX, asX, gdX, lnX, lkX, lpX, lwcX, tyX, jyX, mkX, dzX, cpX, taX, glX, t1X, spX, dgX, kpX, mlawX, mvX, meX, mlX, mfaX, stX, hvX, pwX, btX, sgX, mlsX, jdX, tdX, dsX, enX, mftX, ldrX, wmX, maX, lwX, lrX, mrX, feX, ngX, trsX, dysX, gnX, t9X, spmX, kpmX, udX, Bool.or_eq_true, Bool.and_eq_true, decide_eq_true_eq, decide_eq_false_iff_not, beq_iff_eq, Bool.or_eq_false_iff, Bool.and_eq_false_iff, beq_eq_false_iff_ne]; omega) (fun r j q => by revert q; simp only [p30_Z, lawX, eX, lX, pX, fX, snX, brX, wyX, paX, trX, asX, gdX, lnX, lkX, lpX, lwcX, tyX, jyX, mkX, dzX, cpX, taX, glX, t1X, spX, dgX, kpX, mlawX, mvX, meX, mlX, mfaX, stX, hvX, pwX, btX, sgX, mlsX, jdX, tdX, dsX, enX, mftX, ldrX, wmX, maX, lwX, lrX, mrX, feX, ngX, trsX, dysX, gnX, t9X, spmX, kpmX, udX, Bool.or_eq_true, Bool.and_eq_true, decide_eq_true_eq, decide_eq_false_iff_not, beq_iff_eq, Bool.or_eq_false_iff, Bool.and_eq_false_iff, beq_eq_false_iff_ne]; omega) (p5_spies h.2.2.1.1.1 F F2 q1 q2))
        exact law_c22 (by decide) (by decide) hi a b fin
      · obtain rfl : tt = 853 := by simpa using htt.symm
        obtain ⟨a, b⟩ := pop p30_relF h (k23 (sc := sc) (a := sv sc (i + 1)) (b := sv sc (i + 2)) h.1) (fun t1 K => (m23 (sc := sc) (a := sv sc (i + 1)) (b := sv sc (i + 2)) K)) sw23 sm23 (fun r j q => by revert q; simp only [p30_Y, lawX, eX, lX, pX, fX, snX, brX, wyX, paX, trX, asX, gdX, lnX, lkX, lpX, lwcX, tyX, jyX, mkX, dzX, cpX, taX, glX, t1X, spX, dgX, kpX, mlawX, mvX, meX, mlX, mfaX, stX, hvX, pwX, btX, sgX, mlsX, jdX, tdX, dsX, enX, mftX, ldrX, wmX, maX, lwX, lrX, mrX, feX, ngX, trsX, dysX, gnX, t9X, spmX, kpmX, udX, Bool.or_eq_true, Bool.and_eq_true, decide_eq_true_eq, decide_eq_false_iff_not, beq_iff_eq, Bool.or_eq_false_iff, Bool.and_eq_false_iff, beq_eq_false_iff_ne]; omega) (fun r j q => by revert q; simp only [p30_Y, lawX, eX, lX, pX, fX, snX, brX, wyX, paX, trX, asX, gdX, lnX, lkX, lpX, lwcX, tyX, jyX, mkX, dzX, cpX, taX, glX, t1X, spX, dgX, kpX, mlawX, mvX, meX, mlX, mfaX, stX, hvX, pwX, btX, sgX, mlsX, jdX, tdX, dsX, enX, mftX, ldrX, wmX, maX, lwX, lrX, mrX, feX, ngX, trsX, dysX, gnX, t9X, spmX, kpmX, udX, Bool.or_eq_true, Bool.and_eq_true, decide_eq_true_eq, decide_eq_false_iff_not, beq_iff_eq, Bool.or_eq_false_iff, Bool.and_eq_false_iff, beq_eq_false_iff_ne]; omega)
        exact law_c23 (by decide) (by decide) hi a b fin
      · obtain rfl : tt = 880 := by simpa using htt.symm
        obtain ⟨a, b⟩ := pop p30_relF h (k24 (sc := sc) (a := sv sc (i + 1)) (b := sv sc (i + 2)) (c := sv sc (i + 3)) h.1) (fun t1 K => (m24 (sc := sc) (a := sv sc (i + 1)) (b := sv sc (i + 2)) (c := sv sc (i + 3)) K)) sw24 sm24 (fun r j q => by revert q; simp only [p30_Y, lawX, eX, lX, pX, fX, snX, brX, wyX, paX, trX, asX, gdX, lnX, lkX, lpX, lwcX, tyX, jyX, mkX, dzX, cpX, taX, glX, t1X, spX, dgX, kpX, mlawX, mvX, meX, mlX, mfaX, stX, hvX, pwX, btX, sgX, mlsX, jdX, tdX, dsX, enX, mftX, ldrX, wmX, maX, lwX, lrX, mrX, feX, ngX, trsX, dysX, gnX, t9X, spmX, kpmX, udX, Bool.or_eq_true, Bool.and_eq_true, decide_eq_true_eq, decide_eq_false_iff_not, beq_iff_eq, Bool.or_eq_false_iff, Bool.and_eq_false_iff, beq_eq_false_iff_ne]; omega) (fun r j q => by revert q; simp only [p30_Y, lawX, eX, lX, pX, fX, snX, brX, wyX, paX, trX, asX, gdX, lnX, lkX, lpX, lwcX, tyX, jyX, mkX, dzX, cpX, taX, glX, t1X, spX, dgX, kpX, mlawX, mvX, meX, mlX, mfaX, stX, hvX, pwX, btX, sgX, mlsX, jdX, tdX, dsX, enX, mftX, ldrX, wmX, maX, lwX, lrX, mrX, feX, ngX, trsX, dysX, gnX, t9X, spmX, kpmX, udX, Bool.or_eq_true, Bool.and_eq_true, decide_eq_true_eq, decide_eq_false_iff_not, beq_iff_eq, Bool.or_eq_false_iff, Bool.and_eq_false_iff, beq_eq_false_iff_ne]; omega)
        exact law_c24 (by decide) (by decide) hi a b fin
      · obtain rfl : tt = 917 := by simpa using htt.symm
        obtain ⟨a, b⟩ := pop p30_relF h (k25 (sc := sc) (a := sv sc (i + 1)) h.1) (fun t1 K => (m25 (sc := sc) (a := sv sc (i + 1)) K)) sw25 sm25 (fun r j q => by revert q; simp only [p30_Y, lawX, eX, lX, pX, fX, snX, brX, wyX, paX, trX, asX, gdX, lnX, lkX, lpX, lwcX, tyX, jyX, mkX, dzX, cpX, taX, glX, t1X, spX, dgX, kpX, mlawX, mvX, meX, mlX, mfaX, stX, hvX, pwX, btX, sgX, mlsX, jdX, tdX, dsX, enX, mftX, ldrX, wmX, maX, lwX, lrX, mrX, feX, ngX, trsX, dysX, gnX, t9X, spmX, kpmX, udX, Bool.or_eq_true, Bool.and_eq_true, decide_eq_true_eq, decide_eq_false_iff_not, beq_iff_eq, Bool.or_eq_false_iff, Bool.and_eq_false_iff, beq_eq_false_iff_ne]; omega) (fun r j q => by revert q; simp only [p30_Y, lawX, eX, lX, pX, fX, snX, brX, wyX, paX, trX, asX, gdX, lnX, lkX, lpX, lwcX, tyX, jyX, mkX, dzX, cpX, taX, glX, t1X, spX, dgX, kpX, mlawX, mvX, meX, mlX, mfaX, stX, hvX, pwX, btX, sgX, mlsX, jdX, tdX, dsX, enX, mftX, ldrX, wmX, maX, lwX, lrX, mrX, feX, ngX, trsX, dysX, gnX, t9X, spmX, kpmX, udX, Bool.or_eq_true, Bool.and_eq_true, decide_eq_true_eq, decide_eq_false_iff_not, beq_iff_eq, Bool.or_eq_false_iff, Bool.and_eq_false_iff, beq_eq_false_iff_ne]; omega)
        exact law_c25 (by decide) (by decide) hi a b fin
      · obtain rfl : tt = 934 := by simpa using htt.symm
        obtain ⟨a, b⟩ := two h (k26 (sc := sc) h.1) (fun t1 K => m26 (sc := sc) K) sw26 sm26 (fun r1 t1 r2 t2 F _ F2 q1 q2 => p30_keep h.2.2 F F2 q1.2 q2.2)
        exact law_c26 (by decide) (by decide) hi a b fin
      · obtain rfl : tt = 941 := by simpa using htt.symm
        obtain ⟨a, b⟩ := two h (k27 (sc := sc) h.1) (fun t1 K => m27 (sc := sc) K) sw27 sm27 (fun r1 t1 r2 t2 F _ F2 q1 q2 => p30_undo h.2.2 F F2 q1.2 q2.2)
        exact law_c27 (by decide) (by decide) hi a b fin
      · obtain rfl : tt = 948 := by simpa using htt.symm
        obtain ⟨a, b⟩ := twoE h (k28 (sc := sc) (n := sv sc (i + 1)) h.1) (fun t1 K => m28 (sc := sc) (n := sv sc (i + 1)) K) sw28 sm28 (fun r1 t1 r2 t2 F _ F2 q1 q2 => p30_check h.1 h.2.2 F F2 q1 q2)
        exact law_c28 (by decide) (by decide) hi a b fin
      · obtain rfl : tt = 965 := by simpa using htt.symm
        obtain ⟨a, b⟩ := pop p30_relF h ((k29 (sc := sc) (w := sv sc (i + 1)) (hy_Ri _) h.1).mono (fun _ _ q => q.1)) (fun t1 K => ((m29 (sc := sc) (w := sv sc (i + 1)) K).mono (fun _ _ q => q.1))) sw29 sm29 (fun _ _ _ => rfl) (fun _ _ _ => rfl)
        exact law_c29 (by decide) (by decide) hi a b fin
      · obtain rfl : tt = 982 := by rw [if_pos (.inr hb)] at htt; exact htt
        exact fin t h
  exact main sc.length 0 t0 (by omega) (by omega) p30_0
