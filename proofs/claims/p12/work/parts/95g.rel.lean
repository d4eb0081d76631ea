/-! what the full relation rests on -/
abbrev p5_Y : Nat → Nat → Bool := fun r j => (r == 3 && j == 1) || (r == 59 && j == 9)
def p5_rel (t : hy_T) : Prop := t 3 1 = t 59 9
theorem p5_relF (t t1 : hy_T) (h : p5_rel t) (hY : ∀ r j, p5_Y r j = true → t1 r j = t r j) : p5_rel t1 := by
  unfold p5_rel
  rw [hY 3 1 rfl, hY 59 9 rfl]
  exact h
theorem wf_feed_31 {t : hy_T} {a b c d e : Int} (hq : t 3 1 ≤ 240) : wf_feed t a b c d e 3 1 = t 3 1 + 20 := by
  have h1 := tp_add_l (t := t) (w := a) (by omega)
  have h2 := tp_add_l (t := tp_add t a) (w := b) (by omega)
  have h3 := tp_add_l (t := tp_add (tp_add t a) b) (w := c) (by omega)
  have h4 := tp_add_l (t := tp_add (tp_add (tp_add t a) b) c) (w := d) (by omega)
  have h5 := tp_add_l (t := tp_add (tp_add (tp_add (tp_add t a) b) c) d) (w := e) (by omega)
  unfold wf_feed
  omega
theorem k3e {sc : List Int32} {t : hy_T} {a b c d e : Int} (k : cK t) : hy_Ct sc hm_W_feed 1 [.inr (some 2), .inl a, .inl b, .inl c, .inl d, .inl e] t (fun r t' => cQ taX t r t' ∧ r = some (if t 3 1 ≤ 240 then t 3 1 + 20 else -1) ∧ t' = if t 3 1 ≤ 240 then wf_feed t a b c d e else t) := (c_W_feed k.tp.l).mono (fun r t' q => by
  obtain ⟨rfl, rfl⟩ := q
  obtain ⟨k1, F⟩ := cK_feed (a := a) (b := b) (c := c) (d := d) (e := e) k
  exact ⟨⟨⟨_, rfl⟩, k1, F⟩, rfl, rfl⟩)
theorem m3e {sc : List Int32} {t : hy_T} {a b c d e : Int} (k : mK t) : hy_Ct sc hm_M_feed 1 [.inr (some 59), .inl a, .inl b, .inl c, .inl d, .inl e] t (fun r t' => mQ feX t r t' ∧ r = some (if t 59 9 ≤ 240 then t 59 9 + 20 else -1) ∧ t' = if t 59 9 ≤ 240 then mf_feed t a b c d e else t) := (c_M_feed k.mt).mono (fun r t' q => by
  obtain ⟨rfl, rfl⟩ := q
  refine ⟨⟨⟨_, rfl⟩, ?_⟩, rfl, rfl⟩
  obtain ⟨F, e9⟩ := mf_feed_s t a b c d e
  have k9 := k.mt
  split
  · exact ⟨mK_A F (fun r j q => by revert q; simp only [mkA, mlawX, mrP, mrT, mrK, feX, Bool.or_eq_true, Bool.and_eq_true, decide_eq_true_eq, beq_iff_eq, Bool.or_eq_false_iff, Bool.and_eq_false_iff, beq_eq_false_iff_ne]; omega) (by unfold mt_ok; omega) k, F⟩
  · exact ⟨k, hy_F.rf⟩)
theorem p5_feed {t t1 t2 : hy_T} {a b c d e : Int} {r1 r2 : Option Int} (h : p5_rel t) (F : hy_F taX t t1) (F2 : hy_F feX t1 t2) (q1 : r1 = some (if t 3 1 ≤ 240 then t 3 1 + 20 else -1) ∧ t1 = if t 3 1 ≤ 240 then wf_feed t a b c d e else t) (q2 : r2 = some (if t1 59 9 ≤ 240 then t1 59 9 + 20 else -1) ∧ t2 = if t1 59 9 ≤ 240 then mf_feed t1 a b c d e else t1) : r2 = r1 ∧ p5_rel t2 := by
  have x := F 59 9 rfl
  have y := F2 3 1 rfl
  have h0 : t 3 1 = t 59 9 := h
  obtain ⟨e1, e2⟩ := q1
  obtain ⟨e3, e4⟩ := q2
  refine ⟨by rw [e1, e3, x, h0], ?_⟩
  show t2 3 1 = t2 59 9
  by_cases hq : t 3 1 ≤ 240
  · rw [if_pos hq] at e2
    rw [if_pos (by omega)] at e4
    have z1 : t1 3 1 = t 3 1 + 20 := by rw [e2]; exact wf_feed_31 hq
    have z2 : t2 59 9 = t1 59 9 + 20 := by rw [e4]; exact (mf_feed_s t1 a b c d e).2
    omega
  · rw [if_neg hq] at e2
    rw [if_neg (by omega)] at e4
    have z1 : t1 3 1 = t 3 1 := by rw [e2]
    have z2 : t2 59 9 = t1 59 9 := by rw [e4]
    omega
theorem p5_law {t t1 t2 : hy_T} {n : Int} (h : p5_rel t) (F : hy_F lwcX t t1) (F2 : hy_F lwX t1 t2) (e1 : t1 = (wf_law t n).2) (e2 : t2 59 9 = if al_nc t1 n then 0 else t1 59 9) : p5_rel t2 := by
  have x := F 59 9 rfl
  have y := F2 3 1 rfl
  have h0 : t 3 1 = t 59 9 := h
  have c := wf_law_31 t n
  rw [← e1] at c
  show t2 3 1 = t2 59 9
  simp only [al_nc] at e2
  split at c <;> split at e2 <;> omega
theorem p5_land {t t1 t2 : hy_T} {n : Int} (k : cK t) (h : p5_rel t) (F : hy_F glX t t1) (F2 : hy_F ngX t1 t2) (e1 : t1 = (wf_land t n).2) (e2 : t2 59 9 = if ld_ntc t1 n then 0 else t1 59 9) : p5_rel t2 := by
  have x := F 59 9 rfl
  have y := F2 3 1 rfl
  have h0 : t 3 1 = t 59 9 := h
  have c := (wf_land_s k.tp n).2.2
  rw [← e1] at c
  show t2 3 1 = t2 59 9
  simp only [ld_ntc] at e2
  split at c <;> split at e2 <;> omega
theorem p5_lines {XW XM : Nat → Nat → Bool} {t t1 t2 : hy_T} {n : Int} (h : p5_rel t) (F : hy_F XW t t1) (F2 : hy_F XM t1 t2) (hw : XW 59 9 = false) (hm : XM 3 1 = false) (c : t1 3 1 = if 1 ≤ n ∧ n ≤ 120 ∧ n ≤ t 3 1 then 0 else t 3 1) (e2 : t2 59 9 = if ml_ntc t1 n then 0 else t1 59 9) : p5_rel t2 := by
  have x := F 59 9 hw
  have y := F2 3 1 hm
  have h0 : t 3 1 = t 59 9 := h
  show t2 3 1 = t2 59 9
  simp only [ml_ntc] at e2
  split at c <;> split at e2 <;> omega
theorem p5_parted {t t1 t2 : hy_T} {m w : Int} (hR : hy_R w) (h : p5_rel t) (F : hy_F t1X t t1) (F2 : hy_F t9X t1 t2) (e1 : t1 = if wf_partok t m w then hy_up t 3 1 0 else t) (e2 : t2 = if mf_ptc t1 m w then hy_up t1 59 9 0 else t1) : p5_rel t2 := by
  have x := F 59 9 rfl
  have y := F2 3 1 rfl
  have h0 : t 3 1 = t 59 9 := h
  have z := wf_sub (k := 10) hR (by decide)
  have hw : (0 ≤ wf_w10 w ∧ wf_w10 w < 4) ↔ (10 ≤ w ∧ w ≤ 13) := by
    unfold wf_w10
    revert z
    generalize (Int32.ofInt (w - 10)).toInt = y
    intro z
    omega
  have c : t1 3 1 = if wf_partok t m w then 0 else t 3 1 := by
    rw [e1]
    split <;> rfl
  have c2 : t2 59 9 = if mf_ptc t1 m w then 0 else t1 59 9 := by
    rw [e2]
    split <;> rfl
  have hc : wf_partok t m w ↔ mf_ptc t1 m w := by
    unfold wf_partok mf_ptc
    rw [hw]
    omega
  show t2 3 1 = t2 59 9
  by_cases hq : wf_partok t m w
  · rw [if_pos hq] at c
    rw [if_pos (hc.mp hq)] at c2
    omega
  · rw [if_neg hq] at c
    rw [if_neg (fun q => hq (hc.mpr q))] at c2
    omega
theorem p5_spies {t t1 t2 : hy_T} {n w : Int} (h : p5_rel t) (F : hy_F spX t t1) (F2 : hy_F spmX t1 t2) (c : t1 3 1 = if wf_spyok t n w then 0 else t 3 1) (e2 : t2 59 9 = if ms_spc t1 n w then 0 else t1 59 9) : p5_rel t2 := by
  have x := F 59 9 rfl
  have y := F2 3 1 rfl
  have h0 : t 3 1 = t 59 9 := h
  show t2 3 1 = t2 59 9
  simp only [wf_spyok] at c
  simp only [ms_spc] at e2
  split at c <;> split at e2 <;> omega
theorem p5_check {t t1 t2 : hy_T} {n : Int} (h : p5_rel t) (F : hy_F t1X t t1) (F2 : hy_F t9X t1 t2) (e1 : t1 = if (0 ≤ n ∧ n ≤ 8) ∧ 4 * n ≤ t 3 1 then hy_up t 3 1 0 else t) (e2 : t2 = if (0 ≤ n ∧ n ≤ 8) ∧ 4 * n ≤ t1 59 9 then hy_up t1 59 9 0 else t1) : p5_rel t2 := by
  have x := F 59 9 rfl
  have y := F2 3 1 rfl
  have h0 : t 3 1 = t 59 9 := h
  have c : t1 3 1 = if (0 ≤ n ∧ n ≤ 8) ∧ 4 * n ≤ t 3 1 then 0 else t 3 1 := by
    rw [e1]
    split <;> rfl
  have c2 : t2 59 9 = if (0 ≤ n ∧ n ≤ 8) ∧ 4 * n ≤ t1 59 9 then 0 else t1 59 9 := by
    rw [e2]
    split <;> rfl
  show t2 3 1 = t2 59 9
  split at c <;> split at c2 <;> omega
abbrev p29_Y : Nat → Nat → Bool := fun r j => (r == 2 && j == 9) || (r == 59 && j == 57)
def p29_rel (t : hy_T) : Prop := t 2 9 = t 59 57
theorem p29_relF (t t1 : hy_T) (h : p29_rel t) (hY : ∀ r j, p29_Y r j = true → t1 r j = t r j) : p29_rel t1 := by
  unfold p29_rel
  rw [hY 2 9 rfl, hY 59 57 rfl]
  exact h
theorem by8 (v : Int32) : (v.toInt8.toInt32 &&& 255) = v &&& 255 := by
  apply Int32.toBitVec_inj.mp
  apply BitVec.eq_of_getLsbD_eq
  intro i hi
  simp only [Int32.toBitVec_and, BitVec.getLsbD_and]
  by_cases h8 : i < 8
  · have e : (v.toInt8.toInt32).toBitVec.getLsbD i = v.toBitVec.getLsbD i := by
      rw [Int8.toBitVec_toInt32, BitVec.getLsbD_signExtend, Int32.toBitVec_toInt8, if_pos h8]
      rw [decide_eq_true hi, Bool.true_and, BitVec.getLsbD_signExtend, decide_eq_true h8, Bool.true_and, if_pos hi]
    rw [e]
  · have e : (255 : Int32).toBitVec.getLsbD i = false := by
      have key : ∀ j : Fin 32, ¬ (j.val < 8) → (255 : Int32).toBitVec.getLsbD j.val = false := by decide
      exact key ⟨i, hi⟩ h8
    rw [e]
    simp
theorem sh_or (a b : Int32) (k : Int32) : (a ||| b) <<< k = (a <<< k) ||| (b <<< k) := by
  apply Int32.toBitVec_inj.mp
  apply BitVec.eq_of_getLsbD_eq
  intro i hi
  simp [Int32.toBitVec_shiftLeft, BitVec.getLsbD_or, Bool.and_or_distrib_left]
theorem sh_88 (a : Int32) : (a <<< 8) <<< 8 = a <<< 16 := by
  apply Int32.toBitVec_inj.mp
  apply BitVec.eq_of_getLsbD_eq
  intro i hi
  simp [Int32.toBitVec_shiftLeft]
theorem sh_168 (a : Int32) : (a <<< 8) <<< 16 = a <<< 24 := by
  apply Int32.toBitVec_inj.mp
  apply BitVec.eq_of_getLsbD_eq
  intro i hi
  simp [Int32.toBitVec_shiftLeft]
theorem hz_i2b_255 (x : Int) : hz_iand (hz_i2b x) 255 = hz_iand x 255 := by
  unfold hz_iand hz_i2b
  rw [Int32.ofInt_toInt, show Int32.ofInt 255 = 255 from rfl, by8]
theorem num4 (a b c d : Int) : hz_ior (hz_ishl (hz_ior (hz_ishl (hz_ior (hz_ishl (hz_ior (hz_ishl 0 8) a) 8) b) 8) c) 8) d = hz_ior (hz_ior (hz_ior (hz_ishl a 24) (hz_ishl b 16)) (hz_ishl c 8)) d := by
  unfold hz_ior hz_ishl
  simp only [Int32.ofInt_toInt]
  rw [show Int32.ofInt 8 &&& 31 = 8 by decide, show Int32.ofInt 16 &&& 31 = 16 by decide, show Int32.ofInt 24 &&& 31 = 24 by decide, show Int32.ofInt 0 <<< (8 : Int32) = 0 by decide, Int32.zero_or]
  rw [sh_or, sh_or, sh_or, sh_88, sh_88, sh_168]
def p30_b (t u : hy_T) : Prop := t 3 1 = u 59 9 ∧ ∀ j : Nat, j < 260 → t 4 j = hz_iand (u 65 j) 255
theorem p30_1 {t u : hy_T} (b : p30_b t u) (hl : 0 ≤ t 3 1 ∧ t 3 1 < 260) (v : Int) (k : Nat) (s : Int) (hs : s = 8 * (k : Int)) : p30_b (tp_add1 t (tp_byte v s)) (mf_ty1 u v k) ∧ tp_add1 t (tp_byte v s) 3 1 = t 3 1 + 1 := by
  have l := tp_add1_l (t := t) (v := tp_byte v s) hl.2
  refine ⟨⟨?_, fun j hj => ?_⟩, l⟩
  · rw [l, b.1]
    rfl
  · have x : tp_add1 t (tp_byte v s) 4 j = if j = (t 3 1).toNat then tp_byte v s else t 4 j := by
      unfold tp_add1
      rw [if_pos hl.2, hy_up_ne (by decide)]
      simp only [hy_up, true_and]
    have y : mf_ty1 u v k 65 j = if j = (u 59 9).toNat then hz_i2b (hz_ishr v (8 * (k : Int))) else u 65 j := by
      unfold mf_ty1
      rw [hy_up_ne (by decide)]
      simp only [hy_up, true_and]
    rw [x, y, b.1]
    split
    · rw [hz_i2b_255, hs]
      rfl
    · exact b.2 j hj
theorem p30_4 {t u : hy_T} (b : p30_b t u) (hl : 0 ≤ t 3 1 ∧ t 3 1 ≤ 256) (v : Int) : p30_b (tp_add t v) (mf_tyN v 4 u) ∧ tp_add t v 3 1 = t 3 1 + 4 := by
  obtain ⟨b1, l1⟩ := p30_1 b ⟨by omega, by omega⟩ v 3 24 (by decide)
  obtain ⟨b2, l2⟩ := p30_1 b1 ⟨by omega, by omega⟩ v 2 16 (by decide)
  obtain ⟨b3, l3⟩ := p30_1 b2 ⟨by omega, by omega⟩ v 1 8 (by decide)
  obtain ⟨b4, l4⟩ := p30_1 b3 ⟨by omega, by omega⟩ v 0 0 (by decide)
  refine ⟨b4, ?_⟩
  unfold tp_add
  omega
theorem p30_20 {t u : hy_T} (b : p30_b t u) (hl : 0 ≤ t 3 1 ∧ t 3 1 ≤ 240) (a b' c d e : Int) : p30_b (wf_feed t a b' c d e) (mf_feed u a b' c d e) := by
  obtain ⟨b1, l1⟩ := p30_4 b ⟨by omega, by omega⟩ a
  obtain ⟨b2, l2⟩ := p30_4 b1 ⟨by omega, by omega⟩ b'
  obtain ⟨b3, l3⟩ := p30_4 b2 ⟨by omega, by omega⟩ c
  obtain ⟨b4, l4⟩ := p30_4 b3 ⟨by omega, by omega⟩ d
  obtain ⟨b5, l5⟩ := p30_4 b4 ⟨by omega, by omega⟩ e
  exact b5
def ti_S (t u : hy_T) : Prop := ((t 3 4 = 0 ∧ t 3 3 = u 59 10 ∧ t 3 2 = u 59 11) ∧ (0 ≤ t 3 3 ∧ t 3 2 ≤ 260) ∧ t 5 2 = u 59 0) ∧ (∀ j : Nat, j < 260 → t 4 j = hz_iand (u 65 j) 255) ∧ ∀ j : Nat, j < 64 → t 10 j = u 96 j
theorem ti_next {t u : hy_T} (h : ti_S t u) : tp_next t = mp_here u := by
  obtain ⟨⟨⟨a1, a2, a3⟩, ⟨a4, a5⟩, -⟩, a6, -⟩ := h
  unfold tp_next mp_here
  rw [← a2, ← a3]
  by_cases hq : t 3 3 < t 3 2
  · rw [if_pos ⟨a1, a4, hq⟩, if_pos hq]
    exact a6 _ (by omega)
  · rw [if_neg (fun q => hq q.2.2), if_neg hq]
def ti_R (t : hy_T) (p : Bool × hy_T) : Prop := if p.1 = true then ti_S t p.2 else (t 3 4 ≠ 0 ∧ t 3 4 = p.2 59 12) ∧ ∀ j : Nat, j < 64 → t 10 j = p.2 96 j
theorem ti_f {t u : hy_T} (h : ti_R t (false, u)) : t 3 4 ≠ 0 := h.1.1
theorem ti_ok {t u : hy_T} (h : ti_S t u) : ti_R t (true, u) := by
  unfold ti_R
  rw [if_pos rfl]
  exact h
theorem ti_fail {t u : hy_T} (h : ti_S t u) {n : Int} (hn : 1 ≤ n) {w : Int} (hw : w = u 59 10) : ti_R (tp_fail t n (t 3 3)) (false, mp_wr u n w) := by
  obtain ⟨⟨⟨a1, a2, a3⟩, ⟨a4, a5⟩, -⟩, a6, a7⟩ := h
  show (tp_fail t n (t 3 3) 3 4 ≠ 0 ∧ tp_fail t n (t 3 3) 3 4 = mp_wr u n w 59 12) ∧ ∀ j : Nat, j < 64 → tp_fail t n (t 3 3) 10 j = mp_wr u n w 96 j
  have e : tp_fail t n (t 3 3) = hy_up t 3 4 (-1000 * n - t 3 3) := if_pos a1
  rw [e]
  have e1 : hy_up t 3 4 (-1000 * n - t 3 3) 3 4 = -1000 * n - t 3 3 := rfl
  have e2 : mp_wr u n w 59 12 = -1000 * n - w := rfl
  refine ⟨⟨by rw [e1]; omega, ?_⟩, fun j hj => ?_⟩
  · show hy_up t 3 4 (-1000 * n - t 3 3) 3 4 = mp_wr u n w 59 12
    rw [e1, e2, hw, a2]
  · show hy_up t 3 4 (-1000 * n - t 3 3) 10 j = mp_wr u n w 96 j
    rw [hy_up_ne (by decide)]
    unfold mp_wr
    rw [hy_up_ne (by decide)]
    exact a7 j hj
theorem ti_step {t u : hy_T} (h : ti_S t u) (hp : 0 ≤ tp_next t) : ti_S (tp_step t) (mp_st u) := by
  obtain ⟨⟨⟨a1, a2, a3⟩, ⟨a4, a5⟩, a8⟩, a6, a7⟩ := h
  refine ⟨⟨⟨a1, ?_, a3⟩, ⟨?_, a5⟩, a8⟩, a6, a7⟩
  · show t 3 3 + 1 = u 59 10 + 1
    omega
  · show 0 ≤ t 3 3 + 1
    omega
theorem ti_let (c : Int) : 0 ≤ gd_col c ↔ ld_let c := by
  unfold gd_col ld_let
  split
  · omega
  · split <;> omega
theorem ti_col {c : Int} (h : ld_let c) : gd_col c = ld_col c ∧ (gd_col c ≠ 12 ↔ c ≠ 46) ∧ (c ≠ 46 → gd_col c = c - 97) := by
  unfold gd_col ld_col
  unfold ld_let at h
  split
  · omega
  · rw [if_pos (by omega)]
    omega
theorem ti_deadF {t : hy_T} (h : t 3 4 ≠ 0) (n w : Int) : tp_fail t n w = t := if_neg h
theorem ti_dead {t : hy_T} (h : t 3 4 ≠ 0) (y : Int) : ∀ (n : Nat) (x : Int), gd_rowN y n t x = t
  | 0, x => by
    show gd_rowE t x = t
    unfold gd_rowE
    split
    · exact ti_deadF h _ _
    · rfl
  | n + 1, x => by
    have e : tp_next t = -1 := if_neg (fun q => h q.1)
    simp only [gd_rowN]
    rw [e, if_neg (by decide)]
    unfold gd_rowE
    split
    · exact ti_deadF h _ _
    · rfl
theorem ti_paint_F (u : hy_T) (p : Nat) (v : Int) : ∀ n, hy_F (fun r _ => r == 96) u (ld_paintN u p v n)
  | 0 => hy_F.rf
  | n + 1 => (ti_paint_F u p v n).up rfl
theorem ti_fill {t u : hy_T} (h : ∀ j : Nat, j < 64 → t 10 j = u 96 j) (row many : Nat) (c : Int) : ∀ (n : Nat) (j : Nat), j < 64 → gd_fillN t row many c n 10 j = ld_paintN u (8 * row + many) c n 96 j
  | 0, j, hj => h j hj
  | n + 1, j, hj => by
    have ih := ti_fill h row many c n j hj
    simp only [gd_fillN, ld_paintN, hy_up, true_and]
    rw [show (8 * (row : Int) + (many : Int) + (n : Int)).toNat = 8 * row + many + n by omega, ih]
theorem ti_laid {t u : hy_T} (h : ti_S t u) (hp : 0 ≤ tp_next t) (row many : Nat) (c : Int) (n : Nat) : ti_S (gd_fillN (tp_step t) row many c n) (mp_st (ld_paintN u (8 * row + many) c n)) := by
  have h1 := ti_step h hp
  obtain ⟨⟨⟨a1, a2, a3⟩, ⟨a4, a5⟩, a8⟩, a6, a7⟩ := h1
  have F := gd_fillN_F (tp_step t) row many c n
  have G := ti_paint_F u (8 * row + many) c n
  refine ⟨⟨⟨?_, ?_, ?_⟩, ⟨?_, ?_⟩, ?_⟩, fun j hj => ?_, fun j hj => ?_⟩
  · rw [F 3 4 rfl]; exact a1
  · rw [F 3 3 rfl, a2]
    show u 59 10 + 1 = ld_paintN u (8 * row + many) c n 59 10 + 1
    rw [G 59 10 rfl]
  · rw [F 3 2 rfl, a3]
    exact (G 59 11 rfl).symm
  · rw [F 3 3 rfl]; exact a4
  · rw [F 3 2 rfl]; exact a5
  · rw [F 5 2 rfl, a8]
    exact (G 59 0 rfl).symm
  · rw [F 4 j rfl, a6 j hj]
    show _ = hz_iand (ld_paintN u (8 * row + many) c n 65 j) 255
    rw [G 65 j rfl]
    rfl
  · show _ = ld_paintN u (8 * row + many) c n 96 j
    exact ti_fill (t := tp_step t) (u := u) (fun i hi => a7 i hi) row many c n j hj
theorem ti_tail {t u : hy_T} (h : ti_S t u) (row many times : Nat) (h8 : many + times ≤ 8) : (¬ ld_let (mp_here u) → ti_R (gd_tail t row many times).1 (false, mp_wr u 1 (u 59 10))) ∧
    (ld_let (mp_here u) → (mp_here u ≠ 46 ∧ sp_told (u 59 0) (mp_here u - 97) = false) → ti_R (gd_tail t row many times).1 (false, mp_wr u 7 (u 59 10))) ∧
    (ld_let (mp_here u) → ¬ (mp_here u ≠ 46 ∧ sp_told (u 59 0) (mp_here u - 97) = false) → (gd_tail t row many times).2 = times ∧ ti_S (gd_tail t row many times).1 (mp_st (ld_paintN u (8 * row + many) (ld_col (mp_here u)) times))) := by
  have e := ti_next h
  have e52 : t 5 2 = u 59 0 := h.1.2.2
  unfold gd_tail
  rw [e]
  refine ⟨fun q => ?_, fun q q2 => ?_, fun q q2 => ?_⟩
  · rw [if_pos (by have := (ti_let (mp_here u)).mp; omega)]
    exact ti_fail h (by decide) rfl
  · obtain ⟨c1, c2, c3⟩ := ti_col q
    have := (ti_let (mp_here u)).mpr q
    rw [if_neg (by omega), if_neg (by omega), if_pos ⟨c2.mpr q2.1, by rw [e52, c3 q2.1]; exact q2.2⟩]
    exact ti_fail h (by decide) rfl
  · obtain ⟨c1, c2, c3⟩ := ti_col q
    have hp := (ti_let (mp_here u)).mpr q
    rw [if_neg (by omega), if_neg (by omega), if_neg (fun q3 => q2 ⟨c2.mp q3.1, by rw [← e52, ← c3 (c2.mp q3.1)]; exact q3.2⟩), c1]
    refine ⟨rfl, ?_⟩
    rw [Int.toNat_natCast]
    exact ti_laid h (by rw [e]; exact gd_col_p hp) row many _ times
theorem ti_row (row : Nat) : ∀ (n : Nat) {t u : hy_T} (many : Nat), ti_S t u → many ≤ 8 → 9 ≤ n + many → ti_R (gd_rowN row n t many) (ld_rowN row n u many)
  | 0, t, u, many, h, h8, h9 => by omega
  | n + 1, t, u, many, h, h8, h9 => by
    have e := ti_next h
    have el := ti_let (mp_here u)
    simp only [gd_rowN, ld_rowN]
    rw [e]
    by_cases hs : ld_run (mp_here u) ∨ ld_let (mp_here u)
    · rw [if_pos (show (49 ≤ mp_here u ∧ mp_here u ≤ 56) ∨ 0 ≤ gd_col (mp_here u) from hs.elim .inl (fun q => .inr (el.mpr q)))]
      rw [if_neg (show ¬ (many = 8 ∧ ¬ ld_run (mp_here u) ∧ ¬ ld_let (mp_here u)) from fun q => hs.elim q.2.1 q.2.2)]
      by_cases hr : ld_run (mp_here u)
      · have hr' : 49 ≤ mp_here u ∧ mp_here u ≤ 56 := hr
        have et : ld_times u = (mp_here u - 48).toNat := if_pos hr
        have e1 : ld_t1 u = mp_st u := if_pos hr
        rw [et, e1]
        have ef : gd_fields t row many = if 8 < (many : Int) + (mp_here u - 48) then (tp_fail t 6 (t 3 3), 0) else gd_tail (tp_step t) row many (mp_here u - 48) := by
          unfold gd_fields
          rw [e, if_pos (by omega)]
        rw [ef]
        by_cases hb : 8 < many + (mp_here u - 48).toNat
        · rw [if_pos (show (ld_run (mp_here u) ∨ ld_let (mp_here u)) ∧ 8 < many + (mp_here u - 48).toNat from ⟨hs, hb⟩), if_pos (show 8 < (many : Int) + (mp_here u - 48) by omega)]
          have := ti_fail h (n := 6) (by decide) rfl
          rw [ti_dead (ti_f this)]
          exact this
        · rw [if_neg (show ¬ ((ld_run (mp_here u) ∨ ld_let (mp_here u)) ∧ 8 < many + (mp_here u - 48).toNat) from fun q => hb q.2), if_neg (show ¬ 8 < (many : Int) + (mp_here u - 48) by omega)]
          have h1 := ti_step h (by omega)
          have ht := ti_tail h1 row many (mp_here u - 48).toNat (by omega)
          rw [show (((mp_here u - 48).toNat : Nat) : Int) = mp_here u - 48 by omega] at ht
          obtain ⟨t1, t2, t3⟩ := ht
          by_cases hl : ld_let (mp_here (mp_st u))
          · rw [if_neg (show ¬ ¬ ld_let (mp_here (mp_st u)) from fun q => q hl)]
            by_cases hc : mp_here (mp_st u) ≠ 46 ∧ sp_told (mp_st u 59 0) (mp_here (mp_st u) - 97) = false
            · have := t2 hl hc
              rw [if_pos (show mp_here (mp_st u) ≠ 46 ∧ sp_told (u 59 0) (mp_here (mp_st u) - 97) = false from hc)]
              rw [ti_dead (ti_f this)]
              exact this
            · obtain ⟨y1, y2⟩ := t3 hl hc
              rw [if_neg (show ¬ (mp_here (mp_st u) ≠ 46 ∧ sp_told (u 59 0) (mp_here (mp_st u) - 97) = false) from hc), y1]
              rw [show (many : Int) + (mp_here u - 48) = ((many + (mp_here u - 48).toNat : Nat) : Int) by omega]
              exact ti_row row n _ y2 (by omega) (by omega)
          · have := t1 hl
            rw [if_pos hl]
            rw [ti_dead (ti_f this)]
            exact this
      · have hl : ld_let (mp_here u) := hs.resolve_left hr
        have hl' : mp_here u = 46 ∨ 97 ≤ mp_here u ∧ mp_here u ≤ 108 := hl
        have et : ld_times u = 1 := if_neg hr
        have e1 : ld_t1 u = u := if_neg hr
        rw [et, e1]
        have ef : gd_fields t row many = gd_tail t row many 1 := by
          unfold gd_fields
          rw [e, if_neg (by omega)]
        rw [ef]
        have hp := el.mpr hl
        by_cases hb : 8 < many + 1
        · have eg : gd_tail t row many 1 = (tp_fail t 6 (t 3 3), 0) := by
            unfold gd_tail
            rw [e, if_neg (by omega), if_pos (by omega)]
          rw [if_pos (show (ld_run (mp_here u) ∨ ld_let (mp_here u)) ∧ 8 < many + 1 from ⟨hs, hb⟩), eg]
          have := ti_fail h (n := 6) (by decide) rfl
          rw [ti_dead (ti_f this)]
          exact this
        · rw [if_neg (show ¬ ((ld_run (mp_here u) ∨ ld_let (mp_here u)) ∧ 8 < many + 1) from fun q => hb q.2), if_neg (show ¬ ¬ ld_let (mp_here u) from fun q => q hl)]
          obtain ⟨t1, t2, t3⟩ := ti_tail h row many 1 (by omega)
          by_cases hc : mp_here u ≠ 46 ∧ sp_told (u 59 0) (mp_here u - 97) = false
          · have := t2 hl hc
            rw [if_pos hc]
            rw [show ((1 : Nat) : Int) = 1 from rfl] at this
            rw [ti_dead (ti_f this)]
            exact this
          · obtain ⟨y1, y2⟩ := t3 hl hc
            rw [show ((1 : Nat) : Int) = 1 from rfl] at y1 y2
            rw [if_neg hc, y1]
            rw [show (many : Int) + 1 = ((many + 1 : Nat) : Int) by omega]
            exact ti_row row n _ y2 (by omega) (by omega)
    · have hr : ¬ ld_run (mp_here u) := fun q => hs (.inl q)
      have hl : ¬ ld_let (mp_here u) := fun q => hs (.inr q)
      rw [if_neg (show ¬ ((49 ≤ mp_here u ∧ mp_here u ≤ 56) ∨ 0 ≤ gd_col (mp_here u)) from fun q => q.elim hr (fun q => hl (el.mp q)))]
      unfold gd_rowE
      by_cases h88 : many = 8
      · rw [if_pos (show many = 8 ∧ ¬ ld_run (mp_here u) ∧ ¬ ld_let (mp_here u) from ⟨h88, hr, hl⟩), if_neg (show ¬ (many : Int) < 8 by omega)]
        exact ti_ok h
      · have e1 : ld_t1 u = u := if_neg hr
        rw [if_neg (show ¬ (many = 8 ∧ ¬ ld_run (mp_here u) ∧ ¬ ld_let (mp_here u)) from fun q => h88 q.1), if_neg (show ¬ ((ld_run (mp_here u) ∨ ld_let (mp_here u)) ∧ 8 < many + ld_times u) from fun q => hs q.1), e1, if_pos hl, if_pos (show (many : Int) < 8 by omega)]
        exact ti_fail h (n := 1) (by decide) rfl
theorem ti_rowsF (n row : Nat) (p : Bool × hy_T) (h : p.1 ≠ true) : ld_rowsN n row p = p := by
  cases n with
  | zero => rfl
  | succ n => simp only [ld_rowsN]; rw [if_neg h]
theorem ti_rows (t : hy_T) (n : Int) : ∀ (m row : Nat) {p : Bool × hy_T}, 1 ≤ row → row + m = 8 → ti_R (gd_rowsN t n row) p → ti_R (gd_rowsN t n 8) (ld_rowsN m row p)
  | 0, row, p, h1, h8, h => by
    obtain rfl : row = 8 := by omega
    exact h
  | m + 1, row, p, h1, h8, h => by
    have es : gd_rowsN t n (row + 1) = gd_row (tp_take (gd_rowsN t n row) 47) row := by
      show gd_row (gd_sep (gd_rowsN t n row) row) row = _
      unfold gd_sep
      rw [if_pos (by omega)]
    by_cases hp : p.1 = true
    · have hS : ti_S (gd_rowsN t n row) p.2 := by
        unfold ti_R at h
        rw [if_pos hp] at h
        exact h
      have e := ti_next hS
      simp only [ld_rowsN]
      rw [if_pos hp]
      refine ti_rows t n m (row + 1) (by omega) (by omega) ?_
      rw [es]
      unfold mp_take tp_take
      rw [e]
      by_cases h47 : mp_here p.2 = 47
      · rw [if_pos h47, if_pos h47, if_pos rfl]
        exact ti_row row 9 0 (ti_step hS (by omega)) (by decide) (by decide)
      · rw [if_neg h47, if_neg h47, if_neg (show ¬ ((false : Bool) = true) from Bool.false_ne_true)]
        have := ti_fail hS (n := 1) (by decide) rfl
        unfold gd_row
        rw [ti_dead (ti_f this)]
        exact this
    · have hD := h
      unfold ti_R at hD
      rw [if_neg hp] at hD
      have ed : gd_rowsN t n (row + 1) = gd_rowsN t n row := by
        rw [es]
        have e : tp_next (gd_rowsN t n row) = -1 := if_neg (fun q => hD.1.1 q.1)
        unfold tp_take
        rw [e, if_neg (by decide), ti_deadF hD.1.1]
        exact ti_dead hD.1.1 _ _ _
      rw [ti_rowsF _ _ _ hp, ← ti_rowsF m (row + 1) p hp]
      exact ti_rows t n m (row + 1) (by omega) (by omega) (by rw [ed]; exact h)
theorem ti_end {t : hy_T} {p : Bool × hy_T} (h : ti_R t p) : ti_R (tp_finish t) (ld_end p) := by
  by_cases hp : p.1 = true
  · have hS : ti_S t p.2 := by
      unfold ti_R at h
      rw [if_pos hp] at h
      exact h
    have e1 := hS.1.1.2.1
    have e2 := hS.1.1.2.2
    unfold tp_finish ld_end
    by_cases hq : t 3 3 < t 3 2
    · rw [if_pos hq, if_pos ⟨hp, by omega⟩]
      exact ti_fail hS (by decide) rfl
    · rw [if_neg hq, if_neg (fun q => hq (by omega))]
      exact h
  · have hD := h
    unfold ti_R at hD
    rw [if_neg hp] at hD
    have e : tp_finish t = t := by
      unfold tp_finish
      split
      · exact ti_deadF hD.1.1 _ _
      · rfl
    rw [e, show ld_end p = p from if_neg (fun q => hp q.1)]
    exact h
theorem ti_cnt {t u : hy_T} (h : ∀ j : Nat, j < 64 → t 9 j = u 96 j) : ∀ n : Nat, n ≤ 64 → sp_paintedN t n = ld_cntN u n
  | 0, _ => rfl
  | n + 1, hn => by
    simp only [sp_paintedN, ld_cntN]
    rw [ti_cnt h n (by omega), h n (by omega)]
    split <;> omega
def p7_B (t u : hy_T) : Prop := (t 3 1 = u 59 9 ∧ t 5 2 = u 59 0) ∧ (∀ j : Nat, j < 260 → t 4 j = hz_iand (u 65 j) 255) ∧ ∀ j : Nat, j < 64 → t 10 j = u 96 j
theorem ti_land {t u : hy_T} (h : p7_B t u) (hl : t 3 1 ≤ 260) (n : Int) (hn : 1 ≤ n ∧ n ≤ 160 ∧ n ≤ t 3 1) : ti_R (tp_finish (gd_rowsN t n 8)) (ld_end (ld_rowsN 7 1 (ld_row (ld_t0 u n) 0))) := by
  obtain ⟨⟨h1, h2⟩, h3, h4⟩ := h
  refine ti_end (ti_rows t n 7 1 (by decide) (by decide) ?_)
  show ti_R (gd_row (gd_sep (tp_start t n) 0) 0) _
  rw [show gd_sep (tp_start t n) 0 = tp_start t n from if_neg (by decide)]
  have e32 : tp_start t n 3 2 = n := by
    show (if t 3 1 < n then t 3 1 else n) = n
    rw [if_neg (by omega)]
  exact ti_row 0 9 0 ⟨⟨⟨rfl, rfl, e32⟩, ⟨Int.le_refl 0, by rw [e32]; omega⟩, h2⟩, h3, h4⟩ (by decide) (by decide)
theorem ti_all {t u : hy_T} (h : p7_B t u) (hl : t 3 1 ≤ 260) (n : Int) (hn : 1 ≤ n ∧ n ≤ 160 ∧ n ≤ t 3 1) : (wf_land t n).1 = (if (ld_read u n).1 = true then ld_cntN (ld_read u n).2 64 else (ld_read u n).2 59 12) ∧ ∀ j : Nat, j < 64 → (wf_land t n).2 10 j = (if (ld_read u n).1 = true then ld_cpN (ld_read u n).2 64 else (ld_read u n).2) 96 j := by
  have hR := ti_land h hl n hn
  unfold wf_land gd_read ld_read
  rw [if_pos hn]
  revert hR
  generalize tp_finish (gd_rowsN t n 8) = T
  generalize ld_end (ld_rowsN 7 1 (ld_row (ld_t0 u n) 0)) = p
  intro hR
  unfold ti_R at hR
  dsimp only
  by_cases hp : p.1 = true
  · rw [if_pos hp] at hR
    rw [if_pos hp, if_pos hp, if_pos hR.1.1.1]
    have e34 : hy_cp T 10 9 64 3 4 = 0 := by
      unfold hy_cp
      rw [if_neg (by decide)]
      exact hR.1.1.1
    rw [if_pos e34]
    have e9 : ∀ j : Nat, j < 64 → hy_up (hy_cp T 10 9 64) 3 1 0 9 j = hy_up p.2 59 9 0 96 j := fun j hj => by
      rw [hy_up_ne (by decide), hy_up_ne (by decide)]
      unfold hy_cp
      rw [if_pos ⟨rfl, hj⟩]
      exact hR.2.2 j hj
    refine ⟨ti_cnt e9 64 (by decide), fun j hj => ?_⟩
    show hy_up (hy_cp T 10 9 64) 3 1 0 10 j = _
    rw [ld_cpN_F _ 64 96 j rfl, hy_up_ne (by decide), hy_up_ne (by decide)]
    unfold hy_cp
    rw [if_neg (by omega)]
    exact hR.2.2 j hj
  · rw [if_neg hp] at hR
    rw [if_neg hp, if_neg hp, if_neg hR.1.1, if_neg hR.1.1]
    refine ⟨?_, fun j hj => ?_⟩
    · show T 3 4 = hy_up p.2 59 9 0 59 12
      exact hR.1.2
    · show hy_up T 3 1 0 10 j = hy_up p.2 59 9 0 96 j
      rw [hy_up_ne (by decide), hy_up_ne (by decide)]
      exact hR.2 j hj
theorem ti_land_s {t : hy_T} {n : Int} (k : mK t) : (mK (if ld_ntc t n then (if (ld_read t n).1 = true then ld_cpN (ld_read t n).2 64 else (ld_read t n).2) else t) ∧ hy_F ngX t (if ld_ntc t n then (if (ld_read t n).1 = true then ld_cpN (ld_read t n).2 64 else (ld_read t n).2) else t)) ∧ (if ld_ntc t n then (if (ld_read t n).1 = true then ld_cpN (ld_read t n).2 64 else (ld_read t n).2) else t) 59 9 = if ld_ntc t n then 0 else t 59 9 := by
  by_cases hn : ld_ntc t n
  · simp only [if_pos hn]
    obtain ⟨a1, a2⟩ := ld_read_s k.nl (n := n) (by omega)
    have z : (ld_read t n).2 59 9 = 0 := rfl
    have F1 : hy_F ngX t (ld_read t n).2 := a2.w (fun r j q => (Bool.or_eq_false_iff.mp q).1)
    have k1 : mK (ld_read t n).2 := ⟨⟨ml_ok_F F1 (fun r j q => by revert q; simp only [mkAll, mkA, mlawX, mrP, mrT, mrK, mrM, mvX, meX, mlX, mfaX, stX, hvX, pwX, btX, sgX, mlsX, jdX, tdX, dsX, enX, mftX, ldrX, wmX, maX, lwX, lrX, mrX, feX, ngX, Bool.or_eq_true, Bool.and_eq_true, decide_eq_true_eq, decide_eq_false_iff_not, beq_iff_eq, Bool.or_eq_false_iff, Bool.and_eq_false_iff, beq_eq_false_iff_ne]; omega) k.ml, mk_p2 F1 (fun r j q => by revert q; simp only [mkAll, mkA, mlawX, mrP, mrT, mrK, mrM, mvX, meX, mlX, mfaX, stX, hvX, pwX, btX, sgX, mlsX, jdX, tdX, dsX, enX, mftX, ldrX, wmX, maX, lwX, lrX, mrX, feX, ngX, Bool.or_eq_true, Bool.and_eq_true, decide_eq_true_eq, decide_eq_false_iff_not, beq_iff_eq, Bool.or_eq_false_iff, Bool.and_eq_false_iff, beq_eq_false_iff_ne]; omega) k.p2⟩, ⟨mk_mg a2 (fun _ => rfl) k.mg, a1⟩, ⟨mk_tr F1 (fun r j q => by revert q; simp only [mkAll, mkA, mlawX, mrP, mrT, mrK, mrM, mvX, meX, mlX, mfaX, stX, hvX, pwX, btX, sgX, mlsX, jdX, tdX, dsX, enX, mftX, ldrX, wmX, maX, lwX, lrX, mrX, feX, ngX, Bool.or_eq_true, Bool.and_eq_true, decide_eq_true_eq, decide_eq_false_iff_not, beq_iff_eq, Bool.or_eq_false_iff, Bool.and_eq_false_iff, beq_eq_false_iff_ne]; omega) k.tr, mk_kp F1 (fun r j q => by revert q; simp only [mkAll, mkA, mlawX, mrP, mrT, mrK, mrM, mvX, meX, mlX, mfaX, stX, hvX, pwX, btX, sgX, mlsX, jdX, tdX, dsX, enX, mftX, ldrX, wmX, maX, lwX, lrX, mrX, feX, ngX, Bool.or_eq_true, Bool.and_eq_true, decide_eq_true_eq, decide_eq_false_iff_not, beq_iff_eq, Bool.or_eq_false_iff, Bool.and_eq_false_iff, beq_eq_false_iff_ne]; omega) k.kp⟩, mt_0 z⟩
    revert a1 a2 z F1 k1
    generalize (ld_read t n).2 = u
    intro a1 a2 z F1 k1
    refine ⟨?_, ?_⟩
    · split
      · have F2 := ld_cpN_F u 64
        have F3 : hy_F ngX t (ld_cpN u 64) := F1.tr' (F2.w (fun r j q => (Bool.or_eq_false_iff.mp q).2))
        exact ⟨⟨⟨ml_ok_F F2 (fun r j q => by revert q; simp only [mkAll, mkA, mlawX, mrP, mrT, mrK, mrM, mvX, meX, mlX, mfaX, stX, hvX, pwX, btX, sgX, mlsX, jdX, tdX, dsX, enX, mftX, ldrX, wmX, maX, lwX, lrX, mrX, feX, ngX, Bool.or_eq_true, Bool.and_eq_true, decide_eq_true_eq, decide_eq_false_iff_not, beq_iff_eq, Bool.or_eq_false_iff, Bool.and_eq_false_iff, beq_eq_false_iff_ne]; omega) k1.ml, mk_p2 F2 (fun r j q => by revert q; simp only [mkAll, mkA, mlawX, mrP, mrT, mrK, mrM, mvX, meX, mlX, mfaX, stX, hvX, pwX, btX, sgX, mlsX, jdX, tdX, dsX, enX, mftX, ldrX, wmX, maX, lwX, lrX, mrX, feX, ngX, Bool.or_eq_true, Bool.and_eq_true, decide_eq_true_eq, decide_eq_false_iff_not, beq_iff_eq, Bool.or_eq_false_iff, Bool.and_eq_false_iff, beq_eq_false_iff_ne]; omega) k1.p2⟩, ⟨fun f hf => by rw [ld_cpN_v u 64 f, if_pos hf]; exact a1 f hf, mk_nl F2 (fun _ => rfl) k1.nl⟩, ⟨mk_tr F2 (fun r j q => by revert q; simp only [mkAll, mkA, mlawX, mrP, mrT, mrK, mrM, mvX, meX, mlX, mfaX, stX, hvX, pwX, btX, sgX, mlsX, jdX, tdX, dsX, enX, mftX, ldrX, wmX, maX, lwX, lrX, mrX, feX, ngX, Bool.or_eq_true, Bool.and_eq_true, decide_eq_true_eq, decide_eq_false_iff_not, beq_iff_eq, Bool.or_eq_false_iff, Bool.and_eq_false_iff, beq_eq_false_iff_ne]; omega) k1.tr, mk_kp F2 (fun r j q => by revert q; simp only [mkAll, mkA, mlawX, mrP, mrT, mrK, mrM, mvX, meX, mlX, mfaX, stX, hvX, pwX, btX, sgX, mlsX, jdX, tdX, dsX, enX, mftX, ldrX, wmX, maX, lwX, lrX, mrX, feX, ngX, Bool.or_eq_true, Bool.and_eq_true, decide_eq_true_eq, decide_eq_false_iff_not, beq_iff_eq, Bool.or_eq_false_iff, Bool.and_eq_false_iff, beq_eq_false_iff_ne]; omega) k1.kp⟩, mk_mt F2 rfl k1.mt⟩, F3⟩
      · exact ⟨k1, F1⟩
    · split
      · exact (ld_cpN_F u 64 59 9 rfl).trans z
      · exact z
  · simp only [if_neg hn]
    exact ⟨⟨k, hy_F.rf⟩, trivial⟩
theorem m5e {sc : List Int32} {t : hy_T} {n : Int} (k : mK t) : hy_Ct sc hm_M_land 3 [.inr (some 59), .inl n] t (fun r t' => mQ ngX t r t' ∧ (t' 59 9 = if ld_ntc t n then 0 else t 59 9) ∧ r = some (if ld_ntc t n then (if (ld_read t n).1 = true then ld_cntN (ld_read t n).2 64 else (ld_read t n).2 59 12) else -1) ∧ t' = if ld_ntc t n then (if (ld_read t n).1 = true then ld_cpN (ld_read t n).2 64 else (ld_read t n).2) else t) := (c_M_land k.nl).mono (fun r t' q => by
  obtain ⟨e1, e2⟩ := q
  obtain ⟨⟨k1, F⟩, z⟩ := ti_land_s (n := n) k
  rw [← e2] at k1 F z
  exact ⟨⟨⟨_, e1⟩, k1, F⟩, z, e1, e2⟩)
theorem bit_set {w c : Int} (hw : 0 ≤ w ∧ w ≤ 4095) (hc : 0 ≤ c ∧ c < 12) : (0 ≤ hz_ior w (hz_ishl 1 c) ∧ hz_ior w (hz_ishl 1 c) ≤ 4095) ∧ ∀ j : Nat, j < 12 → hz_b (hz_ior w (hz_ishl 1 c)) j = (hz_b w j || decide (c.toNat = j)) := by
  have e := hz_set (x := w) (k := c) (by omega) (by omega)
  have h1 : w.toNat < 2 ^ 12 := by
    show w.toNat < 4096
    omega
  have h2 : 2 ^ c.toNat < 2 ^ 12 := Nat.pow_lt_pow_right (by decide) (by omega)
  have h3 : w.toNat ||| 2 ^ c.toNat < 4096 := Nat.or_lt_two_pow h1 h2
  have h4 : ∀ j : Nat, (w.toNat ||| 2 ^ c.toNat).testBit j = (w.toNat.testBit j || decide (c.toNat = j)) := fun j => by
    rw [Nat.testBit_or, Nat.testBit_two_pow]
  rw [e]
  revert h3 h4
  generalize w.toNat ||| 2 ^ c.toNat = m
  intro h3 h4
  refine ⟨⟨by omega, by omega⟩, fun j hj => ?_⟩
  rw [hz_b_n (by omega) (by omega), hz_b_n (by omega) (by omega), Int.toNat_natCast, Int.toNat_natCast]
  exact h4 j
abbrev p3_Y : Nat → Nat → Bool := fun r j => (r == 5 && (j == 2 || j == 3)) || (r == 59 && j == 0) || r == 60
def p3_rel (t : hy_T) : Prop := (t 5 2 = t 59 0 ∧ (0 ≤ t 5 2 ∧ t 5 2 ≤ 4095) ∧ 0 ≤ t 5 3 ∧ t 5 3 ≤ 4095) ∧ ∀ c : Nat, c < 12 → hz_b (t 5 3) c = decide (t 60 c ≠ -1) ∧ (hz_b (t 5 3) c = true → hz_b (t 5 2) c = true)
theorem p3_relF (t t1 : hy_T) (h : p3_rel t) (hY : ∀ r j, p3_Y r j = true → t1 r j = t r j) : p3_rel t1 := by
  unfold p3_rel
  rw [hY 5 2 rfl, hY 5 3 rfl, hY 59 0 rfl]
  refine ⟨h.1, fun c hc => ?_⟩
  rw [hY 60 c rfl]
  exact h.2 c hc
theorem p3_rel0 : p3_rel t0 := ⟨⟨rfl, (show 0 ≤ (0 : Int) ∧ (0 : Int) ≤ 4095 by decide), (show 0 ≤ (0 : Int) ∧ (0 : Int) ≤ 4095 by decide)⟩, fun c hc => by
  have e : hz_b (t0 5 3) c = false := hz_b_0 c
  rw [e, show t0 60 c = -1 from rfl]
  exact ⟨rfl, fun h => by cases h⟩⟩
theorem p3_plain {t : hy_T} (h : p3_rel t) (c : Int) : wf_plain t c = mf_plain t c := by
  unfold wf_plain mf_plain sp_told
  rw [h.1.1]
  by_cases hc : 0 ≤ c ∧ c < 12
  · have := (h.2 c.toNat (by omega)).1
    rw [show ((c.toNat : Nat) : Int) = c by omega] at this
    rw [this, decide_eq_true hc, Bool.true_and, Bool.true_and]
    by_cases h6 : t 60 c.toNat = -1
    · simp [h6]
    · simp [h6]
  · rw [decide_eq_false hc, Bool.false_and, Bool.false_and, Bool.false_and]
theorem p3_tell {t t1 t2 : hy_T} {a b c : Int} (h : p3_rel t) (hq : sp_tellable (t 5 2) a b c = true) (e1 : t1 = sp_tellC t a b c) (e2 : t2 = sp_tellM t1 a b c) : p3_rel t2 := by
  obtain ⟨⟨r1, r2, r3⟩, r4⟩ := h
  simp only [sp_tellable, sp_told, Bool.and_eq_true, Bool.or_eq_true, decide_eq_true_eq] at hq
  have ha := hq.1.1
  have hn : hz_b (t 5 2) a = false := by
    have := hq.1.2
    rw [decide_eq_true ha, Bool.true_and] at this
    simpa using this
  have hd : (b = -1 ∧ c = -1) ∨ 0 ≤ b := by
    rcases hq.2 with q | q
    · exact .inl q
    · exact .inr q.1.1.1.1
  obtain ⟨s1, s2⟩ := bit_set r2 ha
  obtain ⟨s3, s4⟩ := bit_set r3 ha
  have x52 : t2 5 2 = hz_ior (t 5 2) (hz_ishl 1 a) := by
    rw [e2]
    show t1 5 2 = _
    rw [e1]
    unfold sp_tellC
    split <;> rfl
  have x53 : t2 5 3 = if b = -1 ∧ c = -1 then t 5 3 else hz_ior (t 5 3) (hz_ishl 1 a) := by
    rw [e2]
    show t1 5 3 = _
    rw [e1]
    unfold sp_tellC
    split <;> rfl
  have x0 : t1 59 0 = t 59 0 := by
    rw [e1]
    unfold sp_tellC
    split <;> rfl
  have x590 : t2 59 0 = hz_ior (t 5 2) (hz_ishl 1 a) := by
    rw [e2, r1, ← x0]
    rfl
  have x60 : ∀ j : Nat, t2 60 j = if j = a.toNat then b else t 60 j := fun j => by
    have y : t1 60 j = t 60 j := by
      rw [e1]
      unfold sp_tellC
      split <;> rfl
    rw [e2]
    unfold sp_tellM
    rw [hy_up_ne (by decide)]
    simp only [hy_up, true_and]
    split
    · rfl
    · rw [if_neg (by omega)]
      exact y
  refine ⟨⟨by rw [x52, x590], by rw [x52]; exact s1, ?_⟩, fun j hj => ?_⟩
  · rw [x53]
    split
    · exact r3
    · exact s3
  · obtain ⟨u1, u2⟩ := r4 j hj
    rw [x52, x53, x60 j, s2 j hj]
    by_cases hja : j = a.toNat
    · have hna : hz_b (t 5 2) j = false := by rw [hja, show ((a.toNat : Nat) : Int) = a by omega]; exact hn
      have hz3 : hz_b (t 5 3) j = false := by
        cases e : hz_b (t 5 3) j with
        | false => rfl
        | true => rw [u2 e] at hna; cases hna
      rw [if_pos hja, hna, decide_eq_true hja.symm]
      by_cases hp : b = -1 ∧ c = -1
      · rw [if_pos hp, hz3, decide_eq_false (show ¬ b ≠ -1 by omega)]
        exact ⟨rfl, fun _ => rfl⟩
      · rw [if_neg hp, s4 j hj, hz3, decide_eq_true hja.symm, decide_eq_true (show b ≠ -1 by omega)]
        exact ⟨rfl, fun _ => rfl⟩
    · rw [if_neg hja, decide_eq_false (show ¬ a.toNat = j by omega), Bool.or_false]
      by_cases hp : b = -1 ∧ c = -1
      · rw [if_pos hp]
        exact ⟨u1, u2⟩
      · rw [if_neg hp, s4 j hj, decide_eq_false (show ¬ a.toNat = j by omega), Bool.or_false]
        exact ⟨u1, u2⟩
theorem k1e {sc : List Int32} {t : hy_T} {a b c : Int} (k : cK t) : hy_Ct sc hm_W_have 3 [.inr (some 2), .inl a, .inl b, .inl c] t (fun r t' => cQ (fun r _ => r == 34) t r t' ∧ r = some (hy_b (wf_have t a b c))) := c_W_have.mono (fun r t' q => by
  obtain ⟨rfl, rfl⟩ := q
  have F : hy_F (fun r _ => r == 34) t (if wf_have t a b c = true then sp_setH 33 t a b c else t) := by
    split
    · unfold sp_setH
      split
      · exact hy_F.rf.up rfl
      · exact hy_F.rf
    · exact hy_F.rf
  exact ⟨⟨⟨_, rfl⟩, cK_F F (fun r j q => by revert q; simp only [ckX, ckT, lawX, ckN, ckS, ckP, Bool.or_eq_true, Bool.and_eq_true, beq_iff_eq, beq_eq_false_iff_ne]; omega) k, F⟩, rfl⟩)
theorem m1e {sc : List Int32} {t : hy_T} {a b c : Int} (k : mK t) : hy_Ct sc hm_M_have 3 [.inr (some 59), .inl a, .inl b, .inl c] t (fun r t' => mQ (fun r _ => r == 62) t r t' ∧ r = some (hy_b (mf_have t a b c))) := c_M_have.mono (fun r t' q => by
  obtain ⟨rfl, rfl⟩ := q
  have F : hy_F (fun r _ => r == 62) t (if mf_have t a b c = true then hy_up t 62 (4 * a + b).toNat c else t) := by
    split
    · exact hy_F.rf.up rfl
    · exact hy_F.rf
  exact ⟨⟨⟨_, rfl⟩, mK_F F (fun r j q => by revert q; simp only [mkAll, mkA, mlawX, mrP, mrT, mrK, mrM, Bool.or_eq_true, Bool.and_eq_true, decide_eq_true_eq, beq_iff_eq, beq_eq_false_iff_ne]; omega) k, F⟩, rfl⟩)
theorem p3_have {t t1 t2 : hy_T} {a b c : Int} {r1 r2 : Option Int} (h : p3_rel t) (F : hy_F (fun r _ => r == 34) t t1) (F2 : hy_F (fun r _ => r == 62) t1 t2) (q1 : r1 = some (hy_b (wf_have t a b c))) (q2 : r2 = some (hy_b (mf_have t1 a b c))) : r2 = r1 ∧ p3_rel t2 := by
  have h1 : p3_rel t1 := p3_relF t t1 h (fun r j q => F r j (by revert q; simp only [p3_Y, Bool.or_eq_true, Bool.and_eq_true, beq_iff_eq, beq_eq_false_iff_ne]; omega))
  have h2 : p3_rel t2 := p3_relF t1 t2 h1 (fun r j q => F2 r j (by revert q; simp only [p3_Y, Bool.or_eq_true, Bool.and_eq_true, beq_iff_eq, beq_eq_false_iff_ne]; omega))
  refine ⟨?_, h2⟩
  rw [q1, q2]
  have e : mf_have t1 a b c = wf_have t a b c := by
    unfold mf_have wf_have
    rw [← p3_plain h1 a]
    unfold wf_plain
    rw [F 5 2 rfl, F 5 3 rfl]
  rw [e]
theorem k2x {sc : List Int32} {t : hy_T} {a b c : Int} (k : cK t) : hy_Ct sc hm_W_owner 2 [.inr (some 2), .inl a, .inl b, .inl c] t (fun r t' => cQ (fun r _ => r == 35) t r t' ∧ t' = if wf_owner a b c = true then hy_up t 35 (8 * b + a).toNat c else t) := c_W_owner.mono (fun r t' q => by
  obtain ⟨rfl, rfl⟩ := q
  have F : hy_F (fun r _ => r == 35) t (if wf_owner a b c = true then hy_up t 35 (8 * b + a).toNat c else t) := by
    split
    · exact hy_F.rf.up rfl
    · exact hy_F.rf
  exact ⟨⟨⟨_, rfl⟩, cK_F F (fun r j q => by revert q; simp only [ckX, ckT, lawX, ckN, ckS, ckP, Bool.or_eq_true, Bool.and_eq_true, beq_iff_eq, beq_eq_false_iff_ne]; omega) k, F⟩, rfl⟩)
theorem m2x {sc : List Int32} {t : hy_T} {a b c : Int} (k : mK t) : hy_Ct sc hm_M_owner 1 [.inr (some 59), .inl a, .inl b, .inl c] t (fun r t' => mQ (fun r _ => r == 64) t r t' ∧ t' = if wf_owner a b c = true then hy_up t 64 (8 * b + a).toNat c else t) := c_M_owner.mono (fun r t' q => by
  obtain ⟨rfl, rfl⟩ := q
  have F : hy_F (fun r _ => r == 64) t (if wf_owner a b c = true then hy_up t 64 (8 * b + a).toNat c else t) := by
    split
    · exact hy_F.rf.up rfl
    · exact hy_F.rf
  exact ⟨⟨⟨_, rfl⟩, mK_F F (fun r j q => by revert q; simp only [mkAll, mkA, mlawX, mrP, mrT, mrK, mrM, Bool.or_eq_true, Bool.and_eq_true, decide_eq_true_eq, beq_iff_eq, beq_eq_false_iff_ne]; omega) k, F⟩, rfl⟩)
