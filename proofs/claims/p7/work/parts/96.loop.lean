/-! the relation of p7: tapes, told colours, the rows that are read -/
abbrev p5_Y : Nat → Nat → Bool := fun r j => (r == 3 && j == 1) || (r == 59 && j == 9)
def p5_rel (t : hy_T) : Prop := t 3 1 = t 59 9
theorem p5_relF (t t1 : hy_T) (h : p5_rel t) (hY : ∀ r j, p5_Y r j = true → t1 r j = t r j) : p5_rel t1 := by
  unfold p5_rel
  rw [hY 3 1 rfl, hY 59 9 rfl]
  exact h
theorem wf_feed_31 {t : hy_T} {a b c d e : Int} (hq : t 3 1 ≤ 240) : wf_feed t a b c d e 3 1 = t 3 1 + 20 := by
  have h1 := tp_add_l (t := t) (w := a) (by omega)
  have h2 := tp_add_l (t := tp_add t a) (w := b) (by omega)
  have h3 := tp_add_l (t := tp_add (tp_add t a) b) (w := c) (by omega)
  have h4 := tp_add_l (t := tp_add (tp_add (tp_add t a) b) c) (w := d) (by omega)
  have h5 := tp_add_l (t := tp_add (tp_add (tp_add (tp_add t a) b) c) d) (w := e) (by omega)
  unfold wf_feed
  omega
theorem k3e {sc : List Int32} {t : hy_T} {a b c d e : Int} (k : cK t) : hy_Ct sc hm_W_feed 1 [.inr (some 2), .inl a, .inl b, .inl c, .inl d, .inl e] t (fun r t' => cQ taX t r t' ∧ r = some (if t 3 1 ≤ 240 then t 3 1 + 20 else -1) ∧ t' = if t 3 1 ≤ 240 then wf_feed t a b c d e else t) := (c_W_feed k.tp.l).mono (fun r t' q => by
  obtain ⟨rfl, rfl⟩ := q
  obtain ⟨k1, F⟩ := cK_feed (a := a) (b := b) (c := c) (d := d) (e := e) k
  exact ⟨⟨⟨_, rfl⟩, k1, F⟩, rfl, rfl⟩)
theorem m3e {sc : List Int32} {t : hy_T} {a b c d e : Int} (k : mK t) : hy_Ct sc hm_M_feed 1 [.inr (some 59), .inl a, .inl b, .inl c, .inl d, .inl e] t (fun r t' => mQ feX t r t' ∧ r = some (if t 59 9 ≤ 240 then t 59 9 + 20 else -1) ∧ t' = if t 59 9 ≤ 240 then mf_feed t a b c d e else t) := (c_M_feed k.mt).mono (fun r t' q => by
  obtain ⟨rfl, rfl⟩ := q
  refine ⟨⟨⟨_, rfl⟩, ?_⟩, rfl, rfl⟩
  obtain ⟨F, e9⟩ := mf_feed_s t a b c d e
  have k9 := k.mt
  split
  · exact ⟨mK_A F (fun r j q => by revert q; simp only [mkA, mlawX, mrP, mrT, mrK, feX, Bool.or_eq_true, Bool.and_eq_true, decide_eq_true_eq, beq_iff_eq, Bool.or_eq_false_iff, Bool.and_eq_false_iff, beq_eq_false_iff_ne]; omega) (by unfold mt_ok; omega) k, F⟩
  · exact ⟨k, hy_F.rf⟩)
theorem p5_feed {t t1 t2 : hy_T} {a b c d e : Int} {r1 r2 : Option Int} (h : p5_rel t) (F : hy_F taX t t1) (F2 : hy_F feX t1 t2) (q1 : r1 = some (if t 3 1 ≤ 240 then t 3 1 + 20 else -1) ∧ t1 = if t 3 1 ≤ 240 then wf_feed t a b c d e else t) (q2 : r2 = some (if t1 59 9 ≤ 240 then t1 59 9 + 20 else -1) ∧ t2 = if t1 59 9 ≤ 240 then mf_feed t1 a b c d e else t1) : r2 = r1 ∧ p5_rel t2 := by
  have x := F 59 9 rfl
  have y := F2 3 1 rfl
  have h0 : t 3 1 = t 59 9 := h
  obtain ⟨e1, e2⟩ := q1
  obtain ⟨e3, e4⟩ := q2
  refine ⟨by rw [e1, e3, x, h0], ?_⟩
  show t2 3 1 = t2 59 9
  by_cases hq : t 3 1 ≤ 240
  · rw [if_pos hq] at e2
    rw [if_pos (by omega)] at e4
    have z1 : t1 3 1 = t 3 1 + 20 := by rw [e2]; exact wf_feed_31 hq
    have z2 : t2 59 9 = t1 59 9 + 20 := by rw [e4]; exact (mf_feed_s t1 a b c d e).2
    omega
  · rw [if_neg hq] at e2
    rw [if_neg (by omega)] at e4
    have z1 : t1 3 1 = t 3 1 := by rw [e2]
    have z2 : t2 59 9 = t1 59 9 := by rw [e4]
    omega
theorem p5_law {t t1 t2 : hy_T} {n : Int} (h : p5_rel t) (F : hy_F lwcX t t1) (F2 : hy_F lwX t1 t2) (e1 : t1 = (wf_law t n).2) (e2 : t2 59 9 = if al_nc t1 n then 0 else t1 59 9) : p5_rel t2 := by
  have x := F 59 9 rfl
  have y := F2 3 1 rfl
  have h0 : t 3 1 = t 59 9 := h
  have c := wf_law_31 t n
  rw [← e1] at c
  show t2 3 1 = t2 59 9
  simp only [al_nc] at e2
  split at c <;> split at e2 <;> omega
theorem p5_land {t t1 t2 : hy_T} {n : Int} (k : cK t) (h : p5_rel t) (F : hy_F glX t t1) (F2 : hy_F ngX t1 t2) (e1 : t1 = (wf_land t n).2) (e2 : t2 59 9 = if ld_ntc t1 n then 0 else t1 59 9) : p5_rel t2 := by
  have x := F 59 9 rfl
  have y := F2 3 1 rfl
  have h0 : t 3 1 = t 59 9 := h
  have c := (wf_land_s k.tp n).2.2
  rw [← e1] at c
  show t2 3 1 = t2 59 9
  simp only [ld_ntc] at e2
  split at c <;> split at e2 <;> omega
theorem p5_lines {XW XM : Nat → Nat → Bool} {t t1 t2 : hy_T} {n : Int} (h : p5_rel t) (F : hy_F XW t t1) (F2 : hy_F XM t1 t2) (hw : XW 59 9 = false) (hm : XM 3 1 = false) (c : t1 3 1 = if 1 ≤ n ∧ n ≤ 120 ∧ n ≤ t 3 1 then 0 else t 3 1) (e2 : t2 59 9 = if ml_ntc t1 n then 0 else t1 59 9) : p5_rel t2 := by
  have x := F 59 9 hw
  have y := F2 3 1 hm
  have h0 : t 3 1 = t 59 9 := h
  show t2 3 1 = t2 59 9
  simp only [ml_ntc] at e2
  split at c <;> split at e2 <;> omega
theorem p5_parted {t t1 t2 : hy_T} {m w : Int} (hR : hy_R w) (h : p5_rel t) (F : hy_F t1X t t1) (F2 : hy_F t9X t1 t2) (e1 : t1 = if wf_partok t m w then hy_up t 3 1 0 else t) (e2 : t2 = if mf_ptc t1 m w then hy_up t1 59 9 0 else t1) : p5_rel t2 := by
  have x := F 59 9 rfl
  have y := F2 3 1 rfl
  have h0 : t 3 1 = t 59 9 := h
  have z := wf_sub (k := 10) hR (by decide)
  have hw : (0 ≤ wf_w10 w ∧ wf_w10 w < 4) ↔ (10 ≤ w ∧ w ≤ 13) := by
    unfold wf_w10
    revert z
    generalize (Int32.ofInt (w - 10)).toInt = y
    intro z
    omega
  have c : t1 3 1 = if wf_partok t m w then 0 else t 3 1 := by
    rw [e1]
    split <;> rfl
  have c2 : t2 59 9 = if mf_ptc t1 m w then 0 else t1 59 9 := by
    rw [e2]
    split <;> rfl
  have hc : wf_partok t m w ↔ mf_ptc t1 m w := by
    unfold wf_partok mf_ptc
    rw [hw]
    omega
  show t2 3 1 = t2 59 9
  by_cases hq : wf_partok t m w
  · rw [if_pos hq] at c
    rw [if_pos (hc.mp hq)] at c2
    omega
  · rw [if_neg hq] at c
    rw [if_neg (fun q => hq (hc.mpr q))] at c2
    omega
theorem p5_spies {t t1 t2 : hy_T} {n w : Int} (h : p5_rel t) (F : hy_F spX t t1) (F2 : hy_F spmX t1 t2) (c : t1 3 1 = if wf_spyok t n w then 0 else t 3 1) (e2 : t2 59 9 = if ms_spc t1 n w then 0 else t1 59 9) : p5_rel t2 := by
  have x := F 59 9 rfl
  have y := F2 3 1 rfl
  have h0 : t 3 1 = t 59 9 := h
  show t2 3 1 = t2 59 9
  simp only [wf_spyok] at c
  simp only [ms_spc] at e2
  split at c <;> split at e2 <;> omega
theorem p5_check {t t1 t2 : hy_T} {n : Int} (h : p5_rel t) (F : hy_F t1X t t1) (F2 : hy_F t9X t1 t2) (e1 : t1 = if (0 ≤ n ∧ n ≤ 8) ∧ 4 * n ≤ t 3 1 then hy_up t 3 1 0 else t) (e2 : t2 = if (0 ≤ n ∧ n ≤ 8) ∧ 4 * n ≤ t1 59 9 then hy_up t1 59 9 0 else t1) : p5_rel t2 := by
  have x := F 59 9 rfl
  have y := F2 3 1 rfl
  have h0 : t 3 1 = t 59 9 := h
  have c : t1 3 1 = if (0 ≤ n ∧ n ≤ 8) ∧ 4 * n ≤ t 3 1 then 0 else t 3 1 := by
    rw [e1]
    split <;> rfl
  have c2 : t2 59 9 = if (0 ≤ n ∧ n ≤ 8) ∧ 4 * n ≤ t1 59 9 then 0 else t1 59 9 := by
    rw [e2]
    split <;> rfl
  show t2 3 1 = t2 59 9
  split at c <;> split at c2 <;> omega
abbrev p29_Y : Nat → Nat → Bool := fun r j => (r == 2 && j == 9) || (r == 59 && j == 57)
def p29_rel (t : hy_T) : Prop := t 2 9 = t 59 57
theorem p29_relF (t t1 : hy_T) (h : p29_rel t) (hY : ∀ r j, p29_Y r j = true → t1 r j = t r j) : p29_rel t1 := by
  unfold p29_rel
  rw [hY 2 9 rfl, hY 59 57 rfl]
  exact h
theorem p29_keep {t t1 t2 : hy_T} (F2 : hy_F kpmX t1 t2) (e1 : t1 = hy_up (sp_scopy t 33 37) 2 9 1) (e2 : t2 = mf_keep t1) : p29_rel t2 := by
  have y := F2 2 9 rfl
  have z := (mf_keep_v t1).2.2.2.2.2
  rw [← e2] at z
  have w : t1 2 9 = 1 := by rw [e1]; rfl
  show t2 2 9 = t2 59 57
  omega
theorem p29_undo {t t1 t2 : hy_T} {r1 r2 : Option Int} (h : p29_rel t) (F : hy_F (cpX 33) t t1) (F2 : hy_F udX t1 t2) (e1 : r1 = some (if t 2 9 = 0 then 0 else 1)) (e2 : r2 = some (if t1 59 57 = 0 then 0 else 1)) : r2 = r1 ∧ p29_rel t2 := by
  have x := F 59 57 rfl
  have y := F2 2 9 rfl
  have x2 := F 2 9 rfl
  have y2 := F2 59 57 rfl
  have h0 : t 2 9 = t 59 57 := h
  refine ⟨by rw [e1, e2, x, h0], ?_⟩
  show t2 2 9 = t2 59 57
  omega
theorem by8 (v : Int32) : (v.toInt8.toInt32 &&& 255) = v &&& 255 := by
  apply Int32.toBitVec_inj.mp
  apply BitVec.eq_of_getLsbD_eq
  intro i hi
  simp only [Int32.toBitVec_and, BitVec.getLsbD_and]
  by_cases h8 : i < 8
  · have e : (v.toInt8.toInt32).toBitVec.getLsbD i = v.toBitVec.getLsbD i := by
      rw [Int8.toBitVec_toInt32, BitVec.getLsbD_signExtend, Int32.toBitVec_toInt8, if_pos h8]
      rw [decide_eq_true hi, Bool.true_and, BitVec.getLsbD_signExtend, decide_eq_true h8, Bool.true_and, if_pos hi]
    rw [e]
  · have e : (255 : Int32).toBitVec.getLsbD i = false := by
      have key : ∀ j : Fin 32, ¬ (j.val < 8) → (255 : Int32).toBitVec.getLsbD j.val = false := by decide
      exact key ⟨i, hi⟩ h8
    rw [e]
    simp
theorem sh_or (a b : Int32) (k : Int32) : (a ||| b) <<< k = (a <<< k) ||| (b <<< k) := by
  apply Int32.toBitVec_inj.mp
  apply BitVec.eq_of_getLsbD_eq
  intro i hi
  simp [Int32.toBitVec_shiftLeft, BitVec.getLsbD_or, Bool.and_or_distrib_left]
theorem sh_88 (a : Int32) : (a <<< 8) <<< 8 = a <<< 16 := by
  apply Int32.toBitVec_inj.mp
  apply BitVec.eq_of_getLsbD_eq
  intro i hi
  simp [Int32.toBitVec_shiftLeft]
theorem sh_168 (a : Int32) : (a <<< 8) <<< 16 = a <<< 24 := by
  apply Int32.toBitVec_inj.mp
  apply BitVec.eq_of_getLsbD_eq
  intro i hi
  simp [Int32.toBitVec_shiftLeft]
theorem hz_i2b_255 (x : Int) : hz_iand (hz_i2b x) 255 = hz_iand x 255 := by
  unfold hz_iand hz_i2b
  rw [Int32.ofInt_toInt, show Int32.ofInt 255 = 255 from rfl, by8]
theorem num4 (a b c d : Int) : hz_ior (hz_ishl (hz_ior (hz_ishl (hz_ior (hz_ishl (hz_ior (hz_ishl 0 8) a) 8) b) 8) c) 8) d = hz_ior (hz_ior (hz_ior (hz_ishl a 24) (hz_ishl b 16)) (hz_ishl c 8)) d := by
  unfold hz_ior hz_ishl
  simp only [Int32.ofInt_toInt]
  rw [show Int32.ofInt 8 &&& 31 = 8 by decide, show Int32.ofInt 16 &&& 31 = 16 by decide, show Int32.ofInt 24 &&& 31 = 24 by decide, show Int32.ofInt 0 <<< (8 : Int32) = 0 by decide, Int32.zero_or]
  rw [sh_or, sh_or, sh_or, sh_88, sh_88, sh_168]
def p30_b (t u : hy_T) : Prop := t 3 1 = u 59 9 ∧ ∀ j : Nat, j < 260 → t 4 j = hz_iand (u 65 j) 255
theorem p30_1 {t u : hy_T} (b : p30_b t u) (hl : 0 ≤ t 3 1 ∧ t 3 1 < 260) (v : Int) (k : Nat) (s : Int) (hs : s = 8 * (k : Int)) : p30_b (tp_add1 t (tp_byte v s)) (mf_ty1 u v k) ∧ tp_add1 t (tp_byte v s) 3 1 = t 3 1 + 1 := by
  have l := tp_add1_l (t := t) (v := tp_byte v s) hl.2
  refine ⟨⟨?_, fun j hj => ?_⟩, l⟩
  · rw [l, b.1]
    rfl
  · have x : tp_add1 t (tp_byte v s) 4 j = if j = (t 3 1).toNat then tp_byte v s else t 4 j := by
      unfold tp_add1
      rw [if_pos hl.2, hy_up_ne (by decide)]
      simp only [hy_up, true_and]
    have y : mf_ty1 u v k 65 j = if j = (u 59 9).toNat then hz_i2b (hz_ishr v (8 * (k : Int))) else u 65 j := by
      unfold mf_ty1
      rw [hy_up_ne (by decide)]
      simp only [hy_up, true_and]
    rw [x, y, b.1]
    split
    · rw [hz_i2b_255, hs]
      rfl
    · exact b.2 j hj
theorem p30_4 {t u : hy_T} (b : p30_b t u) (hl : 0 ≤ t 3 1 ∧ t 3 1 ≤ 256) (v : Int) : p30_b (tp_add t v) (mf_tyN v 4 u) ∧ tp_add t v 3 1 = t 3 1 + 4 := by
  obtain ⟨b1, l1⟩ := p30_1 b ⟨by omega, by omega⟩ v 3 24 (by decide)
  obtain ⟨b2, l2⟩ := p30_1 b1 ⟨by omega, by omega⟩ v 2 16 (by decide)
  obtain ⟨b3, l3⟩ := p30_1 b2 ⟨by omega, by omega⟩ v 1 8 (by decide)
  obtain ⟨b4, l4⟩ := p30_1 b3 ⟨by omega, by omega⟩ v 0 0 (by decide)
  refine ⟨b4, ?_⟩
  unfold tp_add
  omega
theorem p30_20 {t u : hy_T} (b : p30_b t u) (hl : 0 ≤ t 3 1 ∧ t 3 1 ≤ 240) (a b' c d e : Int) : p30_b (wf_feed t a b' c d e) (mf_feed u a b' c d e) := by
  obtain ⟨b1, l1⟩ := p30_4 b ⟨by omega, by omega⟩ a
  obtain ⟨b2, l2⟩ := p30_4 b1 ⟨by omega, by omega⟩ b'
  obtain ⟨b3, l3⟩ := p30_4 b2 ⟨by omega, by omega⟩ c
  obtain ⟨b4, l4⟩ := p30_4 b3 ⟨by omega, by omega⟩ d
  obtain ⟨b5, l5⟩ := p30_4 b4 ⟨by omega, by omega⟩ e
  exact b5
/-- both sides read the same text at the same place -/
def ti_S (t u : hy_T) : Prop := ((t 3 4 = 0 ∧ t 3 3 = u 59 10 ∧ t 3 2 = u 59 11) ∧ (0 ≤ t 3 3 ∧ t 3 2 ≤ 260) ∧ t 5 2 = u 59 0) ∧ (∀ j : Nat, j < 260 → t 4 j = hz_iand (u 65 j) 255) ∧ ∀ j : Nat, j < 64 → t 10 j = u 96 j
theorem ti_next {t u : hy_T} (h : ti_S t u) : tp_next t = mp_here u := by
  obtain ⟨⟨⟨a1, a2, a3⟩, ⟨a4, a5⟩, -⟩, a6, -⟩ := h
  unfold tp_next mp_here
  rw [← a2, ← a3]
  by_cases hq : t 3 3 < t 3 2
  · rw [if_pos ⟨a1, a4, hq⟩, if_pos hq]
    exact a6 _ (by omega)
  · rw [if_neg (fun q => hq q.2.2), if_neg hq]
def ti_R (t : hy_T) (p : Bool × hy_T) : Prop := if p.1 = true then ti_S t p.2 else (t 3 4 ≠ 0 ∧ t 3 4 = p.2 59 12) ∧ ∀ j : Nat, j < 64 → t 10 j = p.2 96 j
theorem ti_f {t u : hy_T} (h : ti_R t (false, u)) : t 3 4 ≠ 0 := h.1.1
theorem ti_ok {t u : hy_T} (h : ti_S t u) : ti_R t (true, u) := by
  unfold ti_R
  rw [if_pos rfl]
  exact h
theorem ti_fail {t u : hy_T} (h : ti_S t u) {n : Int} (hn : 1 ≤ n) {w : Int} (hw : w = u 59 10) : ti_R (tp_fail t n (t 3 3)) (false, mp_wr u n w) := by
  obtain ⟨⟨⟨a1, a2, a3⟩, ⟨a4, a5⟩, -⟩, a6, a7⟩ := h
  show (tp_fail t n (t 3 3) 3 4 ≠ 0 ∧ tp_fail t n (t 3 3) 3 4 = mp_wr u n w 59 12) ∧ ∀ j : Nat, j < 64 → tp_fail t n (t 3 3) 10 j = mp_wr u n w 96 j
  have e : tp_fail t n (t 3 3) = hy_up t 3 4 (-1000 * n - t 3 3) := if_pos a1
  rw [e]
  have e1 : hy_up t 3 4 (-1000 * n - t 3 3) 3 4 = -1000 * n - t 3 3 := rfl
  have e2 : mp_wr u n w 59 12 = -1000 * n - w := rfl
  refine ⟨⟨by rw [e1]; omega, ?_⟩, fun j hj => ?_⟩
  · show hy_up t 3 4 (-1000 * n - t 3 3) 3 4 = mp_wr u n w 59 12
    rw [e1, e2, hw, a2]
  · show hy_up t 3 4 (-1000 * n - t 3 3) 10 j = mp_wr u n w 96 j
    rw [hy_up_ne (by decide)]
    unfold mp_wr
    rw [hy_up_ne (by decide)]
    exact a7 j hj
theorem ti_step {t u : hy_T} (h : ti_S t u) (hp : 0 ≤ tp_next t) : ti_S (tp_step t) (mp_st u) := by
  obtain ⟨⟨⟨a1, a2, a3⟩, ⟨a4, a5⟩, a8⟩, a6, a7⟩ := h
  refine ⟨⟨⟨a1, ?_, a3⟩, ⟨?_, a5⟩, a8⟩, a6, a7⟩
  · show t 3 3 + 1 = u 59 10 + 1
    omega
  · show 0 ≤ t 3 3 + 1
    omega
theorem ti_let (c : Int) : 0 ≤ gd_col c ↔ ld_let c := by
  unfold gd_col ld_let
  split
  · omega
  · split <;> omega
theorem ti_col {c : Int} (h : ld_let c) : gd_col c = ld_col c ∧ (gd_col c ≠ 12 ↔ c ≠ 46) ∧ (c ≠ 46 → gd_col c = c - 97) := by
  unfold gd_col ld_col
  unfold ld_let at h
  split
  · omega
  · rw [if_pos (by omega)]
    omega
theorem ti_deadF {t : hy_T} (h : t 3 4 ≠ 0) (n w : Int) : tp_fail t n w = t := if_neg h
theorem ti_dead {t : hy_T} (h : t 3 4 ≠ 0) (y : Int) : ∀ (n : Nat) (x : Int), gd_rowN y n t x = t
  | 0, x => by
    show gd_rowE t x = t
    unfold gd_rowE
    split
    · exact ti_deadF h _ _
    · rfl
  | n + 1, x => by
    have e : tp_next t = -1 := if_neg (fun q => h q.1)
    simp only [gd_rowN]
    rw [e, if_neg (by decide)]
    unfold gd_rowE
    split
    · exact ti_deadF h _ _
    · rfl
theorem ti_paint_F (u : hy_T) (p : Nat) (v : Int) : ∀ n, hy_F (fun r _ => r == 96) u (ld_paintN u p v n)
  | 0 => hy_F.rf
  | n + 1 => (ti_paint_F u p v n).up rfl
theorem ti_fill {t u : hy_T} (h : ∀ j : Nat, j < 64 → t 10 j = u 96 j) (row many : Nat) (c : Int) : ∀ (n : Nat) (j : Nat), j < 64 → gd_fillN t row many c n 10 j = ld_paintN u (8 * row + many) c n 96 j
  | 0, j, hj => h j hj
  | n + 1, j, hj => by
    have ih := ti_fill h row many c n j hj
    simp only [gd_fillN, ld_paintN, hy_up, true_and]
    rw [show (8 * (row : Int) + (many : Int) + (n : Int)).toNat = 8 * row + many + n by omega, ih]
theorem ti_laid {t u : hy_T} (h : ti_S t u) (hp : 0 ≤ tp_next t) (row many : Nat) (c : Int) (n : Nat) : ti_S (gd_fillN (tp_step t) row many c n) (mp_st (ld_paintN u (8 * row + many) c n)) := by
  have h1 := ti_step h hp
  obtain ⟨⟨⟨a1, a2, a3⟩, ⟨a4, a5⟩, a8⟩, a6, a7⟩ := h1
  have F := gd_fillN_F (tp_step t) row many c n
  have G := ti_paint_F u (8 * row + many) c n
  refine ⟨⟨⟨?_, ?_, ?_⟩, ⟨?_, ?_⟩, ?_⟩, fun j hj => ?_, fun j hj => ?_⟩
  · rw [F 3 4 rfl]; exact a1
  · rw [F 3 3 rfl, a2]
    show u 59 10 + 1 = ld_paintN u (8 * row + many) c n 59 10 + 1
    rw [G 59 10 rfl]
  · rw [F 3 2 rfl, a3]
    exact (G 59 11 rfl).symm
  · rw [F 3 3 rfl]; exact a4
  · rw [F 3 2 rfl]; exact a5
  · rw [F 5 2 rfl, a8]
    exact (G 59 0 rfl).symm
  · rw [F 4 j rfl, a6 j hj]
    show _ = hz_iand (ld_paintN u (8 * row + many) c n 65 j) 255
    rw [G 65 j rfl]
    rfl
  · show _ = ld_paintN u (8 * row + many) c n 96 j
    exact ti_fill (t := tp_step t) (u := u) (fun i hi => a7 i hi) row many c n j hj
/-- the rest of a run of fields, behind its number -/
theorem ti_tail {t u : hy_T} (h : ti_S t u) (row many times : Nat) (h8 : many + times ≤ 8) : (¬ ld_let (mp_here u) → ti_R (gd_tail t row many times).1 (false, mp_wr u 1 (u 59 10))) ∧
    (ld_let (mp_here u) → (mp_here u ≠ 46 ∧ sp_told (u 59 0) (mp_here u - 97) = false) → ti_R (gd_tail t row many times).1 (false, mp_wr u 7 (u 59 10))) ∧
    (ld_let (mp_here u) → ¬ (mp_here u ≠ 46 ∧ sp_told (u 59 0) (mp_here u - 97) = false) → (gd_tail t row many times).2 = times ∧ ti_S (gd_tail t row many times).1 (mp_st (ld_paintN u (8 * row + many) (ld_col (mp_here u)) times))) := by
  have e := ti_next h
  have e52 : t 5 2 = u 59 0 := h.1.2.2
  unfold gd_tail
  rw [e]
  refine ⟨fun q => ?_, fun q q2 => ?_, fun q q2 => ?_⟩
  · rw [if_pos (by have := (ti_let (mp_here u)).mp; omega)]
    exact ti_fail h (by decide) rfl
  · obtain ⟨c1, c2, c3⟩ := ti_col q
    have := (ti_let (mp_here u)).mpr q
    rw [if_neg (by omega), if_neg (by omega), if_pos ⟨c2.mpr q2.1, by rw [e52, c3 q2.1]; exact q2.2⟩]
    exact ti_fail h (by decide) rfl
  · obtain ⟨c1, c2, c3⟩ := ti_col q
    have hp := (ti_let (mp_here u)).mpr q
    rw [if_neg (by omega), if_neg (by omega), if_neg (fun q3 => q2 ⟨c2.mp q3.1, by rw [← e52, ← c3 (c2.mp q3.1)]; exact q3.2⟩), c1]
    refine ⟨rfl, ?_⟩
    rw [Int.toNat_natCast]
    exact ti_laid h (by rw [e]; exact gd_col_p hp) row many _ times
theorem ti_row (row : Nat) : ∀ (n : Nat) {t u : hy_T} (many : Nat), ti_S t u → many ≤ 8 → 9 ≤ n + many → ti_R (gd_rowN row n t many) (ld_rowN row n u many)
  | 0, t, u, many, h, h8, h9 => by omega
  | n + 1, t, u, many, h, h8, h9 => by
    have e := ti_next h
    have el := ti_let (mp_here u)
    simp only [gd_rowN, ld_rowN]
    rw [e]
    by_cases hs : ld_run (mp_here u) ∨ ld_let (mp_here u)
    · rw [if_pos (show (49 ≤ mp_here u ∧ mp_here u ≤ 56) ∨ 0 ≤ gd_col (mp_here u) from hs.elim .inl (fun q => .inr (el.mpr q)))]
      rw [if_neg (show ¬ (many = 8 ∧ ¬ ld_run (mp_here u) ∧ ¬ ld_let (mp_here u)) from fun q => hs.elim q.2.1 q.2.2)]
      by_cases hr : ld_run (mp_here u)
      · have hr' : 49 ≤ mp_here u ∧ mp_here u ≤ 56 := hr
        have et : ld_times u = (mp_here u - 48).toNat := if_pos hr
        have e1 : ld_t1 u = mp_st u := if_pos hr
        rw [et, e1]
        have ef : gd_fields t row many = if 8 < (many : Int) + (mp_here u - 48) then (tp_fail t 6 (t 3 3), 0) else gd_tail (tp_step t) row many (mp_here u - 48) := by
          unfold gd_fields
          rw [e, if_pos (by omega)]
        rw [ef]
        by_cases hb : 8 < many + (mp_here u - 48).toNat
        · rw [if_pos (show (ld_run (mp_here u) ∨ ld_let (mp_here u)) ∧ 8 < many + (mp_here u - 48).toNat from ⟨hs, hb⟩), if_pos (show 8 < (many : Int) + (mp_here u - 48) by omega)]
          have := ti_fail h (n := 6) (by decide) rfl
          rw [ti_dead (ti_f this)]
          exact this
        · rw [if_neg (show ¬ ((ld_run (mp_here u) ∨ ld_let (mp_here u)) ∧ 8 < many + (mp_here u - 48).toNat) from fun q => hb q.2), if_neg (show ¬ 8 < (many : Int) + (mp_here u - 48) by omega)]
          have h1 := ti_step h (by omega)
          have ht := ti_tail h1 row many (mp_here u - 48).toNat (by omega)
          rw [show (((mp_here u - 48).toNat : Nat) : Int) = mp_here u - 48 by omega] at ht
          obtain ⟨t1, t2, t3⟩ := ht
          by_cases hl : ld_let (mp_here (mp_st u))
          · rw [if_neg (show ¬ ¬ ld_let (mp_here (mp_st u)) from fun q => q hl)]
            by_cases hc : mp_here (mp_st u) ≠ 46 ∧ sp_told (mp_st u 59 0) (mp_here (mp_st u) - 97) = false
            · have := t2 hl hc
              rw [if_pos (show mp_here (mp_st u) ≠ 46 ∧ sp_told (u 59 0) (mp_here (mp_st u) - 97) = false from hc)]
              rw [ti_dead (ti_f this)]
              exact this
            · obtain ⟨y1, y2⟩ := t3 hl hc
              rw [if_neg (show ¬ (mp_here (mp_st u) ≠ 46 ∧ sp_told (u 59 0) (mp_here (mp_st u) - 97) = false) from hc), y1]
              rw [show (many : Int) + (mp_here u - 48) = ((many + (mp_here u - 48).toNat : Nat) : Int) by omega]
              exact ti_row row n _ y2 (by omega) (by omega)
          · have := t1 hl
            rw [if_pos hl]
            rw [ti_dead (ti_f this)]
            exact this
      · have hl : ld_let (mp_here u) := hs.resolve_left hr
        have hl' : mp_here u = 46 ∨ 97 ≤ mp_here u ∧ mp_here u ≤ 108 := hl
        have et : ld_times u = 1 := if_neg hr
        have e1 : ld_t1 u = u := if_neg hr
        rw [et, e1]
        have ef : gd_fields t row many = gd_tail t row many 1 := by
          unfold gd_fields
          rw [e, if_neg (by omega)]
        rw [ef]
        have hp := el.mpr hl
        by_cases hb : 8 < many + 1
        · have eg : gd_tail t row many 1 = (tp_fail t 6 (t 3 3), 0) := by
            unfold gd_tail
            rw [e, if_neg (by omega), if_pos (by omega)]
          rw [if_pos (show (ld_run (mp_here u) ∨ ld_let (mp_here u)) ∧ 8 < many + 1 from ⟨hs, hb⟩), eg]
          have := ti_fail h (n := 6) (by decide) rfl
          rw [ti_dead (ti_f this)]
          exact this
        · rw [if_neg (show ¬ ((ld_run (mp_here u) ∨ ld_let (mp_here u)) ∧ 8 < many + 1) from fun q => hb q.2), if_neg (show ¬ ¬ ld_let (mp_here u) from fun q => q hl)]
          obtain ⟨t1, t2, t3⟩ := ti_tail h row many 1 (by omega)
          by_cases hc : mp_here u ≠ 46 ∧ sp_told (u 59 0) (mp_here u - 97) = false
          · have := t2 hl hc
            rw [if_pos hc]
            rw [show ((1 : Nat) : Int) = 1 from rfl] at this
            rw [ti_dead (ti_f this)]
            exact this
          · obtain ⟨y1, y2⟩ := t3 hl hc
            rw [show ((1 : Nat) : Int) = 1 from rfl] at y1 y2
            rw [if_neg hc, y1]
            rw [show (many : Int) + 1 = ((many + 1 : Nat) : Int) by omega]
            exact ti_row row n _ y2 (by omega) (by omega)
    · have hr : ¬ ld_run (mp_here u) := fun q => hs (.inl q)
      have hl : ¬ ld_let (mp_here u) := fun q => hs (.inr q)
      rw [if_neg (show ¬ ((49 ≤ mp_here u ∧ mp_here u ≤ 56) ∨ 0 ≤ gd_col (mp_here u)) from fun q => q.elim hr (fun q => hl (el.mp q)))]
      unfold gd_rowE
      by_cases h88 : many = 8
      · rw [if_pos (show many = 8 ∧ ¬ ld_run (mp_here u) ∧ ¬ ld_let (mp_here u) from ⟨h88, hr, hl⟩), if_neg (show ¬ (many : Int) < 8 by omega)]
        exact ti_ok h
      · have e1 : ld_t1 u = u := if_neg hr
        rw [if_neg (show ¬ (many = 8 ∧ ¬ ld_run (mp_here u) ∧ ¬ ld_let (mp_here u)) from fun q => h88 q.1), if_neg (show ¬ ((ld_run (mp_here u) ∨ ld_let (mp_here u)) ∧ 8 < many + ld_times u) from fun q => hs q.1), e1, if_pos hl, if_pos (show (many : Int) < 8 by omega)]
        exact ti_fail h (n := 1) (by decide) rfl
theorem ti_rowsF (n row : Nat) (p : Bool × hy_T) (h : p.1 ≠ true) : ld_rowsN n row p = p := by
  cases n with
  | zero => rfl
  | succ n => simp only [ld_rowsN]; rw [if_neg h]
theorem ti_rows (t : hy_T) (n : Int) : ∀ (m row : Nat) {p : Bool × hy_T}, 1 ≤ row → row + m = 8 → ti_R (gd_rowsN t n row) p → ti_R (gd_rowsN t n 8) (ld_rowsN m row p)
  | 0, row, p, h1, h8, h => by
    obtain rfl : row = 8 := by omega
    exact h
  | m + 1, row, p, h1, h8, h => by
    have es : gd_rowsN t n (row + 1) = gd_row (tp_take (gd_rowsN t n row) 47) row := by
      show gd_row (gd_sep (gd_rowsN t n row) row) row = _
      unfold gd_sep
      rw [if_pos (by omega)]
    by_cases hp : p.1 = true
    · have hS : ti_S (gd_rowsN t n row) p.2 := by
        unfold ti_R at h
        rw [if_pos hp] at h
        exact h
      have e := ti_next hS
      simp only [ld_rowsN]
      rw [if_pos hp]
      refine ti_rows t n m (row + 1) (by omega) (by omega) ?_
      rw [es]
      unfold mp_take tp_take
      rw [e]
      by_cases h47 : mp_here p.2 = 47
      · rw [if_pos h47, if_pos h47, if_pos rfl]
        exact ti_row row 9 0 (ti_step hS (by omega)) (by decide) (by decide)
      · rw [if_neg h47, if_neg h47, if_neg (show ¬ ((false : Bool) = true) from Bool.false_ne_true)]
        have := ti_fail hS (n := 1) (by decide) rfl
        unfold gd_row
        rw [ti_dead (ti_f this)]
        exact this
    · have hD := h
      unfold ti_R at hD
      rw [if_neg hp] at hD
      have ed : gd_rowsN t n (row + 1) = gd_rowsN t n row := by
        rw [es]
        have e : tp_next (gd_rowsN t n row) = -1 := if_neg (fun q => hD.1.1 q.1)
        unfold tp_take
        rw [e, if_neg (by decide), ti_deadF hD.1.1]
        exact ti_dead hD.1.1 _ _ _
      rw [ti_rowsF _ _ _ hp, ← ti_rowsF m (row + 1) p hp]
      exact ti_rows t n m (row + 1) (by omega) (by omega) (by rw [ed]; exact h)
theorem ti_end {t : hy_T} {p : Bool × hy_T} (h : ti_R t p) : ti_R (tp_finish t) (ld_end p) := by
  by_cases hp : p.1 = true
  · have hS : ti_S t p.2 := by
      unfold ti_R at h
      rw [if_pos hp] at h
      exact h
    have e1 := hS.1.1.2.1
    have e2 := hS.1.1.2.2
    unfold tp_finish ld_end
    by_cases hq : t 3 3 < t 3 2
    · rw [if_pos hq, if_pos ⟨hp, by omega⟩]
      exact ti_fail hS (by decide) rfl
    · rw [if_neg hq, if_neg (fun q => hq (by omega))]
      exact h
  · have hD := h
    unfold ti_R at hD
    rw [if_neg hp] at hD
    have e : tp_finish t = t := by
      unfold tp_finish
      split
      · exact ti_deadF hD.1.1 _ _
      · rfl
    rw [e, show ld_end p = p from if_neg (fun q => hp q.1)]
    exact h
theorem ti_cnt {t u : hy_T} (h : ∀ j : Nat, j < 64 → t 9 j = u 96 j) : ∀ n : Nat, n ≤ 64 → sp_paintedN t n = ld_cntN u n
  | 0, _ => rfl
  | n + 1, hn => by
    simp only [sp_paintedN, ld_cntN]
    rw [ti_cnt h n (by omega), h n (by omega)]
    split <;> omega
def p7_B (t u : hy_T) : Prop := (t 3 1 = u 59 9 ∧ t 5 2 = u 59 0) ∧ (∀ j : Nat, j < 260 → t 4 j = hz_iand (u 65 j) 255) ∧ ∀ j : Nat, j < 64 → t 10 j = u 96 j
theorem ti_land {t u : hy_T} (h : p7_B t u) (hl : t 3 1 ≤ 260) (n : Int) (hn : 1 ≤ n ∧ n ≤ 160 ∧ n ≤ t 3 1) : ti_R (tp_finish (gd_rowsN t n 8)) (ld_end (ld_rowsN 7 1 (ld_row (ld_t0 u n) 0))) := by
  obtain ⟨⟨h1, h2⟩, h3, h4⟩ := h
  refine ti_end (ti_rows t n 7 1 (by decide) (by decide) ?_)
  show ti_R (gd_row (gd_sep (tp_start t n) 0) 0) _
  rw [show gd_sep (tp_start t n) 0 = tp_start t n from if_neg (by decide)]
  have e32 : tp_start t n 3 2 = n := by
    show (if t 3 1 < n then t 3 1 else n) = n
    rw [if_neg (by omega)]
  exact ti_row 0 9 0 ⟨⟨⟨rfl, rfl, e32⟩, ⟨Int.le_refl 0, by rw [e32]; omega⟩, h2⟩, h3, h4⟩ (by decide) (by decide)
theorem ti_all {t u : hy_T} (h : p7_B t u) (hl : t 3 1 ≤ 260) (n : Int) (hn : 1 ≤ n ∧ n ≤ 160 ∧ n ≤ t 3 1) : (wf_land t n).1 = (if (ld_read u n).1 = true then ld_cntN (ld_read u n).2 64 else (ld_read u n).2 59 12) ∧ ∀ j : Nat, j < 64 → (wf_land t n).2 10 j = (if (ld_read u n).1 = true then ld_cpN (ld_read u n).2 64 else (ld_read u n).2) 96 j := by
  have hR := ti_land h hl n hn
  unfold wf_land gd_read ld_read
  rw [if_pos hn]
  revert hR
  generalize tp_finish (gd_rowsN t n 8) = T
  generalize ld_end (ld_rowsN 7 1 (ld_row (ld_t0 u n) 0)) = p
  intro hR
  unfold ti_R at hR
  dsimp only
  by_cases hp : p.1 = true
  · rw [if_pos hp] at hR
    rw [if_pos hp, if_pos hp, if_pos hR.1.1.1]
    have e34 : hy_cp T 10 9 64 3 4 = 0 := by
      unfold hy_cp
      rw [if_neg (by decide)]
      exact hR.1.1.1
    rw [if_pos e34]
    have e9 : ∀ j : Nat, j < 64 → hy_up (hy_cp T 10 9 64) 3 1 0 9 j = hy_up p.2 59 9 0 96 j := fun j hj => by
      rw [hy_up_ne (by decide), hy_up_ne (by decide)]
      unfold hy_cp
      rw [if_pos ⟨rfl, hj⟩]
      exact hR.2.2 j hj
    refine ⟨ti_cnt e9 64 (by decide), fun j hj => ?_⟩
    show hy_up (hy_cp T 10 9 64) 3 1 0 10 j = _
    rw [ld_cpN_F _ 64 96 j rfl, hy_up_ne (by decide), hy_up_ne (by decide)]
    unfold hy_cp
    rw [if_neg (by omega)]
    exact hR.2.2 j hj
  · rw [if_neg hp] at hR
    rw [if_neg hp, if_neg hp, if_neg hR.1.1, if_neg hR.1.1]
    refine ⟨?_, fun j hj => ?_⟩
    · show T 3 4 = hy_up p.2 59 9 0 59 12
      exact hR.1.2
    · show hy_up T 3 1 0 10 j = hy_up p.2 59 9 0 96 j
      rw [hy_up_ne (by decide), hy_up_ne (by decide)]
      exact hR.2 j hj
abbrev p7_Z : Nat → Nat → Bool := fun r j => (r == 5 && j == 2) || (r == 59 && j == 0) || r == 4 || r == 65 || r == 10 || r == 96
abbrev p7_Y : Nat → Nat → Bool := fun r j => p7_Z r j || p5_Y r j
def p7_rel (t : hy_T) : Prop := p7_B t t
theorem p7_relZ (t t1 : hy_T) (h : p7_rel t) (h5 : p5_rel t1) (hY : ∀ r j, p7_Z r j = true → t1 r j = t r j) : p7_rel t1 := by
  obtain ⟨⟨h1, h2⟩, h3, h4⟩ := h
  refine ⟨⟨h5, by rw [hY 5 2 rfl, hY 59 0 rfl]; exact h2⟩, fun j hj => by rw [hY 4 j rfl, hY 65 j rfl]; exact h3 j hj, fun j hj => by rw [hY 10 j rfl, hY 96 j rfl]; exact h4 j hj⟩
theorem p7_relF (t t1 : hy_T) (h : p7_rel t) (hY : ∀ r j, p7_Y r j = true → t1 r j = t r j) : p7_rel t1 :=
  p7_relZ t t1 h (p5_relF t t1 h.1.1 (fun r j q => hY r j (by simp only [p7_Y, q]; simp))) (fun r j q => hY r j (by simp only [p7_Y, q]; simp))
theorem p7_rel0 : p7_rel t0 := ⟨⟨rfl, rfl⟩, fun j hj => (show (0 : Int) = hz_iand 0 255 by decide), fun j hj => (show (0 : Int) = 0 from rfl)⟩
theorem p7_len {XW XM : Nat → Nat → Bool} {t t1 t2 : hy_T} (h : p7_rel t) (F : hy_F XW t t1) (F2 : hy_F XM t1 t2) (a : frees XW p7_Z) (b : frees XM p7_Z) (h5 : p5_rel t2) : p7_rel t2 :=
  p7_relZ t t2 h h5 (fun r j q => (F2 r j (b r j q)).trans (F r j (a r j q)))
theorem p7_feed {t t1 t2 : hy_T} {a b c d e : Int} (k : cK t) (h : p7_rel t) (F : hy_F taX t t1) (F2 : hy_F feX t1 t2) (e2 : t1 = if t 3 1 ≤ 240 then wf_feed t a b c d e else t) (e4 : t2 = if t1 59 9 ≤ 240 then mf_feed t1 a b c d e else t1) : p7_rel t2 := by
  have x := F 59 9 rfl
  have h0 : t 3 1 = t 59 9 := h.1.1
  have hl := k.tp.l
  by_cases hq : t 3 1 ≤ 240
  · rw [if_pos hq] at e2
    rw [if_pos (by omega)] at e4
    have b0 : p30_b t t1 := ⟨by omega, fun j hj => by rw [F 65 j rfl]; exact h.2.1 j hj⟩
    have b1 := p30_20 b0 ⟨hl.1, hq⟩ a b c d e
    rw [← e2, ← e4] at b1
    refine ⟨⟨?_, ?_⟩, fun j hj => ?_, fun j hj => ?_⟩
    · rw [F2 3 1 rfl]
      exact b1.1
    · rw [F2 5 2 rfl, F2 59 0 rfl, F 5 2 rfl, F 59 0 rfl]
      exact h.1.2
    · rw [F2 4 j rfl]
      exact b1.2 j hj
    · rw [F2 10 j rfl, F2 96 j rfl, F 10 j rfl, F 96 j rfl]
      exact h.2.2 j hj
  · rw [if_neg hq] at e2
    rw [if_neg (by omega)] at e4
    rw [e4, e2]
    exact h
theorem p7_col {sc : List Int32} {t : hy_T} {a b c : Int} (h : ci_I p7_rel t) : (hy_Ct sc hm_W_colour 3 [.inr (some 2), .inl a, .inl b, .inl c] t (fun r t1 => ∃ v : Int, r = some v ∧ (t1 = if sp_tellable (t 5 2) a b c = true then sp_tellC t a b c else t))) ∧ ∀ (v : Int) (t1 : hy_T), (t1 = if sp_tellable (t 5 2) a b c = true then sp_tellC t a b c else t) → hy_Ct sc hm_M_colour 2 [.inr (some 59), .inl a, .inl b, .inl c] t1 (fun r t2 => ∃ v2 : Int, r = some v2 ∧ ci_I p7_rel t2) := by
  obtain ⟨k, m, hr⟩ := h
  have e : t 5 2 = t 59 0 := hr.1.2
  refine ⟨c_W_colour.mono (fun r t' q => ⟨_, q.1, q.2⟩), fun v t1 e1 => c_M_colour.mono (fun r t2 q => ?_)⟩
  obtain ⟨rfl, e2⟩ := q
  refine ⟨_, rfl, ?_⟩
  by_cases hq : sp_tellable (t 5 2) a b c = true
  · rw [if_pos hq] at e1
    obtain ⟨k1, F⟩ := cK_tell k hq
    rw [← e1] at k1 F
    have e0 : t1 59 0 = t 5 2 := (F 59 0 rfl).trans e.symm
    have m1 := mK_W F sw0 m
    rw [e0, if_pos hq] at e2
    obtain ⟨m2, F2⟩ := mK_tell m1 (c := a) (f := b) (s := c) (by rw [e0]; exact hq)
    rw [← e2] at m2 F2
    refine ⟨cK_M F2 sm0 k1, m2, ⟨⟨?_, ?_⟩, fun j hj => ?_, fun j hj => ?_⟩⟩
    · rw [F2 3 1 rfl, F2 59 9 rfl, F 3 1 rfl, F 59 9 rfl]
      exact hr.1.1
    · have x1 : t2 59 0 = hz_ior (t1 59 0) (hz_ishl 1 a) := by rw [e2]; rfl
      have x2 : t2 5 2 = t1 5 2 := F2 5 2 rfl
      have x3 : t1 5 2 = hz_ior (t 5 2) (hz_ishl 1 a) := by
        rw [e1]
        unfold sp_tellC
        split
        · rfl
        · rfl
      rw [x1, x2, x3, e0]
    · rw [F2 4 j rfl, F2 65 j rfl, F 4 j rfl, F 65 j rfl]
      exact hr.2.1 j hj
    · rw [F2 10 j rfl, F2 96 j rfl, F 10 j rfl, F 96 j rfl]
      exact hr.2.2 j hj
  · rw [if_neg hq] at e1
    subst e1
    rw [← e, if_neg hq] at e2
    subst e2
    exact ⟨k, m, hr⟩
theorem ti_land_s {t : hy_T} {n : Int} (k : mK t) : (mK (if ld_ntc t n then (if (ld_read t n).1 = true then ld_cpN (ld_read t n).2 64 else (ld_read t n).2) else t) ∧ hy_F ngX t (if ld_ntc t n then (if (ld_read t n).1 = true then ld_cpN (ld_read t n).2 64 else (ld_read t n).2) else t)) ∧ (if ld_ntc t n then (if (ld_read t n).1 = true then ld_cpN (ld_read t n).2 64 else (ld_read t n).2) else t) 59 9 = if ld_ntc t n then 0 else t 59 9 := by
  by_cases hn : ld_ntc t n
  · simp only [if_pos hn]
    obtain ⟨a1, a2⟩ := ld_read_s k.nl (n := n) (by omega)
    have z : (ld_read t n).2 59 9 = 0 := rfl
    have F1 : hy_F ngX t (ld_read t n).2 := a2.w (fun r j q => (Bool.or_eq_false_iff.mp q).1)
    have k1 : mK (ld_read t n).2 := ⟨⟨ml_ok_F F1 (fun r j q => by revert q; simp only [mkAll, mkA, mlawX, mrP, mrT, mrK, mrM, mvX, meX, mlX, mfaX, stX, hvX, pwX, btX, sgX, mlsX, jdX, tdX, dsX, enX, mftX, ldrX, wmX, maX, lwX, lrX, mrX, feX, ngX, Bool.or_eq_true, Bool.and_eq_true, decide_eq_true_eq, decide_eq_false_iff_not, beq_iff_eq, Bool.or_eq_false_iff, Bool.and_eq_false_iff, beq_eq_false_iff_ne]; omega) k.ml, mk_p2 F1 (fun r j q => by revert q; simp only [mkAll, mkA, mlawX, mrP, mrT, mrK, mrM, mvX, meX, mlX, mfaX, stX, hvX, pwX, btX, sgX, mlsX, jdX, tdX, dsX, enX, mftX, ldrX, wmX, maX, lwX, lrX, mrX, feX, ngX, Bool.or_eq_true, Bool.and_eq_true, decide_eq_true_eq, decide_eq_false_iff_not, beq_iff_eq, Bool.or_eq_false_iff, Bool.and_eq_false_iff, beq_eq_false_iff_ne]; omega) k.p2⟩, ⟨mk_mg a2 (fun _ => rfl) k.mg, a1⟩, ⟨mk_tr F1 (fun r j q => by revert q; simp only [mkAll, mkA, mlawX, mrP, mrT, mrK, mrM, mvX, meX, mlX, mfaX, stX, hvX, pwX, btX, sgX, mlsX, jdX, tdX, dsX, enX, mftX, ldrX, wmX, maX, lwX, lrX, mrX, feX, ngX, Bool.or_eq_true, Bool.and_eq_true, decide_eq_true_eq, decide_eq_false_iff_not, beq_iff_eq, Bool.or_eq_false_iff, Bool.and_eq_false_iff, beq_eq_false_iff_ne]; omega) k.tr, mk_kp F1 (fun r j q => by revert q; simp only [mkAll, mkA, mlawX, mrP, mrT, mrK, mrM, mvX, meX, mlX, mfaX, stX, hvX, pwX, btX, sgX, mlsX, jdX, tdX, dsX, enX, mftX, ldrX, wmX, maX, lwX, lrX, mrX, feX, ngX, Bool.or_eq_true, Bool.and_eq_true, decide_eq_true_eq, decide_eq_false_iff_not, beq_iff_eq, Bool.or_eq_false_iff, Bool.and_eq_false_iff, beq_eq_false_iff_ne]; omega) k.kp⟩, mt_0 z⟩
    revert a1 a2 z F1 k1
    generalize (ld_read t n).2 = u
    intro a1 a2 z F1 k1
    refine ⟨?_, ?_⟩
    · split
      · have F2 := ld_cpN_F u 64
        have F3 : hy_F ngX t (ld_cpN u 64) := F1.tr' (F2.w (fun r j q => (Bool.or_eq_false_iff.mp q).2))
        exact ⟨⟨⟨ml_ok_F F2 (fun r j q => by revert q; simp only [mkAll, mkA, mlawX, mrP, mrT, mrK, mrM, mvX, meX, mlX, mfaX, stX, hvX, pwX, btX, sgX, mlsX, jdX, tdX, dsX, enX, mftX, ldrX, wmX, maX, lwX, lrX, mrX, feX, ngX, Bool.or_eq_true, Bool.and_eq_true, decide_eq_true_eq, decide_eq_false_iff_not, beq_iff_eq, Bool.or_eq_false_iff, Bool.and_eq_false_iff, beq_eq_false_iff_ne]; omega) k1.ml, mk_p2 F2 (fun r j q => by revert q; simp only [mkAll, mkA, mlawX, mrP, mrT, mrK, mrM, mvX, meX, mlX, mfaX, stX, hvX, pwX, btX, sgX, mlsX, jdX, tdX, dsX, enX, mftX, ldrX, wmX, maX, lwX, lrX, mrX, feX, ngX, Bool.or_eq_true, Bool.and_eq_true, decide_eq_true_eq, decide_eq_false_iff_not, beq_iff_eq, Bool.or_eq_false_iff, Bool.and_eq_false_iff, beq_eq_false_iff_ne]; omega) k1.p2⟩, ⟨fun f hf => by rw [ld_cpN_v u 64 f, if_pos hf]; exact a1 f hf, mk_nl F2 (fun _ => rfl) k1.nl⟩, ⟨mk_tr F2 (fun r j q => by revert q; simp only [mkAll, mkA, mlawX, mrP, mrT, mrK, mrM, mvX, meX, mlX, mfaX, stX, hvX, pwX, btX, sgX, mlsX, jdX, tdX, dsX, enX, mftX, ldrX, wmX, maX, lwX, lrX, mrX, feX, ngX, Bool.or_eq_true, Bool.and_eq_true, decide_eq_true_eq, decide_eq_false_iff_not, beq_iff_eq, Bool.or_eq_false_iff, Bool.and_eq_false_iff, beq_eq_false_iff_ne]; omega) k1.tr, mk_kp F2 (fun r j q => by revert q; simp only [mkAll, mkA, mlawX, mrP, mrT, mrK, mrM, mvX, meX, mlX, mfaX, stX, hvX, pwX, btX, sgX, mlsX, jdX, tdX, dsX, enX, mftX, ldrX, wmX, maX, lwX, lrX, mrX, feX, ngX, Bool.or_eq_true, Bool.and_eq_true, decide_eq_true_eq, decide_eq_false_iff_not, beq_iff_eq, Bool.or_eq_false_iff, Bool.and_eq_false_iff, beq_eq_false_iff_ne]; omega) k1.kp⟩, mk_mt F2 rfl k1.mt⟩, F3⟩
      · exact ⟨k1, F1⟩
    · split
      · exact (ld_cpN_F u 64 59 9 rfl).trans z
      · exact z
  · simp only [if_neg hn]
    exact ⟨⟨k, hy_F.rf⟩, trivial⟩
theorem m5e {sc : List Int32} {t : hy_T} {n : Int} (k : mK t) : hy_Ct sc hm_M_land 3 [.inr (some 59), .inl n] t (fun r t' => mQ ngX t r t' ∧ (t' 59 9 = if ld_ntc t n then 0 else t 59 9) ∧ r = some (if ld_ntc t n then (if (ld_read t n).1 = true then ld_cntN (ld_read t n).2 64 else (ld_read t n).2 59 12) else -1) ∧ t' = if ld_ntc t n then (if (ld_read t n).1 = true then ld_cpN (ld_read t n).2 64 else (ld_read t n).2) else t) := (c_M_land k.nl).mono (fun r t' q => by
  obtain ⟨e1, e2⟩ := q
  obtain ⟨⟨k1, F⟩, z⟩ := ti_land_s (n := n) k
  rw [← e2] at k1 F z
  exact ⟨⟨⟨_, e1⟩, k1, F⟩, z, e1, e2⟩)
theorem p7_land {t t1 t2 : hy_T} {n : Int} {r1 r2 : Option Int} (k : cK t) (h : p7_rel t) (F : hy_F glX t t1) (F2 : hy_F ngX t1 t2) (q1 : r1 = some (wf_land t n).1 ∧ t1 = (wf_land t n).2) (q2 : (t2 59 9 = if ld_ntc t1 n then 0 else t1 59 9) ∧ r2 = some (if ld_ntc t1 n then (if (ld_read t1 n).1 = true then ld_cntN (ld_read t1 n).2 64 else (ld_read t1 n).2 59 12) else -1) ∧ t2 = if ld_ntc t1 n then (if (ld_read t1 n).1 = true then ld_cpN (ld_read t1 n).2 64 else (ld_read t1 n).2) else t1) : r2 = r1 ∧ p7_rel t2 := by
  have h5 := p5_land k h.1.1 F F2 q1.2 q2.1
  have x : t1 59 9 = t 59 9 := F 59 9 rfl
  have h0 : t 3 1 = t 59 9 := h.1.1
  have hB : p7_B t t1 := ⟨⟨by rw [x]; exact h0, by rw [F 59 0 rfl]; exact h.1.2⟩, fun j hj => by rw [F 65 j rfl]; exact h.2.1 j hj, fun j hj => by rw [F 96 j rfl]; exact h.2.2 j hj⟩
  have fin : (∀ j : Nat, j < 64 → t2 10 j = t2 96 j) → p7_rel t2 := fun hj10 => by
    refine ⟨⟨h5, ?_⟩, fun j hj => ?_, hj10⟩
    · rw [F2 5 2 rfl, F2 59 0 rfl, F 5 2 rfl, F 59 0 rfl]
      exact h.1.2
    · rw [F2 4 j rfl, F2 65 j rfl, F 4 j rfl, F 65 j rfl]
      exact h.2.1 j hj
  by_cases hn : 1 ≤ n ∧ n ≤ 160 ∧ n ≤ t 3 1
  · obtain ⟨e1, e2⟩ := ti_all hB k.tp.l.2 n hn
    have hc : ld_ntc t1 n := ⟨⟨hn.1, hn.2.1⟩, by omega⟩
    obtain ⟨-, q3, q4⟩ := q2
    rw [if_pos hc] at q3 q4
    refine ⟨by rw [q3, q1.1, e1], fin (fun j hj => ?_)⟩
    have y : t2 10 j = t1 10 j := F2 10 j rfl
    rw [y, q4, q1.2]
    rw [q1.2] at e2
    exact e2 j hj
  · have hc : ¬ ld_ntc t1 n := fun q => hn ⟨q.1.1, q.1.2, by have := q.2; omega⟩
    have e1 : wf_land t n = (-1, t) := if_neg hn
    obtain ⟨-, q3, q4⟩ := q2
    rw [if_neg hc] at q3 q4
    rw [e1] at q1
    refine ⟨by rw [q3, q1.1], fin (fun j hj => ?_)⟩
    rw [q4, q1.2]
    exact h.2.2 j hj

theorem p7_0 : ci_I p7_rel t0 := ⟨cK_0, mK_0, p7_rel0⟩
set_option maxHeartbeats 1000000 in
theorem law_p7 {sc : List Int32} (hl : sc.length ≤ 3584) : hy_W sc hm_law 300 10 [.inr (some 0), .inr (some 2), .inr (some 59), .inl 0] [] t0 (fun r _ => r = some 1) := by
  have main : ∀ (n i : Nat) (t : hy_T), sc.length ≤ n + i → i ≤ 90000 → ci_I p7_rel t → hy_W sc hm_law 300 10 [.inr (some 0), .inr (some 2), .inr (some 59), .inl (i : Int)] [] t (fun r _ => r = some 1) := by
    intro n
    induction n with
    | zero =>
      intro i t hn hi h
      exact law_head i ⟨by omega, hi⟩ (fun _ => law_end rfl) (fun h7 => by omega)
    | succ n ih =>
      intro i t hn hi0 h
      refine law_head i ⟨by omega, hi0⟩ (fun _ => law_end rfl) (fun h7 => ?_)
      have hi : i + 7 ≤ sc.length ∧ sc.length ≤ 90000 := ⟨h7, by omega⟩
      have fin : ∀ t2 : hy_T, ci_I p7_rel t2 → hy_W sc hm_law 300 982 [.inr (some 0), .inr (some 2), .inr (some 59), .inl (i : Int)] [] t2 (fun r _ => r = some 1) := fun t2 h2 =>
        law_next i hi0 (ih (i + 7) t2 (by omega) (by omega) h2)
      refine law_sw i hi (fun x tt hx htt => ?_)
      have hxr : 0 ≤ x ∧ x ≤ 31 := by rw [hx]; exact hz_iand_le (by decide)
      clear hx
      have cs : x = 0 ∨ x = 1 ∨ x = 2 ∨ x = 3 ∨ x = 4 ∨ x = 5 ∨ x = 6 ∨ x = 7 ∨ x = 8 ∨ x = 9 ∨ x = 10 ∨ x = 11 ∨ x = 12 ∨ x = 13 ∨ x = 14 ∨ x = 15 ∨ x = 16 ∨ x = 17 ∨ x = 18 ∨ x = 19 ∨ x = 20 ∨ x = 21 ∨ x = 22 ∨ x = 23 ∨ x = 24 ∨ x = 25 ∨ x = 26 ∨ x = 27 ∨ x = 28 ∨ x = 29 ∨ 29 < x := by omega
      rcases cs with rfl | rfl | rfl | rfl | rfl | rfl | rfl | rfl | rfl | rfl | rfl | rfl | rfl | rfl | rfl | rfl | rfl | rfl | rfl | rfl | rfl | rfl | rfl | rfl | rfl | rfl | rfl | rfl | rfl | rfl | hb
      · obtain rfl : tt = 22 := by simpa using htt.symm
        obtain ⟨a, b⟩ := p7_col (sc := sc) (a := sv sc (i + 1)) (b := sv sc (i + 2)) (c := sv sc (i + 3)) h
        exact law_c0 (by decide) (by decide) hi a b fin
      · obtain rfl : tt = 59 := by simpa using htt.symm
        obtain ⟨a, b⟩ := pop p7_relF h (k1 (sc := sc) (a := sv sc (i + 1)) (b := sv sc (i + 2)) (c := sv sc (i + 3)) h.1) (fun t1 K => (m1 (sc := sc) (a := sv sc (i + 1)) (b := sv sc (i + 2)) (c := sv sc (i + 3)) K)) sw1 sm1 (fun r j q => by revert q; simp only [p7_Y, lawX, eX, lX, pX, fX, snX, brX, wyX, paX, trX, asX, gdX, lnX, lkX, lpX, lwcX, tyX, jyX, mkX, dzX, cpX, taX, glX, t1X, spX, dgX, kpX, mlawX, mvX, meX, mlX, mfaX, stX, hvX, pwX, btX, sgX, mlsX, jdX, tdX, dsX, enX, mftX, ldrX, wmX, maX, lwX, lrX, mrX, feX, ngX, trsX, dysX, gnX, t9X, spmX, kpmX, udX, Bool.or_eq_true, Bool.and_eq_true, decide_eq_true_eq, decide_eq_false_iff_not, beq_iff_eq, Bool.or_eq_false_iff, Bool.and_eq_false_iff, beq_eq_false_iff_ne]; omega) (fun r j q => by revert q; simp only [p7_Y, lawX, eX, lX, pX, fX, snX, brX, wyX, paX, trX, asX, gdX, lnX, lkX, lpX, lwcX, tyX, jyX, mkX, dzX, cpX, taX, glX, t1X, spX, dgX, kpX, mlawX, mvX, meX, mlX, mfaX, stX, hvX, pwX, btX, sgX, mlsX, jdX, tdX, dsX, enX, mftX, ldrX, wmX, maX, lwX, lrX, mrX, feX, ngX, trsX, dysX, gnX, t9X, spmX, kpmX, udX, Bool.or_eq_true, Bool.and_eq_true, decide_eq_true_eq, decide_eq_false_iff_not, beq_iff_eq, Bool.or_eq_false_iff, Bool.and_eq_false_iff, beq_eq_false_iff_ne]; omega)
        exact law_c1 (by decide) (by decide) hi a b fin
      · obtain rfl : tt = 96 := by simpa using htt.symm
        obtain ⟨a, b⟩ := pop p7_relF h (k2 (sc := sc) (a := sv sc (i + 1)) (b := sv sc (i + 2)) (c := sv sc (i + 3)) h.1) (fun t1 K => (m2 (sc := sc) (a := sv sc (i + 1)) (b := sv sc (i + 2)) (c := sv sc (i + 3)) K)) sw2 sm2 (fun r j q => by revert q; simp only [p7_Y, lawX, eX, lX, pX, fX, snX, brX, wyX, paX, trX, asX, gdX, lnX, lkX, lpX, lwcX, tyX, jyX, mkX, dzX, cpX, taX, glX, t1X, spX, dgX, kpX, mlawX, mvX, meX, mlX, mfaX, stX, hvX, pwX, btX, sgX, mlsX, jdX, tdX, dsX, enX, mftX, ldrX, wmX, maX, lwX, lrX, mrX, feX, ngX, trsX, dysX, gnX, t9X, spmX, kpmX, udX, Bool.or_eq_true, Bool.and_eq_true, decide_eq_true_eq, decide_eq_false_iff_not, beq_iff_eq, Bool.or_eq_false_iff, Bool.and_eq_false_iff, beq_eq_false_iff_ne]; omega) (fun r j q => by revert q; simp only [p7_Y, lawX, eX, lX, pX, fX, snX, brX, wyX, paX, trX, asX, gdX, lnX, lkX, lpX, lwcX, tyX, jyX, mkX, dzX, cpX, taX, glX, t1X, spX, dgX, kpX, mlawX, mvX, meX, mlX, mfaX, stX, hvX, pwX, btX, sgX, mlsX, jdX, tdX, dsX, enX, mftX, ldrX, wmX, maX, lwX, lrX, mrX, feX, ngX, trsX, dysX, gnX, t9X, spmX, kpmX, udX, Bool.or_eq_true, Bool.and_eq_true, decide_eq_true_eq, decide_eq_false_iff_not, beq_iff_eq, Bool.or_eq_false_iff, Bool.and_eq_false_iff, beq_eq_false_iff_ne]; omega)
        exact law_c2 (by decide) (by decide) hi a b fin
      · obtain rfl : tt = 133 := by simpa using htt.symm
        obtain ⟨a, b⟩ := two h (k3 (sc := sc) (a := sv sc (i + 1)) (b := sv sc (i + 2)) (c := sv sc (i + 3)) (d := sv sc (i + 4)) (e := sv sc (i + 5)) h.1) (fun t1 K => m3 (sc := sc) (a := sv sc (i + 1)) (b := sv sc (i + 2)) (c := sv sc (i + 3)) (d := sv sc (i + 4)) (e := sv sc (i + 5)) K) sw3 sm3 (fun r1 t1 r2 t2 F _ F2 q1 q2 => p7_feed h.1 h.2.2 F F2 q1 q2)
        exact law_c3 (by decide) (by decide) hi a b fin
      · obtain rfl : tt = 190 := by simpa using htt.symm
        obtain ⟨a, b⟩ := two h (k4 (sc := sc) (n := sv sc (i + 1)) h.1) (fun t1 K => m4 (sc := sc) (n := sv sc (i + 1)) K) sw4 sm4 (fun r1 t1 r2 t2 F _ F2 q1 q2 => p7_len h.2.2 F F2 (fun r j q => by revert q; simp only [p7_Z, lawX, eX, lX, pX, fX, snX, brX, wyX, paX, trX, asX, gdX, lnX, lkX, lpX, lwcX, tyX, jyX, mkX, dzX, cpX, taX, glX, t1X, spX, dgX, kpX, mlawX, mvX, meX, mlX, mfaX, stX, hvX, pwX, btX, sgX, mlsX, jdX, tdX, dsX, enX, mftX, ldrX, wmX, maX, lwX, lrX, mrX, feX, ngX, trsX, dysX, gnX, t9X, spmX, kpmX, udX, Bool.or_eq_true, Bool.and_eq_true, decide_eq_true_eq, decide_eq_false_iff_not, beq_iff_eq, Bool.or_eq_false_iff, Bool.and_eq_false_iff, beq_eq_false_iff_ne]; omega) (fun r j q => by revert q; simp only [p7_Z, lawX, eX, lX, pX, fX, snX, brX, wyX, paX, trX, asX, gdX, lnX, lkX, lpX, lwcX, tyX, jyX, mkX, dzX, cpX, taX, glX, t1X, spX, dgX, kpX, mlawX, mvX, meX, mlX, mfaX, stX, hvX, pwX, btX, sgX, mlsX, jdX, tdX, dsX, enX, mftX, ldrX, wmX, maX, lwX, lrX, mrX, feX, ngX, trsX, dysX, gnX, t9X, spmX, kpmX, udX, Bool.or_eq_true, Bool.and_eq_true, decide_eq_true_eq, decide_eq_false_iff_not, beq_iff_eq, Bool.or_eq_false_iff, Bool.and_eq_false_iff, beq_eq_false_iff_ne]; omega) (p5_law h.2.2.1.1 F F2 q1.2 q2))
        exact law_c4 (by decide) (by decide) hi a b fin
      · obtain rfl : tt = 207 := by simpa using htt.symm
        obtain ⟨a, b⟩ := twoE h (k5 (sc := sc) (n := sv sc (i + 1)) h.1) (fun t1 K => m5e (sc := sc) (n := sv sc (i + 1)) K) sw5 sm5 (fun r1 t1 r2 t2 F _ F2 q1 q2 => p7_land h.1 h.2.2 F F2 q1 q2)
        exact law_c5 (by decide) (by decide) hi a b fin
      · obtain rfl : tt = 224 := by simpa using htt.symm
        obtain ⟨a, b⟩ := two h (k6 (sc := sc) (n := sv sc (i + 1)) h.1) (fun t1 K => m6 (sc := sc) (n := sv sc (i + 1)) K) sw6 sm6 (fun r1 t1 r2 t2 F _ F2 q1 q2 => p7_len h.2.2 F F2 (fun r j q => by revert q; simp only [p7_Z, lawX, eX, lX, pX, fX, snX, brX, wyX, paX, trX, asX, gdX, lnX, lkX, lpX, lwcX, tyX, jyX, mkX, dzX, cpX, taX, glX, t1X, spX, dgX, kpX, mlawX, mvX, meX, mlX, mfaX, stX, hvX, pwX, btX, sgX, mlsX, jdX, tdX, dsX, enX, mftX, ldrX, wmX, maX, lwX, lrX, mrX, feX, ngX, trsX, dysX, gnX, t9X, spmX, kpmX, udX, Bool.or_eq_true, Bool.and_eq_true, decide_eq_true_eq, decide_eq_false_iff_not, beq_iff_eq, Bool.or_eq_false_iff, Bool.and_eq_false_iff, beq_eq_false_iff_ne]; omega) (fun r j q => by revert q; simp only [p7_Z, lawX, eX, lX, pX, fX, snX, brX, wyX, paX, trX, asX, gdX, lnX, lkX, lpX, lwcX, tyX, jyX, mkX, dzX, cpX, taX, glX, t1X, spX, dgX, kpX, mlawX, mvX, meX, mlX, mfaX, stX, hvX, pwX, btX, sgX, mlsX, jdX, tdX, dsX, enX, mftX, ldrX, wmX, maX, lwX, lrX, mrX, feX, ngX, trsX, dysX, gnX, t9X, spmX, kpmX, udX, Bool.or_eq_true, Bool.and_eq_true, decide_eq_true_eq, decide_eq_false_iff_not, beq_iff_eq, Bool.or_eq_false_iff, Bool.and_eq_false_iff, beq_eq_false_iff_ne]; omega) (p5_lines h.2.2.1.1 F F2 rfl rfl q1 q2))
        exact law_c6 (by decide) (by decide) hi a b fin
      · obtain rfl : tt = 241 := by simpa using htt.symm
        obtain ⟨a, b⟩ := two h (k7 (sc := sc) (n := sv sc (i + 1)) h.1) (fun t1 K => m7 (sc := sc) (n := sv sc (i + 1)) K) sw7 sm7 (fun r1 t1 r2 t2 F _ F2 q1 q2 => p7_len h.2.2 F F2 (fun r j q => by revert q; simp only [p7_Z, lawX, eX, lX, pX, fX, snX, brX, wyX, paX, trX, asX, gdX, lnX, lkX, lpX, lwcX, tyX, jyX, mkX, dzX, cpX, taX, glX, t1X, spX, dgX, kpX, mlawX, mvX, meX, mlX, mfaX, stX, hvX, pwX, btX, sgX, mlsX, jdX, tdX, dsX, enX, mftX, ldrX, wmX, maX, lwX, lrX, mrX, feX, ngX, trsX, dysX, gnX, t9X, spmX, kpmX, udX, Bool.or_eq_true, Bool.and_eq_true, decide_eq_true_eq, decide_eq_false_iff_not, beq_iff_eq, Bool.or_eq_false_iff, Bool.and_eq_false_iff, beq_eq_false_iff_ne]; omega) (fun r j q => by revert q; simp only [p7_Z, lawX, eX, lX, pX, fX, snX, brX, wyX, paX, trX, asX, gdX, lnX, lkX, lpX, lwcX, tyX, jyX, mkX, dzX, cpX, taX, glX, t1X, spX, dgX, kpX, mlawX, mvX, meX, mlX, mfaX, stX, hvX, pwX, btX, sgX, mlsX, jdX, tdX, dsX, enX, mftX, ldrX, wmX, maX, lwX, lrX, mrX, feX, ngX, trsX, dysX, gnX, t9X, spmX, kpmX, udX, Bool.or_eq_true, Bool.and_eq_true, decide_eq_true_eq, decide_eq_false_iff_not, beq_iff_eq, Bool.or_eq_false_iff, Bool.and_eq_false_iff, beq_eq_false_iff_ne]; omega) (p5_lines h.2.2.1.1 F F2 rfl rfl q1 q2))
        exact law_c7 (by decide) (by decide) hi a b fin
      · obtain rfl : tt = 258 := by simpa using htt.symm
        obtain ⟨a, b⟩ := pop p7_relF h (k8 (sc := sc) (n := sv sc (i + 1)) h.1) (fun t1 K => (m8 (sc := sc) (n := sv sc (i + 1)) K)) sw8 sm8 (fun r j q => by revert q; simp only [p7_Y, lawX, eX, lX, pX, fX, snX, brX, wyX, paX, trX, asX, gdX, lnX, lkX, lpX, lwcX, tyX, jyX, mkX, dzX, cpX, taX, glX, t1X, spX, dgX, kpX, mlawX, mvX, meX, mlX, mfaX, stX, hvX, pwX, btX, sgX, mlsX, jdX, tdX, dsX, enX, mftX, ldrX, wmX, maX, lwX, lrX, mrX, feX, ngX, trsX, dysX, gnX, t9X, spmX, kpmX, udX, Bool.or_eq_true, Bool.and_eq_true, decide_eq_true_eq, decide_eq_false_iff_not, beq_iff_eq, Bool.or_eq_false_iff, Bool.and_eq_false_iff, beq_eq_false_iff_ne]; omega) (fun r j q => by revert q; simp only [p7_Y, lawX, eX, lX, pX, fX, snX, brX, wyX, paX, trX, asX, gdX, lnX, lkX, lpX, lwcX, tyX, jyX, mkX, dzX, cpX, taX, glX, t1X, spX, dgX, kpX, mlawX, mvX, meX, mlX, mfaX, stX, hvX, pwX, btX, sgX, mlsX, jdX, tdX, dsX, enX, mftX, ldrX, wmX, maX, lwX, lrX, mrX, feX, ngX, trsX, dysX, gnX, t9X, spmX, kpmX, udX, Bool.or_eq_true, Bool.and_eq_true, decide_eq_true_eq, decide_eq_false_iff_not, beq_iff_eq, Bool.or_eq_false_iff, Bool.and_eq_false_iff, beq_eq_false_iff_ne]; omega)
        exact law_c8 (by decide) (by decide) hi a b fin
      · obtain rfl : tt = 275 := by simpa using htt.symm
        obtain ⟨a, b⟩ := pop p7_relF h (k9 (sc := sc) (n := sv sc (i + 1)) (w := sv sc (i + 2)) h.1) (fun t1 K => (m9 (sc := sc) (n := sv sc (i + 1)) (w := sv sc (i + 2)) K)) sw9 sm9 (fun r j q => by revert q; simp only [p7_Y, lawX, eX, lX, pX, fX, snX, brX, wyX, paX, trX, asX, gdX, lnX, lkX, lpX, lwcX, tyX, jyX, mkX, dzX, cpX, taX, glX, t1X, spX, dgX, kpX, mlawX, mvX, meX, mlX, mfaX, stX, hvX, pwX, btX, sgX, mlsX, jdX, tdX, dsX, enX, mftX, ldrX, wmX, maX, lwX, lrX, mrX, feX, ngX, trsX, dysX, gnX, t9X, spmX, kpmX, udX, Bool.or_eq_true, Bool.and_eq_true, decide_eq_true_eq, decide_eq_false_iff_not, beq_iff_eq, Bool.or_eq_false_iff, Bool.and_eq_false_iff, beq_eq_false_iff_ne]; omega) (fun r j q => by revert q; simp only [p7_Y, lawX, eX, lX, pX, fX, snX, brX, wyX, paX, trX, asX, gdX, lnX, lkX, lpX, lwcX, tyX, jyX, mkX, dzX, cpX, taX, glX, t1X, spX, dgX, kpX, mlawX, mvX, meX, mlX, mfaX, stX, hvX, pwX, btX, sgX, mlsX, jdX, tdX, dsX, enX, mftX, ldrX, wmX, maX, lwX, lrX, mrX, feX, ngX, trsX, dysX, gnX, t9X, spmX, kpmX, udX, Bool.or_eq_true, Bool.and_eq_true, decide_eq_true_eq, decide_eq_false_iff_not, beq_iff_eq, Bool.or_eq_false_iff, Bool.and_eq_false_iff, beq_eq_false_iff_ne]; omega)
        exact law_c9 (by decide) (by decide) hi a b fin
      · obtain rfl : tt = 302 := by simpa using htt.symm
        obtain ⟨a, b⟩ := pop p7_relF h (k10 (sc := sc) (n := sv sc (i + 1)) (w := sv sc (i + 2)) h.1) (fun t1 K => (m10 (sc := sc) (n := sv sc (i + 1)) (w := sv sc (i + 2)) K)) sw10 sm10 (fun _ _ _ => rfl) (fun _ _ _ => rfl)
        exact law_c10 (by decide) (by decide) hi a b fin
      · obtain rfl : tt = 329 := by simpa using htt.symm
        obtain ⟨a, b⟩ := pop p7_relF h (k11 (sc := sc) (a := sv sc (i + 1)) (b := sv sc (i + 2)) (c := sv sc (i + 3)) h.1) (fun t1 K => (m11 (sc := sc) (a := sv sc (i + 1)) (b := sv sc (i + 2)) (c := sv sc (i + 3)) K)) sw11 sm11 (fun r j q => by revert q; simp only [p7_Y, lawX, eX, lX, pX, fX, snX, brX, wyX, paX, trX, asX, gdX, lnX, lkX, lpX, lwcX, tyX, jyX, mkX, dzX, cpX, taX, glX, t1X, spX, dgX, kpX, mlawX, mvX, meX, mlX, mfaX, stX, hvX, pwX, btX, sgX, mlsX, jdX, tdX, dsX, enX, mftX, ldrX, wmX, maX, lwX, lrX, mrX, feX, ngX, trsX, dysX, gnX, t9X, spmX, kpmX, udX, Bool.or_eq_true, Bool.and_eq_true, decide_eq_true_eq, decide_eq_false_iff_not, beq_iff_eq, Bool.or_eq_false_iff, Bool.and_eq_false_iff, beq_eq_false_iff_ne]; omega) (fun r j q => by revert q; simp only [p7_Y, lawX, eX, lX, pX, fX, snX, brX, wyX, paX, trX, asX, gdX, lnX, lkX, lpX, lwcX, tyX, jyX, mkX, dzX, cpX, taX, glX, t1X, spX, dgX, kpX, mlawX, mvX, meX, mlX, mfaX, stX, hvX, pwX, btX, sgX, mlsX, jdX, tdX, dsX, enX, mftX, ldrX, wmX, maX, lwX, lrX, mrX, feX, ngX, trsX, dysX, gnX, t9X, spmX, kpmX, udX, Bool.or_eq_true, Bool.and_eq_true, decide_eq_true_eq, decide_eq_false_iff_not, beq_iff_eq, Bool.or_eq_false_iff, Bool.and_eq_false_iff, beq_eq_false_iff_ne]; omega)
        exact law_c11 (by decide) (by decide) hi a b fin
      · obtain rfl : tt = 366 := by simpa using htt.symm
        obtain ⟨a, b⟩ := pop p7_relF h (k12 (sc := sc) (a := sv sc (i + 1)) (b := sv sc (i + 2)) (c := sv sc (i + 3)) h.1) (fun t1 K => (m12 (sc := sc) (a := sv sc (i + 1)) (b := sv sc (i + 2)) (c := sv sc (i + 3)) K)) sw12 sm12 (fun r j q => by revert q; simp only [p7_Y, lawX, eX, lX, pX, fX, snX, brX, wyX, paX, trX, asX, gdX, lnX, lkX, lpX, lwcX, tyX, jyX, mkX, dzX, cpX, taX, glX, t1X, spX, dgX, kpX, mlawX, mvX, meX, mlX, mfaX, stX, hvX, pwX, btX, sgX, mlsX, jdX, tdX, dsX, enX, mftX, ldrX, wmX, maX, lwX, lrX, mrX, feX, ngX, trsX, dysX, gnX, t9X, spmX, kpmX, udX, Bool.or_eq_true, Bool.and_eq_true, decide_eq_true_eq, decide_eq_false_iff_not, beq_iff_eq, Bool.or_eq_false_iff, Bool.and_eq_false_iff, beq_eq_false_iff_ne]; omega) (fun r j q => by revert q; simp only [p7_Y, lawX, eX, lX, pX, fX, snX, brX, wyX, paX, trX, asX, gdX, lnX, lkX, lpX, lwcX, tyX, jyX, mkX, dzX, cpX, taX, glX, t1X, spX, dgX, kpX, mlawX, mvX, meX, mlX, mfaX, stX, hvX, pwX, btX, sgX, mlsX, jdX, tdX, dsX, enX, mftX, ldrX, wmX, maX, lwX, lrX, mrX, feX, ngX, trsX, dysX, gnX, t9X, spmX, kpmX, udX, Bool.or_eq_true, Bool.and_eq_true, decide_eq_true_eq, decide_eq_false_iff_not, beq_iff_eq, Bool.or_eq_false_iff, Bool.and_eq_false_iff, beq_eq_false_iff_ne]; omega)
        exact law_c12 (by decide) (by decide) hi a b fin
      · obtain rfl : tt = 403 := by simpa using htt.symm
        obtain ⟨a, b⟩ := pop p7_relF h (k13 (sc := sc) (a := sv sc (i + 1)) (b := sv sc (i + 2)) (c := sv sc (i + 3)) (d := sv sc (i + 4)) h.1) (fun t1 K => (m13 (sc := sc) (a := sv sc (i + 1)) (b := sv sc (i + 2)) (c := sv sc (i + 3)) (d := sv sc (i + 4)) K)) sw13 sm13 (fun r j q => by revert q; simp only [p7_Y, lawX, eX, lX, pX, fX, snX, brX, wyX, paX, trX, asX, gdX, lnX, lkX, lpX, lwcX, tyX, jyX, mkX, dzX, cpX, taX, glX, t1X, spX, dgX, kpX, mlawX, mvX, meX, mlX, mfaX, stX, hvX, pwX, btX, sgX, mlsX, jdX, tdX, dsX, enX, mftX, ldrX, wmX, maX, lwX, lrX, mrX, feX, ngX, trsX, dysX, gnX, t9X, spmX, kpmX, udX, Bool.or_eq_true, Bool.and_eq_true, decide_eq_true_eq, decide_eq_false_iff_not, beq_iff_eq, Bool.or_eq_false_iff, Bool.and_eq_false_iff, beq_eq_false_iff_ne]; omega) (fun r j q => by revert q; simp only [p7_Y, lawX, eX, lX, pX, fX, snX, brX, wyX, paX, trX, asX, gdX, lnX, lkX, lpX, lwcX, tyX, jyX, mkX, dzX, cpX, taX, glX, t1X, spX, dgX, kpX, mlawX, mvX, meX, mlX, mfaX, stX, hvX, pwX, btX, sgX, mlsX, jdX, tdX, dsX, enX, mftX, ldrX, wmX, maX, lwX, lrX, mrX, feX, ngX, trsX, dysX, gnX, t9X, spmX, kpmX, udX, Bool.or_eq_true, Bool.and_eq_true, decide_eq_true_eq, decide_eq_false_iff_not, beq_iff_eq, Bool.or_eq_false_iff, Bool.and_eq_false_iff, beq_eq_false_iff_ne]; omega)
        exact law_c13 (by decide) (by decide) hi a b fin
      · obtain rfl : tt = 450 := by simpa using htt.symm
        obtain ⟨a, b⟩ := pop p7_relF h (k14 (sc := sc) (a := sv sc (i + 1)) (b := sv sc (i + 2)) (c := sv sc (i + 3)) (d := sv sc (i + 4)) (e := sv sc (i + 5)) h.1) (fun t1 K => (m14 (sc := sc) (a := sv sc (i + 1)) (b := sv sc (i + 2)) (c := sv sc (i + 3)) (d := sv sc (i + 4)) (e := sv sc (i + 5)) K)) sw14 sm14 (fun r j q => by revert q; simp only [p7_Y, lawX, eX, lX, pX, fX, snX, brX, wyX, paX, trX, asX, gdX, lnX, lkX, lpX, lwcX, tyX, jyX, mkX, dzX, cpX, taX, glX, t1X, spX, dgX, kpX, mlawX, mvX, meX, mlX, mfaX, stX, hvX, pwX, btX, sgX, mlsX, jdX, tdX, dsX, enX, mftX, ldrX, wmX, maX, lwX, lrX, mrX, feX, ngX, trsX, dysX, gnX, t9X, spmX, kpmX, udX, Bool.or_eq_true, Bool.and_eq_true, decide_eq_true_eq, decide_eq_false_iff_not, beq_iff_eq, Bool.or_eq_false_iff, Bool.and_eq_false_iff, beq_eq_false_iff_ne]; omega) (fun r j q => by revert q; simp only [p7_Y, lawX, eX, lX, pX, fX, snX, brX, wyX, paX, trX, asX, gdX, lnX, lkX, lpX, lwcX, tyX, jyX, mkX, dzX, cpX, taX, glX, t1X, spX, dgX, kpX, mlawX, mvX, meX, mlX, mfaX, stX, hvX, pwX, btX, sgX, mlsX, jdX, tdX, dsX, enX, mftX, ldrX, wmX, maX, lwX, lrX, mrX, feX, ngX, trsX, dysX, gnX, t9X, spmX, kpmX, udX, Bool.or_eq_true, Bool.and_eq_true, decide_eq_true_eq, decide_eq_false_iff_not, beq_iff_eq, Bool.or_eq_false_iff, Bool.and_eq_false_iff, beq_eq_false_iff_ne]; omega)
        exact law_c14 (by decide) (by decide) hi a b fin
      · obtain rfl : tt = 507 := by simpa using htt.symm
        obtain ⟨a, b⟩ := pop p7_relF h (k15 (sc := sc) (a := sv sc (i + 1)) (b := sv sc (i + 2)) (c := sv sc (i + 3)) (d := sv sc (i + 4)) (e := sv sc (i + 5)) (f := sv sc (i + 6)) h.1) (fun t1 K => (m15 (sc := sc) (a := sv sc (i + 1)) (b := sv sc (i + 2)) (c := sv sc (i + 3)) (d := sv sc (i + 4)) (e := sv sc (i + 5)) (f := sv sc (i + 6)) K)) sw15 sm15 (fun r j q => by revert q; simp only [p7_Y, lawX, eX, lX, pX, fX, snX, brX, wyX, paX, trX, asX, gdX, lnX, lkX, lpX, lwcX, tyX, jyX, mkX, dzX, cpX, taX, glX, t1X, spX, dgX, kpX, mlawX, mvX, meX, mlX, mfaX, stX, hvX, pwX, btX, sgX, mlsX, jdX, tdX, dsX, enX, mftX, ldrX, wmX, maX, lwX, lrX, mrX, feX, ngX, trsX, dysX, gnX, t9X, spmX, kpmX, udX, Bool.or_eq_true, Bool.and_eq_true, decide_eq_true_eq, decide_eq_false_iff_not, beq_iff_eq, Bool.or_eq_false_iff, Bool.and_eq_false_iff, beq_eq_false_iff_ne]; omega) (fun r j q => by revert q; simp only [p7_Y, lawX, eX, lX, pX, fX, snX, brX, wyX, paX, trX, asX, gdX, lnX, lkX, lpX, lwcX, tyX, jyX, mkX, dzX, cpX, taX, glX, t1X, spX, dgX, kpX, mlawX, mvX, meX, mlX, mfaX, stX, hvX, pwX, btX, sgX, mlsX, jdX, tdX, dsX, enX, mftX, ldrX, wmX, maX, lwX, lrX, mrX, feX, ngX, trsX, dysX, gnX, t9X, spmX, kpmX, udX, Bool.or_eq_true, Bool.and_eq_true, decide_eq_true_eq, decide_eq_false_iff_not, beq_iff_eq, Bool.or_eq_false_iff, Bool.and_eq_false_iff, beq_eq_false_iff_ne]; omega)
        exact law_c15 (by decide) (by decide) hi a b fin
      · obtain rfl : tt = 574 := by simpa using htt.symm
        obtain ⟨a, b⟩ := pop p7_relF h (k16 (sc := sc) (a := sv sc (i + 1)) (b := sv sc (i + 2)) h.1) (fun t1 K => (m16 (sc := sc) (a := sv sc (i + 1)) (b := sv sc (i + 2)) K)) sw16 sm16 (fun r j q => by revert q; simp only [p7_Y, lawX, eX, lX, pX, fX, snX, brX, wyX, paX, trX, asX, gdX, lnX, lkX, lpX, lwcX, tyX, jyX, mkX, dzX, cpX, taX, glX, t1X, spX, dgX, kpX, mlawX, mvX, meX, mlX, mfaX, stX, hvX, pwX, btX, sgX, mlsX, jdX, tdX, dsX, enX, mftX, ldrX, wmX, maX, lwX, lrX, mrX, feX, ngX, trsX, dysX, gnX, t9X, spmX, kpmX, udX, Bool.or_eq_true, Bool.and_eq_true, decide_eq_true_eq, decide_eq_false_iff_not, beq_iff_eq, Bool.or_eq_false_iff, Bool.and_eq_false_iff, beq_eq_false_iff_ne]; omega) (fun r j q => by revert q; simp only [p7_Y, lawX, eX, lX, pX, fX, snX, brX, wyX, paX, trX, asX, gdX, lnX, lkX, lpX, lwcX, tyX, jyX, mkX, dzX, cpX, taX, glX, t1X, spX, dgX, kpX, mlawX, mvX, meX, mlX, mfaX, stX, hvX, pwX, btX, sgX, mlsX, jdX, tdX, dsX, enX, mftX, ldrX, wmX, maX, lwX, lrX, mrX, feX, ngX, trsX, dysX, gnX, t9X, spmX, kpmX, udX, Bool.or_eq_true, Bool.and_eq_true, decide_eq_true_eq, decide_eq_false_iff_not, beq_iff_eq, Bool.or_eq_false_iff, Bool.and_eq_false_iff, beq_eq_false_iff_ne]; omega)
        exact law_c16 (by decide) (by decide) hi a b fin
      · obtain rfl : tt = 601 := by simpa using htt.symm
        obtain ⟨a, b⟩ := pop p7_relF h (k17 (sc := sc) (a := sv sc (i + 1)) (b := sv sc (i + 2)) (c := sv sc (i + 3)) h.1) (fun t1 K => (m17 (sc := sc) (a := sv sc (i + 1)) (b := sv sc (i + 2)) (c := sv sc (i + 3)) K)) sw17 sm17 (fun r j q => by revert q; simp only [p7_Y, lawX, eX, lX, pX, fX, snX, brX, wyX, paX, trX, asX, gdX, lnX, lkX, lpX, lwcX, tyX, jyX, mkX, dzX, cpX, taX, glX, t1X, spX, dgX, kpX, mlawX, mvX, meX, mlX, mfaX, stX, hvX, pwX, btX, sgX, mlsX, jdX, tdX, dsX, enX, mftX, ldrX, wmX, maX, lwX, lrX, mrX, feX, ngX, trsX, dysX, gnX, t9X, spmX, kpmX, udX, Bool.or_eq_true, Bool.and_eq_true, decide_eq_true_eq, decide_eq_false_iff_not, beq_iff_eq, Bool.or_eq_false_iff, Bool.and_eq_false_iff, beq_eq_false_iff_ne]; omega) (fun r j q => by revert q; simp only [p7_Y, lawX, eX, lX, pX, fX, snX, brX, wyX, paX, trX, asX, gdX, lnX, lkX, lpX, lwcX, tyX, jyX, mkX, dzX, cpX, taX, glX, t1X, spX, dgX, kpX, mlawX, mvX, meX, mlX, mfaX, stX, hvX, pwX, btX, sgX, mlsX, jdX, tdX, dsX, enX, mftX, ldrX, wmX, maX, lwX, lrX, mrX, feX, ngX, trsX, dysX, gnX, t9X, spmX, kpmX, udX, Bool.or_eq_true, Bool.and_eq_true, decide_eq_true_eq, decide_eq_false_iff_not, beq_iff_eq, Bool.or_eq_false_iff, Bool.and_eq_false_iff, beq_eq_false_iff_ne]; omega)
        exact law_c17 (by decide) (by decide) hi a b fin
      · obtain rfl : tt = 638 := by simpa using htt.symm
        obtain ⟨a, b⟩ := pop p7_relF h (k18 (sc := sc) (a := sv sc (i + 1)) (b := sv sc (i + 2)) (c := sv sc (i + 3)) (d := sv sc (i + 4)) (e := sv sc (i + 5)) h.1) (fun t1 K => (m18 (sc := sc) (a := sv sc (i + 1)) (b := sv sc (i + 2)) (c := sv sc (i + 3)) (d := sv sc (i + 4)) (e := sv sc (i + 5)) K)) sw18 sm18 (fun r j q => by revert q; simp only [p7_Y, lawX, eX, lX, pX, fX, snX, brX, wyX, paX, trX, asX, gdX, lnX, lkX, lpX, lwcX, tyX, jyX, mkX, dzX, cpX, taX, glX, t1X, spX, dgX, kpX, mlawX, mvX, meX, mlX, mfaX, stX, hvX, pwX, btX, sgX, mlsX, jdX, tdX, dsX, enX, mftX, ldrX, wmX, maX, lwX, lrX, mrX, feX, ngX, trsX, dysX, gnX, t9X, spmX, kpmX, udX, Bool.or_eq_true, Bool.and_eq_true, decide_eq_true_eq, decide_eq_false_iff_not, beq_iff_eq, Bool.or_eq_false_iff, Bool.and_eq_false_iff, beq_eq_false_iff_ne]; omega) (fun r j q => by revert q; simp only [p7_Y, lawX, eX, lX, pX, fX, snX, brX, wyX, paX, trX, asX, gdX, lnX, lkX, lpX, lwcX, tyX, jyX, mkX, dzX, cpX, taX, glX, t1X, spX, dgX, kpX, mlawX, mvX, meX, mlX, mfaX, stX, hvX, pwX, btX, sgX, mlsX, jdX, tdX, dsX, enX, mftX, ldrX, wmX, maX, lwX, lrX, mrX, feX, ngX, trsX, dysX, gnX, t9X, spmX, kpmX, udX, Bool.or_eq_true, Bool.and_eq_true, decide_eq_true_eq, decide_eq_false_iff_not, beq_iff_eq, Bool.or_eq_false_iff, Bool.and_eq_false_iff, beq_eq_false_iff_ne]; omega)
        exact law_c18 (by decide) (by decide) hi a b fin
      · obtain rfl : tt = 695 := by simpa using htt.symm
        obtain ⟨a, b⟩ := pop p7_relF h (k19 (sc := sc) (a := sv sc (i + 1)) (b := sv sc (i + 2)) (c := sv sc (i + 3)) (d := sv sc (i + 4)) (e := sv sc (i + 5)) h.1) (fun t1 K => (m19 (sc := sc) (a := sv sc (i + 1)) (b := sv sc (i + 2)) (c := sv sc (i + 3)) (d := sv sc (i + 4)) (e := sv sc (i + 5)) K)) sw19 sm19 (fun r j q => by revert q; simp only [p7_Y, lawX, eX, lX, pX, fX, snX, brX, wyX, paX, trX, asX, gdX, lnX, lkX, lpX, lwcX, tyX, jyX, mkX, dzX, cpX, taX, glX, t1X, spX, dgX, kpX, mlawX, mvX, meX, mlX, mfaX, stX, hvX, pwX, btX, sgX, mlsX, jdX, tdX, dsX, enX, mftX, ldrX, wmX, maX, lwX, lrX, mrX, feX, ngX, trsX, dysX, gnX, t9X, spmX, kpmX, udX, Bool.or_eq_true, Bool.and_eq_true, decide_eq_true_eq, decide_eq_false_iff_not, beq_iff_eq, Bool.or_eq_false_iff, Bool.and_eq_false_iff, beq_eq_false_iff_ne]; omega) (fun r j q => by revert q; simp only [p7_Y, lawX, eX, lX, pX, fX, snX, brX, wyX, paX, trX, asX, gdX, lnX, lkX, lpX, lwcX, tyX, jyX, mkX, dzX, cpX, taX, glX, t1X, spX, dgX, kpX, mlawX, mvX, meX, mlX, mfaX, stX, hvX, pwX, btX, sgX, mlsX, jdX, tdX, dsX, enX, mftX, ldrX, wmX, maX, lwX, lrX, mrX, feX, ngX, trsX, dysX, gnX, t9X, spmX, kpmX, udX, Bool.or_eq_true, Bool.and_eq_true, decide_eq_true_eq, decide_eq_false_iff_not, beq_iff_eq, Bool.or_eq_false_iff, Bool.and_eq_false_iff, beq_eq_false_iff_ne]; omega)
        exact law_c19 (by decide) (by decide) hi a b fin
      · obtain rfl : tt = 752 := by simpa using htt.symm
        obtain ⟨a, b⟩ := two h (k20 (sc := sc) (m := sv sc (i + 1)) (w := sv sc (i + 2)) h.1) (fun t1 K => m20 (sc := sc) (m := sv sc (i + 1)) (w := sv sc (i + 2)) K) sw20 sm20 (fun r1 t1 r2 t2 F _ F2 q1 q2 => p7_len h.2.2 F F2 (fun r j q => by revert q; simp only [p7_Z, lawX, eX, lX, pX, fX, snX, brX, wyX, paX, trX, asX, gdX, lnX, lkX, lpX, lwcX, tyX, jyX, mkX, dzX, cpX, taX, glX, t1X, spX, dgX, kpX, mlawX, mvX, meX, mlX, mfaX, stX, hvX, pwX, btX, sgX, mlsX, jdX, tdX, dsX, enX, mftX, ldrX, wmX, maX, lwX, lrX, mrX, feX, ngX, trsX, dysX, gnX, t9X, spmX, kpmX, udX, Bool.or_eq_true, Bool.and_eq_true, decide_eq_true_eq, decide_eq_false_iff_not, beq_iff_eq, Bool.or_eq_false_iff, Bool.and_eq_false_iff, beq_eq_false_iff_ne]; omega) (fun r j q => by revert q; simp only [p7_Z, lawX, eX, lX, pX, fX, snX, brX, wyX, paX, trX, asX, gdX, lnX, lkX, lpX, lwcX, tyX, jyX, mkX, dzX, cpX, taX, glX, t1X, spX, dgX, kpX, mlawX, mvX, meX, mlX, mfaX, stX, hvX, pwX, btX, sgX, mlsX, jdX, tdX, dsX, enX, mftX, ldrX, wmX, maX, lwX, lrX, mrX, feX, ngX, trsX, dysX, gnX, t9X, spmX, kpmX, udX, Bool.or_eq_true, Bool.and_eq_true, decide_eq_true_eq, decide_eq_false_iff_not, beq_iff_eq, Bool.or_eq_false_iff, Bool.and_eq_false_iff, beq_eq_false_iff_ne]; omega) (p5_parted (hy_Ri _) h.2.2.1.1 F F2 q1 q2))
        exact law_c20 (by decide) (by decide) hi a b fin
      · obtain rfl : tt = 779 := by simpa using htt.symm
        obtain ⟨a, b⟩ := pop p7_relF h (k21 (sc := sc) (a := sv sc (i + 1)) (b := sv sc (i + 2)) (c := sv sc (i + 3)) (d := sv sc (i + 4)) h.1) (fun t1 K => (m21 (sc := sc) (a := sv sc (i + 1)) (b := sv sc (i + 2)) (c := sv sc (i + 3)) (d := sv sc (i + 4)) K)) sw21 sm21 (fun r j q => by revert q; simp only [p7_Y, lawX, eX, lX, pX, fX, snX, brX, wyX, paX, trX, asX, gdX, lnX, lkX, lpX, lwcX, tyX, jyX, mkX, dzX, cpX, taX, glX, t1X, spX, dgX, kpX, mlawX, mvX, meX, mlX, mfaX, stX, hvX, pwX, btX, sgX, mlsX, jdX, tdX, dsX, enX, mftX, ldrX, wmX, maX, lwX, lrX, mrX, feX, ngX, trsX, dysX, gnX, t9X, spmX, kpmX, udX, Bool.or_eq_true, Bool.and_eq_true, decide_eq_true_eq, decide_eq_false_iff_not, beq_iff_eq, Bool.or_eq_false_iff, Bool.and_eq_false_iff, beq_eq_false_iff_ne]; omega) (fun r j q => by revert q; simp only [p7_Y, lawX, eX, lX, pX, fX, snX, brX, wyX, paX, trX, asX, gdX, lnX, lkX, lpX, lwcX, tyX, jyX, mkX, dzX, cpX, taX, glX, t1X, spX, dgX, kpX, mlawX, mvX, meX, mlX, mfaX, stX, hvX, pwX, btX, sgX, mlsX, jdX, tdX, dsX, enX, mftX, ldrX, wmX, maX, lwX, lrX, mrX, feX, ngX, trsX, dysX, gnX, t9X, spmX, kpmX, udX, Bool.or_eq_true, Bool.and_eq_true, decide_eq_true_eq, decide_eq_false_iff_not, beq_iff_eq, Bool.or_eq_false_iff, Bool.and_eq_false_iff, beq_eq_false_iff_ne]; omega)
        exact law_c21 (by decide) (by decide) hi a b fin
      · obtain rfl : tt = 826 := by simpa using htt.symm
        obtain ⟨a, b⟩ := two h (k22 (sc := sc) (n := sv sc (i + 1)) (w := sv sc (i + 2)) h.1) (fun t1 K => m22 (sc := sc) (n := sv sc (i + 1)) (w := sv sc (i + 2)) K) sw22 sm22 (fun r1 t1 r2 t2 F _ F2 q1 q2 => p7_len h.2.2 F F2 (fun r j q => by revert q; simp only [p7_Z, lawX, eX, lX, pX, fX, snX, brX, wyX, paX, trX, asX, gdX, lnX, lkX, lpX, lwcX, tyX, jyX, mkX, dzX, cpX, taX, glX, t1X, spX, dgX, kpX, mlawX, mvX, meX, mlX, mfaX, stX, hvX, pwX, btX, sgX, mlsX, jdX, tdX, dsX, enX, mftX, ldrX, wmX, maX, lwX, lrX, mrX, feX, ngX, trsX, dysX, gnX, t9X, spmX, kpmX, udX, Bool.or_eq_true, Bool.and_eq_true, decide_eq_true_eq, decide_eq_false_iff_not, beq_iff_eq, Bool.or_eq_false_iff, Bool.and_eq_false_iff, beq_eq_false_iff_ne]; omega) (fun r j q => by revert q; simp only [p7_Z, lawX, eX, lX, pX, fX, snX, brX, wyX, paX, trX, asX, gdX, lnX, lkX, lpX, lwcX, tyX, jyX, mkX, dzX, cpX, taX, glX, t1X, spX, dgX, kpX, mlawX, mvX, meX, mlX, mfaX, stX, hvX, pwX, btX, sgX, mlsX, jdX, tdX, dsX, enX, mftX, ldrX, wmX, maX, lwX, lrX, mrX, feX, ngX, trsX, dysX, gnX, t9X, spmX, kpmX, udX, Bool.or_eq_true, Bool.and_eq_true, decide_eq_true_eq, decide_eq_false_iff_not, beq_iff_eq, Bool.or_eq_false_iff, Bool.and_eq_false_iff, beq_eq_false_iff_ne]; omega) (p5_spies h.2.2.1.1 F F2 q1 q2))
        exact law_c22 (by decide) (by decide) hi a b fin
      · obtain rfl : tt = 853 := by simpa using htt.symm
        obtain ⟨a, b⟩ := pop p7_relF h (k23 (sc := sc) (a := sv sc (i + 1)) (b := sv sc (i + 2)) h.1) (fun t1 K => (m23 (sc := sc) (a := sv sc (i + 1)) (b := sv sc (i + 2)) K)) sw23 sm23 (fun r j q => by revert q; simp only [p7_Y, lawX, eX, lX, pX, fX, snX, brX, wyX, paX, trX, asX, gdX, lnX, lkX, lpX, lwcX, tyX, jyX, mkX, dzX, cpX, taX, glX, t1X, spX, dgX, kpX, mlawX, mvX, meX, mlX, mfaX, stX, hvX, pwX, btX, sgX, mlsX, jdX, tdX, dsX, enX, mftX, ldrX, wmX, maX, lwX, lrX, mrX, feX, ngX, trsX, dysX, gnX, t9X, spmX, kpmX, udX, Bool.or_eq_true, Bool.and_eq_true, decide_eq_true_eq, decide_eq_false_iff_not, beq_iff_eq, Bool.or_eq_false_iff, Bool.and_eq_false_iff, beq_eq_false_iff_ne]; omega) (fun r j q => by revert q; simp only [p7_Y, lawX, eX, lX, pX, fX, snX, brX, wyX, paX, trX, asX, gdX, lnX, lkX, lpX, lwcX, tyX, jyX, mkX, dzX, cpX, taX, glX, t1X, spX, dgX, kpX, mlawX, mvX, meX, mlX, mfaX, stX, hvX, pwX, btX, sgX, mlsX, jdX, tdX, dsX, enX, mftX, ldrX, wmX, maX, lwX, lrX, mrX, feX, ngX, trsX, dysX, gnX, t9X, spmX, kpmX, udX, Bool.or_eq_true, Bool.and_eq_true, decide_eq_true_eq, decide_eq_false_iff_not, beq_iff_eq, Bool.or_eq_false_iff, Bool.and_eq_false_iff, beq_eq_false_iff_ne]; omega)
        exact law_c23 (by decide) (by decide) hi a b fin
      · obtain rfl : tt = 880 := by simpa using htt.symm
        obtain ⟨a, b⟩ := pop p7_relF h (k24 (sc := sc) (a := sv sc (i + 1)) (b := sv sc (i + 2)) (c := sv sc (i + 3)) h.1) (fun t1 K => (m24 (sc := sc) (a := sv sc (i + 1)) (b := sv sc (i + 2)) (c := sv sc (i + 3)) K)) sw24 sm24 (fun r j q => by revert q; simp only [p7_Y, lawX, eX, lX, pX, fX, snX, brX, wyX, paX, trX, asX, gdX, lnX, lkX, lpX, lwcX, tyX, jyX, mkX, dzX, cpX, taX, glX, t1X, spX, dgX, kpX, mlawX, mvX, meX, mlX, mfaX, stX, hvX, pwX, btX, sgX, mlsX, jdX, tdX, dsX, enX, mftX, ldrX, wmX, maX, lwX, lrX, mrX, feX, ngX, trsX, dysX, gnX, t9X, spmX, kpmX, udX, Bool.or_eq_true, Bool.and_eq_true, decide_eq_true_eq, decide_eq_false_iff_not, beq_iff_eq, Bool.or_eq_false_iff, Bool.and_eq_false_iff, beq_eq_false_iff_ne]; omega) (fun r j q => by revert q; simp only [p7_Y, lawX, eX, lX, pX, fX, snX, brX, wyX, paX, trX, asX, gdX, lnX, lkX, lpX, lwcX, tyX, jyX, mkX, dzX, cpX, taX, glX, t1X, spX, dgX, kpX, mlawX, mvX, meX, mlX, mfaX, stX, hvX, pwX, btX, sgX, mlsX, jdX, tdX, dsX, enX, mftX, ldrX, wmX, maX, lwX, lrX, mrX, feX, ngX, trsX, dysX, gnX, t9X, spmX, kpmX, udX, Bool.or_eq_true, Bool.and_eq_true, decide_eq_true_eq, decide_eq_false_iff_not, beq_iff_eq, Bool.or_eq_false_iff, Bool.and_eq_false_iff, beq_eq_false_iff_ne]; omega)
        exact law_c24 (by decide) (by decide) hi a b fin
      · obtain rfl : tt = 917 := by simpa using htt.symm
        obtain ⟨a, b⟩ := pop p7_relF h (k25 (sc := sc) (a := sv sc (i + 1)) h.1) (fun t1 K => (m25 (sc := sc) (a := sv sc (i + 1)) K)) sw25 sm25 (fun r j q => by revert q; simp only [p7_Y, lawX, eX, lX, pX, fX, snX, brX, wyX, paX, trX, asX, gdX, lnX, lkX, lpX, lwcX, tyX, jyX, mkX, dzX, cpX, taX, glX, t1X, spX, dgX, kpX, mlawX, mvX, meX, mlX, mfaX, stX, hvX, pwX, btX, sgX, mlsX, jdX, tdX, dsX, enX, mftX, ldrX, wmX, maX, lwX, lrX, mrX, feX, ngX, trsX, dysX, gnX, t9X, spmX, kpmX, udX, Bool.or_eq_true, Bool.and_eq_true, decide_eq_true_eq, decide_eq_false_iff_not, beq_iff_eq, Bool.or_eq_false_iff, Bool.and_eq_false_iff, beq_eq_false_iff_ne]; omega) (fun r j q => by revert q; simp only [p7_Y, lawX, eX, lX, pX, fX, snX, brX, wyX, paX, trX, asX, gdX, lnX, lkX, lpX, lwcX, tyX, jyX, mkX, dzX, cpX, taX, glX, t1X, spX, dgX, kpX, mlawX, mvX, meX, mlX, mfaX, stX, hvX, pwX, btX, sgX, mlsX, jdX, tdX, dsX, enX, mftX, ldrX, wmX, maX, lwX, lrX, mrX, feX, ngX, trsX, dysX, gnX, t9X, spmX, kpmX, udX, Bool.or_eq_true, Bool.and_eq_true, decide_eq_true_eq, decide_eq_false_iff_not, beq_iff_eq, Bool.or_eq_false_iff, Bool.and_eq_false_iff, beq_eq_false_iff_ne]; omega)
        exact law_c25 (by decide) (by decide) hi a b fin
      · obtain rfl : tt = 934 := by simpa using htt.symm
        obtain ⟨a, b⟩ := pop p7_relF h ((k26 (sc := sc) h.1).mono (fun _ _ q => q.1)) (fun t1 K => ((m26 (sc := sc) K).mono (fun _ _ q => q.1))) sw26 sm26 (fun r j q => by revert q; simp only [p7_Y, lawX, eX, lX, pX, fX, snX, brX, wyX, paX, trX, asX, gdX, lnX, lkX, lpX, lwcX, tyX, jyX, mkX, dzX, cpX, taX, glX, t1X, spX, dgX, kpX, mlawX, mvX, meX, mlX, mfaX, stX, hvX, pwX, btX, sgX, mlsX, jdX, tdX, dsX, enX, mftX, ldrX, wmX, maX, lwX, lrX, mrX, feX, ngX, trsX, dysX, gnX, t9X, spmX, kpmX, udX, Bool.or_eq_true, Bool.and_eq_true, decide_eq_true_eq, decide_eq_false_iff_not, beq_iff_eq, Bool.or_eq_false_iff, Bool.and_eq_false_iff, beq_eq_false_iff_ne]; omega) (fun r j q => by revert q; simp only [p7_Y, lawX, eX, lX, pX, fX, snX, brX, wyX, paX, trX, asX, gdX, lnX, lkX, lpX, lwcX, tyX, jyX, mkX, dzX, cpX, taX, glX, t1X, spX, dgX, kpX, mlawX, mvX, meX, mlX, mfaX, stX, hvX, pwX, btX, sgX, mlsX, jdX, tdX, dsX, enX, mftX, ldrX, wmX, maX, lwX, lrX, mrX, feX, ngX, trsX, dysX, gnX, t9X, spmX, kpmX, udX, Bool.or_eq_true, Bool.and_eq_true, decide_eq_true_eq, decide_eq_false_iff_not, beq_iff_eq, Bool.or_eq_false_iff, Bool.and_eq_false_iff, beq_eq_false_iff_ne]; omega)
        exact law_c26 (by decide) (by decide) hi a b fin
      · obtain rfl : tt = 941 := by simpa using htt.symm
        obtain ⟨a, b⟩ := pop p7_relF h ((k27 (sc := sc) h.1).mono (fun _ _ q => q.1)) (fun t1 K => ((m27 (sc := sc) K).mono (fun _ _ q => q.1))) sw27 sm27 (fun r j q => by revert q; simp only [p7_Y, lawX, eX, lX, pX, fX, snX, brX, wyX, paX, trX, asX, gdX, lnX, lkX, lpX, lwcX, tyX, jyX, mkX, dzX, cpX, taX, glX, t1X, spX, dgX, kpX, mlawX, mvX, meX, mlX, mfaX, stX, hvX, pwX, btX, sgX, mlsX, jdX, tdX, dsX, enX, mftX, ldrX, wmX, maX, lwX, lrX, mrX, feX, ngX, trsX, dysX, gnX, t9X, spmX, kpmX, udX, Bool.or_eq_true, Bool.and_eq_true, decide_eq_true_eq, decide_eq_false_iff_not, beq_iff_eq, Bool.or_eq_false_iff, Bool.and_eq_false_iff, beq_eq_false_iff_ne]; omega) (fun r j q => by revert q; simp only [p7_Y, lawX, eX, lX, pX, fX, snX, brX, wyX, paX, trX, asX, gdX, lnX, lkX, lpX, lwcX, tyX, jyX, mkX, dzX, cpX, taX, glX, t1X, spX, dgX, kpX, mlawX, mvX, meX, mlX, mfaX, stX, hvX, pwX, btX, sgX, mlsX, jdX, tdX, dsX, enX, mftX, ldrX, wmX, maX, lwX, lrX, mrX, feX, ngX, trsX, dysX, gnX, t9X, spmX, kpmX, udX, Bool.or_eq_true, Bool.and_eq_true, decide_eq_true_eq, decide_eq_false_iff_not, beq_iff_eq, Bool.or_eq_false_iff, Bool.and_eq_false_iff, beq_eq_false_iff_ne]; omega)
        exact law_c27 (by decide) (by decide) hi a b fin
      · obtain rfl : tt = 948 := by simpa using htt.symm
        obtain ⟨a, b⟩ := two h (k28 (sc := sc) (n := sv sc (i + 1)) h.1) (fun t1 K => m28 (sc := sc) (n := sv sc (i + 1)) K) sw28 sm28 (fun r1 t1 r2 t2 F _ F2 q1 q2 => p7_len h.2.2 F F2 (fun r j q => by revert q; simp only [p7_Z, lawX, eX, lX, pX, fX, snX, brX, wyX, paX, trX, asX, gdX, lnX, lkX, lpX, lwcX, tyX, jyX, mkX, dzX, cpX, taX, glX, t1X, spX, dgX, kpX, mlawX, mvX, meX, mlX, mfaX, stX, hvX, pwX, btX, sgX, mlsX, jdX, tdX, dsX, enX, mftX, ldrX, wmX, maX, lwX, lrX, mrX, feX, ngX, trsX, dysX, gnX, t9X, spmX, kpmX, udX, Bool.or_eq_true, Bool.and_eq_true, decide_eq_true_eq, decide_eq_false_iff_not, beq_iff_eq, Bool.or_eq_false_iff, Bool.and_eq_false_iff, beq_eq_false_iff_ne]; omega) (fun r j q => by revert q; simp only [p7_Z, lawX, eX, lX, pX, fX, snX, brX, wyX, paX, trX, asX, gdX, lnX, lkX, lpX, lwcX, tyX, jyX, mkX, dzX, cpX, taX, glX, t1X, spX, dgX, kpX, mlawX, mvX, meX, mlX, mfaX, stX, hvX, pwX, btX, sgX, mlsX, jdX, tdX, dsX, enX, mftX, ldrX, wmX, maX, lwX, lrX, mrX, feX, ngX, trsX, dysX, gnX, t9X, spmX, kpmX, udX, Bool.or_eq_true, Bool.and_eq_true, decide_eq_true_eq, decide_eq_false_iff_not, beq_iff_eq, Bool.or_eq_false_iff, Bool.and_eq_false_iff, beq_eq_false_iff_ne]; omega) (p5_check h.2.2.1.1 F F2 q1.2 q2.2))
        exact law_c28 (by decide) (by decide) hi a b fin
      · obtain rfl : tt = 965 := by simpa using htt.symm
        obtain ⟨a, b⟩ := pop p7_relF h ((k29 (sc := sc) (w := sv sc (i + 1)) (hy_Ri _) h.1).mono (fun _ _ q => q.1)) (fun t1 K => ((m29 (sc := sc) (w := sv sc (i + 1)) K).mono (fun _ _ q => q.1))) sw29 sm29 (fun _ _ _ => rfl) (fun _ _ _ => rfl)
        exact law_c29 (by decide) (by decide) hi a b fin
      · obtain rfl : tt = 982 := by rw [if_pos (.inr hb)] at htt; exact htt
        exact fin t h
  exact main sc.length 0 t0 (by omega) (by omega) p7_0
