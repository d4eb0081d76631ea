/-! the world behind the two constructors -/
def t0 : hy_T := fun r j =>
  if r = 9 ∨ r = 63 then 12 else if r = 35 ∨ r = 39 ∨ r = 43 ∨ r = 64 then 6 else if (r = 33 ∨ r = 37 ∨ r = 41) ∧ j = 5 then 1
  else if (r = 33 ∨ r = 37 ∨ r = 41) ∧ (j = 6 ∨ j = 7) then -2 else if r = 49 ∧ (j = 7 ∨ j = 8) then -2 else if r = 59 ∧ j = 1 then 1 else if r = 60 then -1 else 0
theorem t0_R (k j : Nat) : hy_R (t0 k j) := by
  unfold t0
  repeat' split
  all_goals decide
def hr_1 : hr_E := hr_run 1500 3 hm_W_init 0 ([.ref 2] ++ List.replicate (hx_L hm_W_init - 1) .null) [] [hr_q 10]
def hr_2 (h1 : hx_H) : hr_E := hr_run 1500 3 hm_M_init 0 ([.ref 59] ++ List.replicate (hx_L hm_M_init - 1) .null) [] (h1 ++ [hr_q 11])
def hr_chk : Bool := match hr_1 with
  | some (h1, c1, s1) => decide (h1.length = 57) && (match hr_2 h1 with
    | some (h2, c2, s2) => decide (h2 = hy_mk t0) && decide (c1 + c2 ≤ 200) && decide (s1 + s2 ≤ 7000)
    | none => false)
  | none => false
theorem hr_chk_is : hr_chk = true := by decide +kernel
theorem hr_made : ∃ (h1 : hx_H) (c1 s1 c2 s2 : Nat), hr_1 = some (h1, c1, s1) ∧ h1.length = 57 ∧ hr_2 h1 = some (hy_mk t0, c2, s2) ∧ c1 + c2 ≤ 200 ∧ s1 + s2 ≤ 7000 := by
  have h := hr_chk_is
  unfold hr_chk at h
  split at h
  · next h1 c1 s1 e1 =>
    rw [Bool.and_eq_true, decide_eq_true_eq] at h
    obtain ⟨l1, h⟩ := h
    split at h
    · next h2 c2 s2 e2 =>
      simp only [Bool.and_eq_true, decide_eq_true_eq] at h
      obtain ⟨⟨rfl, hc⟩, hs⟩ := h
      exact ⟨h1, c1, s1, c2, s2, e1, l1, e2, hc, hs⟩
    · cases h
  · cases h
/-! from the law's entry to its loop -/
theorem hr_newok (ci : Nat) {q : vw_C} (hq : hx_cl[ci]? = some q) (h : (hr_defok q && (hr_defs q).all (fun v => !hr_ref v)) = true) : hr_q ci = .inr (ci, hr_defs q) ∧ (∀ k, k < q.2.2 → parseFieldDescriptor (q.2.1 k).2.2.1 = some ((parseFieldDescriptor (q.2.1 k).2.2.1).getD .int)) ∧ (∀ j, j < q.2.2 → defaultValue ((parseFieldDescriptor (q.2.1 j).2.2.1).getD .int) = vp_V (hr_defs q) j) ∧ ∀ b o base, (hr_defs q).map (hx_g b o base) = hr_defs q := by
  rw [Bool.and_eq_true] at h
  have hk : ∀ k, k < q.2.2 → parseFieldDescriptor (q.2.1 k).2.2.1 = some ((parseFieldDescriptor (q.2.1 k).2.2.1).getD .int) := fun k hk => by
    have h1 := List.all_eq_true.mp h.1 k (List.mem_range.mpr hk)
    cases h2 : parseFieldDescriptor (q.2.1 k).2.2.1 with
    | none => rw [h2] at h1; cases h1
    | some ty => rfl
  refine ⟨by unfold hr_q; rw [hq], hk, fun j hj => ?_, fun b o base => hr_gs h.2 b o base⟩
  have h1 := hk j hj
  simp only [vp_V, hr_defs, List.getD_eq_getElem?_getD, List.getElem?_map, List.getElem?_range hj, Option.map_some, Option.getD_some]
  rw [h1]
  rfl
theorem hr_q10 : ∃ q, hx_cl[10]? = some q ∧ q.2.2 = 16 ∧ (hr_defok q && (hr_defs q).all (fun v => !hr_ref v)) = true := ⟨_, rfl, rfl, by decide +kernel⟩
theorem hr_q11 : ∃ q, hx_cl[11]? = some q ∧ q.2.2 = 68 ∧ (hr_defok q && (hr_defs q).all (fun v => !hr_ref v)) = true := ⟨_, rfl, rfl, by decide +kernel⟩
/-- from the law's entry to its loop -/
theorem law_first {sc : List Int32} {d : Nat} {Q : Option Int → hy_T → Prop} (hd : 4 ≤ d) (k : hy_W sc hm_law d 10 [.inr (some 0), .inr (some 2), .inr (some 59), .inl 0] [] t0 Q) : hx_W sc hm_law d 0 [.ref 0, .null, .null, .null] [] [] 300 8000 (hy_Q Q) := by
  obtain ⟨h1, c1, s1, c2, s2, e1, l1, e2, hc, hs⟩ := hr_made
  obtain ⟨q10, g10, n10, o10⟩ := hr_q10
  obtain ⟨q11, g11, n11, o11⟩ := hr_q11
  obtain ⟨w10, a10, b10, d10⟩ := hr_newok 10 g10 o10
  obtain ⟨w11, a11, b11, d11⟩ := hr_newok 11 g11 o11
  have hk1 := k (fun v hv => by
    simp only [List.mem_cons, List.not_mem_nil, or_false] at hv
    rcases hv with rfl | rfl | rfl | rfl
    · trivial
    · trivial
    · trivial
    · exact ⟨by decide, by decide⟩) (fun v hv => by simp at hv) t0_R
  have ct1 : hx_Ct sc hm_W_init 3 c1 s1 [.ref 2] [.inr (10, hr_defs q10)] (hr_Q h1) := by
    refine hx_mk ok_W_init ck_W_init (Nat.le_of_ble_eq_true rfl) rfl (hr_run_s 1500 3 hm_W_init 0 _ _ _ _ _ _ ?_ 3 (Nat.le_refl _))
    rw [← w10]
    exact e1
  have ct2 : hx_Ct sc hm_M_init 3 c2 s2 [.ref 59] (h1 ++ [.inr (11, hr_defs q11)]) (hr_Q (hy_mk t0)) := by
    refine hx_mk ok_M_init ck_M_init (Nat.le_of_ble_eq_true rfl) rfl (hr_run_s 1500 3 hm_M_init 0 _ _ _ _ _ _ ?_ 3 (Nat.le_refl _))
    rw [← w11]
    exact e2
  have w : hx_W sc hm_law d 0 [.ref 0, .null, .null, .null] [] [] (((0 + c2) + 1 + c1) + 1) (((0 + s2) + q11.2.2 + s1) + q10.2.2) (hy_Q Q) := by
    refine hx_new (i := 0) rfl g10 a10 b10 d10 ?_
    refine hx_dup (i := 1) rfl rfl ?_
    refine hx_callI (i := 2) (as := []) (a := 0) (v := hm_W_init) rfl (by decide) mj_W_init (by omega) rfl rfl (by decide) ct1 (fun r h' hq => ?_)
    obtain ⟨rfl, rfl⟩ := hq
    show hx_W sc hm_law d 3 [.ref 0, .null, .null, .null] [.ref 2] _ _ _ (hy_Q Q)
    refine hx_astore (i := 3) (a := 2) rfl ?_
    refine hx_new (i := 4) rfl g11 a11 b11 d11 ?_
    rw [l1]
    refine hx_dup (i := 5) rfl rfl ?_
    refine hx_callI (i := 6) (as := []) (a := 57) (v := hm_M_init) rfl (by decide) mj_M_init (by omega) rfl rfl (by decide) ct2 (fun r h' hq => ?_)
    obtain ⟨rfl, rfl⟩ := hq
    show hx_W sc hm_law d 7 [.ref 0, .ref 2, .null, .null] [.ref 59] _ _ _ (hy_Q Q)
    refine hx_astore (i := 7) (a := 59) rfl ?_
    refine hx_const (i := 8) rfl ?_
    refine hx_istore (i := 9) rfl ?_
    exact hk1
  rw [n10, n11] at w
  exact w.mono (by omega) (by omega) (fun r h' q => q)
/-! the law, case by case -/
def sv (sc : List Int32) (k : Nat) : Int := (sc.getD k 0).toInt
def law_ldb (p k : Nat) : Bool := decide ((hx_ops hm_law)[p]? = some (.aload 0)) && decide ((hx_ops hm_law)[p + 1]? = some (.iload 3)) && decide ((hx_ops hm_law)[p + 2]? = some (.bipush k)) && decide ((hx_ops hm_law)[p + 3]? = some .iadd) && decide ((hx_ops hm_law)[p + 4]? = some .iaload)
section LAW
variable {sc : List Int32} {u : hx_M} {d i : Nat} {loc st : List hy_V} {t : hy_T} {Q : Option Int → hy_T → Prop}
theorem hy_iald_s {p : Nat} {z : Int} (hop : (hx_ops u)[p]? = some .iaload) (hz : 0 ≤ z ∧ z < sc.length) (kk : hy_W sc u d (p + 1) loc (.inl (sv sc z.toNat) :: st) t Q) : hy_W sc u d p loc (.inl z :: .inr (some 0) :: st) t Q := fun h1 h2 h3 => by
  obtain ⟨hzR, hs⟩ := hy_one h2
  refine hx_iald_s hop (hy_in hzR hz) ?_
  rw [hy_cl hzR]
  have h := kk h1 (hy_cons (hy_Ri _) (hy_one hs).2) h3
  simp only [List.map_cons, hy_v, sv, hy_oi] at h
  exact h
theorem hy_alen_s {p : Nat} (hop : (hx_ops u)[p]? = some .arraylength) (hn : sc.length ≤ 2147483647) (kk : hy_W sc u d (p + 1) loc (.inl (sc.length : Int) :: st) t Q) : hy_W sc u d p loc (.inr (some 0) :: st) t Q := fun h1 h2 h3 =>
  hx_alen_s hop (kk h1 (hy_cons ⟨by omega, by omega⟩ (hy_one h2).2) h3)
theorem law_ld (p k : Nat) (h : law_ldb p k = true) (hk : i + k < sc.length) (hi : i + k ≤ 100000) (kk : hy_W sc hm_law d (p + 5) [.inr (some 0), .inr (some 2), .inr (some 59), .inl (i : Int)] (.inl (sv sc (i + k)) :: st) t Q) : hy_W sc hm_law d p [.inr (some 0), .inr (some 2), .inr (some 59), .inl (i : Int)] st t Q := by
  unfold law_ldb at h
  simp only [Bool.and_eq_true, decide_eq_true_eq] at h
  obtain ⟨⟨⟨⟨e0, e1⟩, e2⟩, e3⟩, e4⟩ := h
  refine hy_aload (i := p) e0 rfl ?_
  refine hy_iload (i := p + 1) e1 rfl ?_
  refine hy_const (i := p + 2) e2 ⟨by omega, by omega⟩ ?_
  refine hy_iadd (i := p + 3) e3 ⟨by omega, by omega⟩ ?_
  refine hy_iald_s (p := p + 4) e4 ⟨by omega, by omega⟩ ?_
  rw [show ((i : Int) + (k : Int)).toNat = i + k by omega]
  exact kk
theorem law_c0 {P : Int → hy_T → Prop} {R : hy_T → Prop} {dW dM : Nat} (hdW : dW < d) (hdM : dM < d) (hi : i + 7 ≤ sc.length ∧ sc.length ≤ 90000) (hW : hy_Ct sc hm_W_colour dW [.inr (some 2), .inl (sv sc (i + 1)), .inl (sv sc (i + 2)), .inl (sv sc (i + 3))] t (fun r t1 => ∃ v : Int, r = some v ∧ P v t1)) (hM : ∀ (v : Int) (t1 : hy_T), P v t1 → hy_Ct sc hm_M_colour dM [.inr (some 59), .inl (sv sc (i + 1)), .inl (sv sc (i + 2)), .inl (sv sc (i + 3))] t1 (fun r t2 => ∃ v2 : Int, r = some v2 ∧ R t2)) (fin : ∀ t2, R t2 → hy_W sc hm_law d 982 [.inr (some 0), .inr (some 2), .inr (some 59), .inl (i : Int)] [] t2 Q) : hy_W sc hm_law d 22 [.inr (some 0), .inr (some 2), .inr (some 59), .inl (i : Int)] [] t Q := by
  refine hy_aload (i := 22) (k := 1) (by decide +kernel) rfl ?_
  refine law_ld 23 1 (by decide +kernel) (by omega) (by omega) ?_
  refine law_ld 28 2 (by decide +kernel) (by omega) (by omega) ?_
  refine law_ld 33 3 (by decide +kernel) (by omega) (by omega) ?_
  refine hy_cV3 (i := 38) (j := 11) (by decide +kernel) mj_W_colour hdW rfl (Nat.le_of_ble_eq_true rfl) rfl rfl rfl hW (fun r t1 h1 => ?_)
  obtain ⟨v, rfl, hP⟩ := h1
  dsimp only [hy_st, List.cons_append, List.nil_append]
  refine hy_pop (i := 39) (by decide +kernel) ?_
  refine hy_aload (i := 40) (k := 2) (by decide +kernel) rfl ?_
  refine law_ld 41 1 (by decide +kernel) (by omega) (by omega) ?_
  refine law_ld 46 2 (by decide +kernel) (by omega) (by omega) ?_
  refine law_ld 51 3 (by decide +kernel) (by omega) (by omega) ?_
  refine hy_cV3 (i := 56) (j := 199) (by decide +kernel) mj_M_colour hdM rfl (Nat.le_of_ble_eq_true rfl) rfl rfl rfl (hM v t1 hP) (fun r t2 h2 => ?_)
  obtain ⟨v2, rfl, hR⟩ := h2
  dsimp only [hy_st, List.cons_append, List.nil_append]
  refine hy_pop (i := 57) (by decide +kernel) ?_
  exact hy_goto (i := 58) (tt := 982) (by decide +kernel) (fin t2 hR)
theorem law_c1 {P : Int → hy_T → Prop} {R : hy_T → Prop} {dW dM : Nat} (hdW : dW < d) (hdM : dM < d) (hi : i + 7 ≤ sc.length ∧ sc.length ≤ 90000) (hW : hy_Ct sc hm_W_have dW [.inr (some 2), .inl (sv sc (i + 1)), .inl (sv sc (i + 2)), .inl (sv sc (i + 3))] t (fun r t1 => ∃ v : Int, r = some v ∧ P v t1)) (hM : ∀ (v : Int) (t1 : hy_T), P v t1 → hy_Ct sc hm_M_have dM [.inr (some 59), .inl (sv sc (i + 1)), .inl (sv sc (i + 2)), .inl (sv sc (i + 3))] t1 (fun r t2 => ∃ v2 : Int, r = some v2 ∧ R t2)) (fin : ∀ t2, R t2 → hy_W sc hm_law d 982 [.inr (some 0), .inr (some 2), .inr (some 59), .inl (i : Int)] [] t2 Q) : hy_W sc hm_law d 59 [.inr (some 0), .inr (some 2), .inr (some 59), .inl (i : Int)] [] t Q := by
  refine hy_aload (i := 59) (k := 1) (by decide +kernel) rfl ?_
  refine law_ld 60 1 (by decide +kernel) (by omega) (by omega) ?_
  refine law_ld 65 2 (by decide +kernel) (by omega) (by omega) ?_
  refine law_ld 70 3 (by decide +kernel) (by omega) (by omega) ?_
  refine hy_cV3 (i := 75) (j := 16) (by decide +kernel) mj_W_have hdW rfl (Nat.le_of_ble_eq_true rfl) rfl rfl rfl hW (fun r t1 h1 => ?_)
  obtain ⟨v, rfl, hP⟩ := h1
  dsimp only [hy_st, List.cons_append, List.nil_append]
  refine hy_pop (i := 76) (by decide +kernel) ?_
  refine hy_aload (i := 77) (k := 2) (by decide +kernel) rfl ?_
  refine law_ld 78 1 (by decide +kernel) (by omega) (by omega) ?_
  refine law_ld 83 2 (by decide +kernel) (by omega) (by omega) ?_
  refine law_ld 88 3 (by decide +kernel) (by omega) (by omega) ?_
  refine hy_cV3 (i := 93) (j := 203) (by decide +kernel) mj_M_have hdM rfl (Nat.le_of_ble_eq_true rfl) rfl rfl rfl (hM v t1 hP) (fun r t2 h2 => ?_)
  obtain ⟨v2, rfl, hR⟩ := h2
  dsimp only [hy_st, List.cons_append, List.nil_append]
  refine hy_pop (i := 94) (by decide +kernel) ?_
  exact hy_goto (i := 95) (tt := 982) (by decide +kernel) (fin t2 hR)
theorem law_c2 {P : Int → hy_T → Prop} {R : hy_T → Prop} {dW dM : Nat} (hdW : dW < d) (hdM : dM < d) (hi : i + 7 ≤ sc.length ∧ sc.length ≤ 90000) (hW : hy_Ct sc hm_W_owner dW [.inr (some 2), .inl (sv sc (i + 1)), .inl (sv sc (i + 2)), .inl (sv sc (i + 3))] t (fun r t1 => ∃ v : Int, r = some v ∧ P v t1)) (hM : ∀ (v : Int) (t1 : hy_T), P v t1 → hy_Ct sc hm_M_owner dM [.inr (some 59), .inl (sv sc (i + 1)), .inl (sv sc (i + 2)), .inl (sv sc (i + 3))] t1 (fun r t2 => ∃ v2 : Int, r = some v2 ∧ R t2)) (fin : ∀ t2, R t2 → hy_W sc hm_law d 982 [.inr (some 0), .inr (some 2), .inr (some 59), .inl (i : Int)] [] t2 Q) : hy_W sc hm_law d 96 [.inr (some 0), .inr (some 2), .inr (some 59), .inl (i : Int)] [] t Q := by
  refine hy_aload (i := 96) (k := 1) (by decide +kernel) rfl ?_
  refine law_ld 97 1 (by decide +kernel) (by omega) (by omega) ?_
  refine law_ld 102 2 (by decide +kernel) (by omega) (by omega) ?_
  refine law_ld 107 3 (by decide +kernel) (by omega) (by omega) ?_
  refine hy_cV3 (i := 112) (j := 21) (by decide +kernel) mj_W_owner hdW rfl (Nat.le_of_ble_eq_true rfl) rfl rfl rfl hW (fun r t1 h1 => ?_)
  obtain ⟨v, rfl, hP⟩ := h1
  dsimp only [hy_st, List.cons_append, List.nil_append]
  refine hy_pop (i := 113) (by decide +kernel) ?_
  refine hy_aload (i := 114) (k := 2) (by decide +kernel) rfl ?_
  refine law_ld 115 1 (by decide +kernel) (by omega) (by omega) ?_
  refine law_ld 120 2 (by decide +kernel) (by omega) (by omega) ?_
  refine law_ld 125 3 (by decide +kernel) (by omega) (by omega) ?_
  refine hy_cV3 (i := 130) (j := 206) (by decide +kernel) mj_M_owner hdM rfl (Nat.le_of_ble_eq_true rfl) rfl rfl rfl (hM v t1 hP) (fun r t2 h2 => ?_)
  obtain ⟨v2, rfl, hR⟩ := h2
  dsimp only [hy_st, List.cons_append, List.nil_append]
  refine hy_pop (i := 131) (by decide +kernel) ?_
  exact hy_goto (i := 132) (tt := 982) (by decide +kernel) (fin t2 hR)
theorem law_c3 {P : Int → hy_T → Prop} {R : hy_T → Prop} {dW dM : Nat} (hdW : dW < d) (hdM : dM < d) (hi : i + 7 ≤ sc.length ∧ sc.length ≤ 90000) (hW : hy_Ct sc hm_W_feed dW [.inr (some 2), .inl (sv sc (i + 1)), .inl (sv sc (i + 2)), .inl (sv sc (i + 3)), .inl (sv sc (i + 4)), .inl (sv sc (i + 5))] t (fun r t1 => ∃ v : Int, r = some v ∧ P v t1)) (hM : ∀ (v : Int) (t1 : hy_T), P v t1 → hy_Ct sc hm_M_feed dM [.inr (some 59), .inl (sv sc (i + 1)), .inl (sv sc (i + 2)), .inl (sv sc (i + 3)), .inl (sv sc (i + 4)), .inl (sv sc (i + 5))] t1 (fun r t2 => ∃ v2 : Int, r = some v2 ∧ R t2)) (fin : ∀ t2, R t2 → hy_W sc hm_law d 982 [.inr (some 0), .inr (some 2), .inr (some 59), .inl (i : Int)] [] t2 Q) : hy_W sc hm_law d 133 [.inr (some 0), .inr (some 2), .inr (some 59), .inl (i : Int)] [] t Q := by
  refine hy_aload (i := 133) (k := 1) (by decide +kernel) rfl ?_
  refine law_ld 134 1 (by decide +kernel) (by omega) (by omega) ?_
  refine law_ld 139 2 (by decide +kernel) (by omega) (by omega) ?_
  refine law_ld 144 3 (by decide +kernel) (by omega) (by omega) ?_
  refine law_ld 149 4 (by decide +kernel) (by omega) (by omega) ?_
  refine law_ld 154 5 (by decide +kernel) (by omega) (by omega) ?_
  refine hy_cV5 (i := 159) (j := 24) (by decide +kernel) mj_W_feed hdW rfl (Nat.le_of_ble_eq_true rfl) rfl rfl rfl hW (fun r t1 h1 => ?_)
  obtain ⟨v, rfl, hP⟩ := h1
  dsimp only [hy_st, List.cons_append, List.nil_append]
  refine hy_pop (i := 160) (by decide +kernel) ?_
  refine hy_aload (i := 161) (k := 2) (by decide +kernel) rfl ?_
  refine law_ld 162 1 (by decide +kernel) (by omega) (by omega) ?_
  refine law_ld 167 2 (by decide +kernel) (by omega) (by omega) ?_
  refine law_ld 172 3 (by decide +kernel) (by omega) (by omega) ?_
  refine law_ld 177 4 (by decide +kernel) (by omega) (by omega) ?_
  refine law_ld 182 5 (by decide +kernel) (by omega) (by omega) ?_
  refine hy_cV5 (i := 187) (j := 207) (by decide +kernel) mj_M_feed hdM rfl (Nat.le_of_ble_eq_true rfl) rfl rfl rfl (hM v t1 hP) (fun r t2 h2 => ?_)
  obtain ⟨v2, rfl, hR⟩ := h2
  dsimp only [hy_st, List.cons_append, List.nil_append]
  refine hy_pop (i := 188) (by decide +kernel) ?_
  exact hy_goto (i := 189) (tt := 982) (by decide +kernel) (fin t2 hR)
theorem law_c4 {P : Int → hy_T → Prop} {R : hy_T → Prop} {dW dM : Nat} (hdW : dW < d) (hdM : dM < d) (hi : i + 7 ≤ sc.length ∧ sc.length ≤ 90000) (hW : hy_Ct sc hm_W_law dW [.inr (some 2), .inl (sv sc (i + 1))] t (fun r t1 => ∃ v : Int, r = some v ∧ P v t1)) (hM : ∀ (v : Int) (t1 : hy_T), P v t1 → hy_Ct sc hm_M_law dM [.inr (some 59), .inl (sv sc (i + 1))] t1 (fun r t2 => ∃ v2 : Int, r = some v2 ∧ R t2)) (fin : ∀ t2, R t2 → hy_W sc hm_law d 982 [.inr (some 0), .inr (some 2), .inr (some 59), .inl (i : Int)] [] t2 Q) : hy_W sc hm_law d 190 [.inr (some 0), .inr (some 2), .inr (some 59), .inl (i : Int)] [] t Q := by
  refine hy_aload (i := 190) (k := 1) (by decide +kernel) rfl ?_
  refine law_ld 191 1 (by decide +kernel) (by omega) (by omega) ?_
  refine hy_cV1 (i := 196) (j := 27) (by decide +kernel) mj_W_law hdW rfl (Nat.le_of_ble_eq_true rfl) rfl rfl rfl hW (fun r t1 h1 => ?_)
  obtain ⟨v, rfl, hP⟩ := h1
  dsimp only [hy_st, List.cons_append, List.nil_append]
  refine hy_pop (i := 197) (by decide +kernel) ?_
  refine hy_aload (i := 198) (k := 2) (by decide +kernel) rfl ?_
  refine law_ld 199 1 (by decide +kernel) (by omega) (by omega) ?_
  refine hy_cV1 (i := 204) (j := 209) (by decide +kernel) mj_M_law hdM rfl (Nat.le_of_ble_eq_true rfl) rfl rfl rfl (hM v t1 hP) (fun r t2 h2 => ?_)
  obtain ⟨v2, rfl, hR⟩ := h2
  dsimp only [hy_st, List.cons_append, List.nil_append]
  refine hy_pop (i := 205) (by decide +kernel) ?_
  exact hy_goto (i := 206) (tt := 982) (by decide +kernel) (fin t2 hR)
theorem law_c5 {P : Int → hy_T → Prop} {R : hy_T → Prop} {dW dM : Nat} (hdW : dW < d) (hdM : dM < d) (hi : i + 7 ≤ sc.length ∧ sc.length ≤ 90000) (hW : hy_Ct sc hm_W_land dW [.inr (some 2), .inl (sv sc (i + 1))] t (fun r t1 => ∃ v : Int, r = some v ∧ P v t1)) (hM : ∀ (v : Int) (t1 : hy_T), P v t1 → hy_Ct sc hm_M_land dM [.inr (some 59), .inl (sv sc (i + 1))] t1 (fun r t2 => r = some v ∧ R t2)) (fin : ∀ t2, R t2 → hy_W sc hm_law d 982 [.inr (some 0), .inr (some 2), .inr (some 59), .inl (i : Int)] [] t2 Q) : hy_W sc hm_law d 207 [.inr (some 0), .inr (some 2), .inr (some 59), .inl (i : Int)] [] t Q := by
  refine hy_aload (i := 207) (k := 1) (by decide +kernel) rfl ?_
  refine law_ld 208 1 (by decide +kernel) (by omega) (by omega) ?_
  refine hy_cV1 (i := 213) (j := 53) (by decide +kernel) mj_W_land hdW rfl (Nat.le_of_ble_eq_true rfl) rfl rfl rfl hW (fun r t1 h1 => ?_)
  obtain ⟨v, rfl, hP⟩ := h1
  dsimp only [hy_st, List.cons_append, List.nil_append]
  refine hy_aload (i := 214) (k := 2) (by decide +kernel) rfl ?_
  refine law_ld 215 1 (by decide +kernel) (by omega) (by omega) ?_
  refine hy_cV1 (i := 220) (j := 268) (by decide +kernel) mj_M_land hdM rfl (Nat.le_of_ble_eq_true rfl) rfl rfl rfl (hM v t1 hP) (fun r t2 h2 => ?_)
  obtain ⟨rfl, hR⟩ := h2
  dsimp only [hy_st, List.cons_append, List.nil_append]
  exact hy_ic_eq (i := 221) (tt := 982) (by decide +kernel) (fun _ => fin t2 hR) (fun q => absurd rfl q)
theorem law_c6 {P : Int → hy_T → Prop} {R : hy_T → Prop} {dW dM : Nat} (hdW : dW < d) (hdM : dM < d) (hi : i + 7 ≤ sc.length ∧ sc.length ≤ 90000) (hW : hy_Ct sc hm_W_treaties dW [.inr (some 2), .inl (sv sc (i + 1))] t (fun r t1 => ∃ v : Int, r = some v ∧ P v t1)) (hM : ∀ (v : Int) (t1 : hy_T), P v t1 → hy_Ct sc hm_M_treaties dM [.inr (some 59), .inl (sv sc (i + 1))] t1 (fun r t2 => ∃ v2 : Int, r = some v2 ∧ R t2)) (fin : ∀ t2, R t2 → hy_W sc hm_law d 982 [.inr (some 0), .inr (some 2), .inr (some 59), .inl (i : Int)] [] t2 Q) : hy_W sc hm_law d 224 [.inr (some 0), .inr (some 2), .inr (some 59), .inl (i : Int)] [] t Q := by
  refine hy_aload (i := 224) (k := 1) (by decide +kernel) rfl ?_
  refine law_ld 225 1 (by decide +kernel) (by omega) (by omega) ?_
  refine hy_cV1 (i := 230) (j := 60) (by decide +kernel) mj_W_treaties hdW rfl (Nat.le_of_ble_eq_true rfl) rfl rfl rfl hW (fun r t1 h1 => ?_)
  obtain ⟨v, rfl, hP⟩ := h1
  dsimp only [hy_st, List.cons_append, List.nil_append]
  refine hy_pop (i := 231) (by decide +kernel) ?_
  refine hy_aload (i := 232) (k := 2) (by decide +kernel) rfl ?_
  refine law_ld 233 1 (by decide +kernel) (by omega) (by omega) ?_
  refine hy_cV1 (i := 238) (j := 244) (by decide +kernel) mj_M_treaties hdM rfl (Nat.le_of_ble_eq_true rfl) rfl rfl rfl (hM v t1 hP) (fun r t2 h2 => ?_)
  obtain ⟨v2, rfl, hR⟩ := h2
  dsimp only [hy_st, List.cons_append, List.nil_append]
  refine hy_pop (i := 239) (by decide +kernel) ?_
  exact hy_goto (i := 240) (tt := 982) (by decide +kernel) (fin t2 hR)
theorem law_c7 {P : Int → hy_T → Prop} {R : hy_T → Prop} {dW dM : Nat} (hdW : dW < d) (hdM : dM < d) (hi : i + 7 ≤ sc.length ∧ sc.length ≤ 90000) (hW : hy_Ct sc hm_W_judged dW [.inr (some 2), .inl (sv sc (i + 1))] t (fun r t1 => ∃ v : Int, r = some v ∧ P v t1)) (hM : ∀ (v : Int) (t1 : hy_T), P v t1 → hy_Ct sc hm_M_judged dM [.inr (some 59), .inl (sv sc (i + 1))] t1 (fun r t2 => ∃ v2 : Int, r = some v2 ∧ R t2)) (fin : ∀ t2, R t2 → hy_W sc hm_law d 982 [.inr (some 0), .inr (some 2), .inr (some 59), .inl (i : Int)] [] t2 Q) : hy_W sc hm_law d 241 [.inr (some 0), .inr (some 2), .inr (some 59), .inl (i : Int)] [] t Q := by
  refine hy_aload (i := 241) (k := 1) (by decide +kernel) rfl ?_
  refine law_ld 242 1 (by decide +kernel) (by omega) (by omega) ?_
  refine hy_cV1 (i := 247) (j := 81) (by decide +kernel) mj_W_judged hdW rfl (Nat.le_of_ble_eq_true rfl) rfl rfl rfl hW (fun r t1 h1 => ?_)
  obtain ⟨v, rfl, hP⟩ := h1
  dsimp only [hy_st, List.cons_append, List.nil_append]
  refine hy_pop (i := 248) (by decide +kernel) ?_
  refine hy_aload (i := 249) (k := 2) (by decide +kernel) rfl ?_
  refine law_ld 250 1 (by decide +kernel) (by omega) (by omega) ?_
  refine hy_cV1 (i := 255) (j := 253) (by decide +kernel) mj_M_judged hdM rfl (Nat.le_of_ble_eq_true rfl) rfl rfl rfl (hM v t1 hP) (fun r t2 h2 => ?_)
  obtain ⟨v2, rfl, hR⟩ := h2
  dsimp only [hy_st, List.cons_append, List.nil_append]
  refine hy_pop (i := 256) (by decide +kernel) ?_
  exact hy_goto (i := 257) (tt := 982) (by decide +kernel) (fin t2 hR)
theorem law_c8 {P : Int → hy_T → Prop} {R : hy_T → Prop} {dW dM : Nat} (hdW : dW < d) (hdM : dM < d) (hi : i + 7 ≤ sc.length ∧ sc.length ≤ 90000) (hW : hy_Ct sc hm_W_days dW [.inr (some 2), .inl (sv sc (i + 1))] t (fun r t1 => ∃ v : Int, r = some v ∧ P v t1)) (hM : ∀ (v : Int) (t1 : hy_T), P v t1 → hy_Ct sc hm_M_days dM [.inr (some 59), .inl (sv sc (i + 1))] t1 (fun r t2 => ∃ v2 : Int, r = some v2 ∧ R t2)) (fin : ∀ t2, R t2 → hy_W sc hm_law d 982 [.inr (some 0), .inr (some 2), .inr (some 59), .inl (i : Int)] [] t2 Q) : hy_W sc hm_law d 258 [.inr (some 0), .inr (some 2), .inr (some 59), .inl (i : Int)] [] t Q := by
  refine hy_aload (i := 258) (k := 1) (by decide +kernel) rfl ?_
  refine law_ld 259 1 (by decide +kernel) (by omega) (by omega) ?_
  refine hy_cV1 (i := 264) (j := 85) (by decide +kernel) mj_W_days hdW rfl (Nat.le_of_ble_eq_true rfl) rfl rfl rfl hW (fun r t1 h1 => ?_)
  obtain ⟨v, rfl, hP⟩ := h1
  dsimp only [hy_st, List.cons_append, List.nil_append]
  refine hy_pop (i := 265) (by decide +kernel) ?_
  refine hy_aload (i := 266) (k := 2) (by decide +kernel) rfl ?_
  refine law_ld 267 1 (by decide +kernel) (by omega) (by omega) ?_
  refine hy_cV1 (i := 272) (j := 260) (by decide +kernel) mj_M_days hdM rfl (Nat.le_of_ble_eq_true rfl) rfl rfl rfl (hM v t1 hP) (fun r t2 h2 => ?_)
  obtain ⟨v2, rfl, hR⟩ := h2
  dsimp only [hy_st, List.cons_append, List.nil_append]
  refine hy_pop (i := 273) (by decide +kernel) ?_
  exact hy_goto (i := 274) (tt := 982) (by decide +kernel) (fin t2 hR)
theorem law_c9 {P : Int → hy_T → Prop} {R : hy_T → Prop} {dW dM : Nat} (hdW : dW < d) (hdM : dM < d) (hi : i + 7 ≤ sc.length ∧ sc.length ≤ 90000) (hW : hy_Ct sc hm_W_tried dW [.inr (some 2), .inl (sv sc (i + 1)), .inl (sv sc (i + 2))] t (fun r t1 => ∃ v : Int, r = some v ∧ P v t1)) (hM : ∀ (v : Int) (t1 : hy_T), P v t1 → hy_Ct sc hm_M_tried dM [.inr (some 59), .inl (sv sc (i + 1)), .inl (sv sc (i + 2))] t1 (fun r t2 => ∃ v2 : Int, r = some v2 ∧ R t2)) (fin : ∀ t2, R t2 → hy_W sc hm_law d 982 [.inr (some 0), .inr (some 2), .inr (some 59), .inl (i : Int)] [] t2 Q) : hy_W sc hm_law d 275 [.inr (some 0), .inr (some 2), .inr (some 59), .inl (i : Int)] [] t Q := by
  refine hy_aload (i := 275) (k := 1) (by decide +kernel) rfl ?_
  refine law_ld 276 1 (by decide +kernel) (by omega) (by omega) ?_
  refine law_ld 281 2 (by decide +kernel) (by omega) (by omega) ?_
  refine hy_cV2 (i := 286) (j := 101) (by decide +kernel) mj_W_tried hdW rfl (Nat.le_of_ble_eq_true rfl) rfl rfl rfl hW (fun r t1 h1 => ?_)
  obtain ⟨v, rfl, hP⟩ := h1
  dsimp only [hy_st, List.cons_append, List.nil_append]
  refine hy_pop (i := 287) (by decide +kernel) ?_
  refine hy_aload (i := 288) (k := 2) (by decide +kernel) rfl ?_
  refine law_ld 289 1 (by decide +kernel) (by omega) (by omega) ?_
  refine law_ld 294 2 (by decide +kernel) (by omega) (by omega) ?_
  refine hy_cV2 (i := 299) (j := 266) (by decide +kernel) mj_M_tried hdM rfl (Nat.le_of_ble_eq_true rfl) rfl rfl rfl (hM v t1 hP) (fun r t2 h2 => ?_)
  obtain ⟨v2, rfl, hR⟩ := h2
  dsimp only [hy_st, List.cons_append, List.nil_append]
  refine hy_pop (i := 300) (by decide +kernel) ?_
  exact hy_goto (i := 301) (tt := 982) (by decide +kernel) (fin t2 hR)
theorem law_c10 {P : Int → hy_T → Prop} {R : hy_T → Prop} {dW dM : Nat} (hdW : dW < d) (hdM : dM < d) (hi : i + 7 ≤ sc.length ∧ sc.length ≤ 90000) (hW : hy_Ct sc hm_W_treatyIs dW [.inr (some 2), .inl (sv sc (i + 1)), .inl (sv sc (i + 2))] t (fun r t1 => ∃ v : Int, r = some v ∧ P v t1)) (hM : ∀ (v : Int) (t1 : hy_T), P v t1 → hy_Ct sc hm_M_treatyIs dM [.inr (some 59), .inl (sv sc (i + 1)), .inl (sv sc (i + 2))] t1 (fun r t2 => ∃ v2 : Int, r = some v2 ∧ R t2)) (fin : ∀ t2, R t2 → hy_W sc hm_law d 982 [.inr (some 0), .inr (some 2), .inr (some 59), .inl (i : Int)] [] t2 Q) : hy_W sc hm_law d 302 [.inr (some 0), .inr (some 2), .inr (some 59), .inl (i : Int)] [] t Q := by
  refine hy_aload (i := 302) (k := 1) (by decide +kernel) rfl ?_
  refine law_ld 303 1 (by decide +kernel) (by omega) (by omega) ?_
  refine law_ld 308 2 (by decide +kernel) (by omega) (by omega) ?_
  refine hy_cV2 (i := 313) (j := 105) (by decide +kernel) mj_W_treatyIs hdW rfl (Nat.le_of_ble_eq_true rfl) rfl rfl rfl hW (fun r t1 h1 => ?_)
  obtain ⟨v, rfl, hP⟩ := h1
  dsimp only [hy_st, List.cons_append, List.nil_append]
  refine hy_pop (i := 314) (by decide +kernel) ?_
  refine hy_aload (i := 315) (k := 2) (by decide +kernel) rfl ?_
  refine law_ld 316 1 (by decide +kernel) (by omega) (by omega) ?_
  refine law_ld 321 2 (by decide +kernel) (by omega) (by omega) ?_
  refine hy_cV2 (i := 326) (j := 259) (by decide +kernel) mj_M_treatyIs hdM rfl (Nat.le_of_ble_eq_true rfl) rfl rfl rfl (hM v t1 hP) (fun r t2 h2 => ?_)
  obtain ⟨v2, rfl, hR⟩ := h2
  dsimp only [hy_st, List.cons_append, List.nil_append]
  refine hy_pop (i := 327) (by decide +kernel) ?_
  exact hy_goto (i := 328) (tt := 982) (by decide +kernel) (fin t2 hR)
theorem law_c11 {P : Int → hy_T → Prop} {R : hy_T → Prop} {dW dM : Nat} (hdW : dW < d) (hdM : dM < d) (hi : i + 7 ≤ sc.length ∧ sc.length ≤ 90000) (hW : hy_Ct sc hm_W_sees dW [.inr (some 2), .inl (sv sc (i + 1)), .inl (sv sc (i + 2)), .inl (sv sc (i + 3))] t (fun r t1 => ∃ v : Int, r = some v ∧ P v t1)) (hM : ∀ (v : Int) (t1 : hy_T), P v t1 → hy_Ct sc hm_M_sees dM [.inr (some 59), .inl (sv sc (i + 1)), .inl (sv sc (i + 2)), .inl (sv sc (i + 3))] t1 (fun r t2 => ∃ v2 : Int, r = some v2 ∧ R t2)) (fin : ∀ t2, R t2 → hy_W sc hm_law d 982 [.inr (some 0), .inr (some 2), .inr (some 59), .inl (i : Int)] [] t2 Q) : hy_W sc hm_law d 329 [.inr (some 0), .inr (some 2), .inr (some 59), .inl (i : Int)] [] t Q := by
  refine hy_aload (i := 329) (k := 1) (by decide +kernel) rfl ?_
  refine law_ld 330 1 (by decide +kernel) (by omega) (by omega) ?_
  refine law_ld 335 2 (by decide +kernel) (by omega) (by omega) ?_
  refine law_ld 340 3 (by decide +kernel) (by omega) (by omega) ?_
  refine hy_cV3 (i := 345) (j := 113) (by decide +kernel) mj_W_sees hdW rfl (Nat.le_of_ble_eq_true rfl) rfl rfl rfl hW (fun r t1 h1 => ?_)
  obtain ⟨v, rfl, hP⟩ := h1
  dsimp only [hy_st, List.cons_append, List.nil_append]
  refine hy_pop (i := 346) (by decide +kernel) ?_
  refine hy_aload (i := 347) (k := 2) (by decide +kernel) rfl ?_
  refine law_ld 348 1 (by decide +kernel) (by omega) (by omega) ?_
  refine law_ld 353 2 (by decide +kernel) (by omega) (by omega) ?_
  refine law_ld 358 3 (by decide +kernel) (by omega) (by omega) ?_
  refine hy_cV3 (i := 363) (j := 231) (by decide +kernel) mj_M_sees hdM rfl (Nat.le_of_ble_eq_true rfl) rfl rfl rfl (hM v t1 hP) (fun r t2 h2 => ?_)
  obtain ⟨v2, rfl, hR⟩ := h2
  dsimp only [hy_st, List.cons_append, List.nil_append]
  refine hy_pop (i := 364) (by decide +kernel) ?_
  exact hy_goto (i := 365) (tt := 982) (by decide +kernel) (fin t2 hR)
theorem law_c12 {P : Int → hy_T → Prop} {R : hy_T → Prop} {dW dM : Nat} (hdW : dW < d) (hdM : dM < d) (hi : i + 7 ≤ sc.length ∧ sc.length ≤ 90000) (hW : hy_Ct sc hm_W_appears dW [.inr (some 2), .inl (sv sc (i + 1)), .inl (sv sc (i + 2)), .inl (sv sc (i + 3))] t (fun r t1 => ∃ v : Int, r = some v ∧ P v t1)) (hM : ∀ (v : Int) (t1 : hy_T), P v t1 → hy_Ct sc hm_M_appears dM [.inr (some 59), .inl (sv sc (i + 1)), .inl (sv sc (i + 2)), .inl (sv sc (i + 3))] t1 (fun r t2 => ∃ v2 : Int, r = some v2 ∧ R t2)) (fin : ∀ t2, R t2 → hy_W sc hm_law d 982 [.inr (some 0), .inr (some 2), .inr (some 59), .inl (i : Int)] [] t2 Q) : hy_W sc hm_law d 366 [.inr (some 0), .inr (some 2), .inr (some 59), .inl (i : Int)] [] t Q := by
  refine hy_aload (i := 366) (k := 1) (by decide +kernel) rfl ?_
  refine law_ld 367 1 (by decide +kernel) (by omega) (by omega) ?_
  refine law_ld 372 2 (by decide +kernel) (by omega) (by omega) ?_
  refine law_ld 377 3 (by decide +kernel) (by omega) (by omega) ?_
  refine hy_cV3 (i := 382) (j := 122) (by decide +kernel) mj_W_appears hdW rfl (Nat.le_of_ble_eq_true rfl) rfl rfl rfl hW (fun r t1 h1 => ?_)
  obtain ⟨v, rfl, hP⟩ := h1
  dsimp only [hy_st, List.cons_append, List.nil_append]
  refine hy_pop (i := 383) (by decide +kernel) ?_
  refine hy_aload (i := 384) (k := 2) (by decide +kernel) rfl ?_
  refine law_ld 385 1 (by decide +kernel) (by omega) (by omega) ?_
  refine law_ld 390 2 (by decide +kernel) (by omega) (by omega) ?_
  refine law_ld 395 3 (by decide +kernel) (by omega) (by omega) ?_
  refine hy_cV3 (i := 400) (j := 241) (by decide +kernel) mj_M_appears hdM rfl (Nat.le_of_ble_eq_true rfl) rfl rfl rfl (hM v t1 hP) (fun r t2 h2 => ?_)
  obtain ⟨v2, rfl, hR⟩ := h2
  dsimp only [hy_st, List.cons_append, List.nil_append]
  refine hy_pop (i := 401) (by decide +kernel) ?_
  exact hy_goto (i := 402) (tt := 982) (by decide +kernel) (fin t2 hR)
theorem law_c13 {P : Int → hy_T → Prop} {R : hy_T → Prop} {dW dM : Nat} (hdW : dW < d) (hdM : dM < d) (hi : i + 7 ≤ sc.length ∧ sc.length ≤ 90000) (hW : hy_Ct sc hm_W_child dW [.inr (some 2), .inl (sv sc (i + 1)), .inl (sv sc (i + 2)), .inl (sv sc (i + 3)), .inl (sv sc (i + 4))] t (fun r t1 => ∃ v : Int, r = some v ∧ P v t1)) (hM : ∀ (v : Int) (t1 : hy_T), P v t1 → hy_Ct sc hm_M_child dM [.inr (some 59), .inl (sv sc (i + 1)), .inl (sv sc (i + 2)), .inl (sv sc (i + 3)), .inl (sv sc (i + 4))] t1 (fun r t2 => ∃ v2 : Int, r = some v2 ∧ R t2)) (fin : ∀ t2, R t2 → hy_W sc hm_law d 982 [.inr (some 0), .inr (some 2), .inr (some 59), .inl (i : Int)] [] t2 Q) : hy_W sc hm_law d 403 [.inr (some 0), .inr (some 2), .inr (some 59), .inl (i : Int)] [] t Q := by
  refine hy_aload (i := 403) (k := 1) (by decide +kernel) rfl ?_
  refine law_ld 404 1 (by decide +kernel) (by omega) (by omega) ?_
  refine law_ld 409 2 (by decide +kernel) (by omega) (by omega) ?_
  refine law_ld 414 3 (by decide +kernel) (by omega) (by omega) ?_
  refine law_ld 419 4 (by decide +kernel) (by omega) (by omega) ?_
  refine hy_cV4 (i := 424) (j := 125) (by decide +kernel) mj_W_child hdW rfl (Nat.le_of_ble_eq_true rfl) rfl rfl rfl hW (fun r t1 h1 => ?_)
  obtain ⟨v, rfl, hP⟩ := h1
  dsimp only [hy_st, List.cons_append, List.nil_append]
  refine hy_pop (i := 425) (by decide +kernel) ?_
  refine hy_aload (i := 426) (k := 2) (by decide +kernel) rfl ?_
  refine law_ld 427 1 (by decide +kernel) (by omega) (by omega) ?_
  refine law_ld 432 2 (by decide +kernel) (by omega) (by omega) ?_
  refine law_ld 437 3 (by decide +kernel) (by omega) (by omega) ?_
  refine law_ld 442 4 (by decide +kernel) (by omega) (by omega) ?_
  refine hy_cV4 (i := 447) (j := 243) (by decide +kernel) mj_M_child hdM rfl (Nat.le_of_ble_eq_true rfl) rfl rfl rfl (hM v t1 hP) (fun r t2 h2 => ?_)
  obtain ⟨v2, rfl, hR⟩ := h2
  dsimp only [hy_st, List.cons_append, List.nil_append]
  refine hy_pop (i := 448) (by decide +kernel) ?_
  exact hy_goto (i := 449) (tt := 982) (by decide +kernel) (fin t2 hR)
theorem law_c14 {P : Int → hy_T → Prop} {R : hy_T → Prop} {dW dM : Nat} (hdW : dW < d) (hdM : dM < d) (hi : i + 7 ≤ sc.length ∧ sc.length ≤ 90000) (hW : hy_Ct sc hm_W_unseen dW [.inr (some 2), .inl (sv sc (i + 1)), .inl (sv sc (i + 2)), .inl (sv sc (i + 3)), .inl (sv sc (i + 4)), .inl (sv sc (i + 5))] t (fun r t1 => ∃ v : Int, r = some v ∧ P v t1)) (hM : ∀ (v : Int) (t1 : hy_T), P v t1 → hy_Ct sc hm_M_unseen dM [.inr (some 59), .inl (sv sc (i + 1)), .inl (sv sc (i + 2)), .inl (sv sc (i + 3)), .inl (sv sc (i + 4)), .inl (sv sc (i + 5))] t1 (fun r t2 => ∃ v2 : Int, r = some v2 ∧ R t2)) (fin : ∀ t2, R t2 → hy_W sc hm_law d 982 [.inr (some 0), .inr (some 2), .inr (some 59), .inl (i : Int)] [] t2 Q) : hy_W sc hm_law d 450 [.inr (some 0), .inr (some 2), .inr (some 59), .inl (i : Int)] [] t Q := by
  refine hy_aload (i := 450) (k := 1) (by decide +kernel) rfl ?_
  refine law_ld 451 1 (by decide +kernel) (by omega) (by omega) ?_
  refine law_ld 456 2 (by decide +kernel) (by omega) (by omega) ?_
  refine law_ld 461 3 (by decide +kernel) (by omega) (by omega) ?_
  refine law_ld 466 4 (by decide +kernel) (by omega) (by omega) ?_
  refine law_ld 471 5 (by decide +kernel) (by omega) (by omega) ?_
  refine hy_cV5 (i := 476) (j := 127) (by decide +kernel) mj_W_unseen hdW rfl (Nat.le_of_ble_eq_true rfl) rfl rfl rfl hW (fun r t1 h1 => ?_)
  obtain ⟨v, rfl, hP⟩ := h1
  dsimp only [hy_st, List.cons_append, List.nil_append]
  refine hy_pop (i := 477) (by decide +kernel) ?_
  refine hy_aload (i := 478) (k := 2) (by decide +kernel) rfl ?_
  refine law_ld 479 1 (by decide +kernel) (by omega) (by omega) ?_
  refine law_ld 484 2 (by decide +kernel) (by omega) (by omega) ?_
  refine law_ld 489 3 (by decide +kernel) (by omega) (by omega) ?_
  refine law_ld 494 4 (by decide +kernel) (by omega) (by omega) ?_
  refine law_ld 499 5 (by decide +kernel) (by omega) (by omega) ?_
  refine hy_cV5 (i := 504) (j := 270) (by decide +kernel) mj_M_unseen hdM rfl (Nat.le_of_ble_eq_true rfl) rfl rfl rfl (hM v t1 hP) (fun r t2 h2 => ?_)
  obtain ⟨v2, rfl, hR⟩ := h2
  dsimp only [hy_st, List.cons_append, List.nil_append]
  refine hy_pop (i := 505) (by decide +kernel) ?_
  exact hy_goto (i := 506) (tt := 982) (by decide +kernel) (fin t2 hR)
theorem law_c15 {P : Int → hy_T → Prop} {R : hy_T → Prop} {dW dM : Nat} (hdW : dW < d) (hdM : dM < d) (hi : i + 7 ≤ sc.length ∧ sc.length ≤ 90000) (hW : hy_Ct sc hm_W_way dW [.inr (some 2), .inl (sv sc (i + 1)), .inl (sv sc (i + 2)), .inl (sv sc (i + 3)), .inl (sv sc (i + 4)), .inl (sv sc (i + 5)), .inl (sv sc (i + 6))] t (fun r t1 => ∃ v : Int, r = some v ∧ P v t1)) (hM : ∀ (v : Int) (t1 : hy_T), P v t1 → hy_Ct sc hm_M_way dM [.inr (some 59), .inl (sv sc (i + 1)), .inl (sv sc (i + 2)), .inl (sv sc (i + 3)), .inl (sv sc (i + 4)), .inl (sv sc (i + 5)), .inl (sv sc (i + 6))] t1 (fun r t2 => ∃ v2 : Int, r = some v2 ∧ R t2)) (fin : ∀ t2, R t2 → hy_W sc hm_law d 982 [.inr (some 0), .inr (some 2), .inr (some 59), .inl (i : Int)] [] t2 Q) : hy_W sc hm_law d 507 [.inr (some 0), .inr (some 2), .inr (some 59), .inl (i : Int)] [] t Q := by
  refine hy_aload (i := 507) (k := 1) (by decide +kernel) rfl ?_
  refine law_ld 508 1 (by decide +kernel) (by omega) (by omega) ?_
  refine law_ld 513 2 (by decide +kernel) (by omega) (by omega) ?_
  refine law_ld 518 3 (by decide +kernel) (by omega) (by omega) ?_
  refine law_ld 523 4 (by decide +kernel) (by omega) (by omega) ?_
  refine law_ld 528 5 (by decide +kernel) (by omega) (by omega) ?_
  refine law_ld 533 6 (by decide +kernel) (by omega) (by omega) ?_
  refine hy_cV6 (i := 538) (j := 130) (by decide +kernel) mj_W_way hdW rfl (Nat.le_of_ble_eq_true rfl) rfl rfl rfl hW (fun r t1 h1 => ?_)
  obtain ⟨v, rfl, hP⟩ := h1
  dsimp only [hy_st, List.cons_append, List.nil_append]
  refine hy_pop (i := 539) (by decide +kernel) ?_
  refine hy_aload (i := 540) (k := 2) (by decide +kernel) rfl ?_
  refine law_ld 541 1 (by decide +kernel) (by omega) (by omega) ?_
  refine law_ld 546 2 (by decide +kernel) (by omega) (by omega) ?_
  refine law_ld 551 3 (by decide +kernel) (by omega) (by omega) ?_
  refine law_ld 556 4 (by decide +kernel) (by omega) (by omega) ?_
  refine law_ld 561 5 (by decide +kernel) (by omega) (by omega) ?_
  refine law_ld 566 6 (by decide +kernel) (by omega) (by omega) ?_
  refine hy_cV6 (i := 571) (j := 272) (by decide +kernel) mj_M_way hdM rfl (Nat.le_of_ble_eq_true rfl) rfl rfl rfl (hM v t1 hP) (fun r t2 h2 => ?_)
  obtain ⟨v2, rfl, hR⟩ := h2
  dsimp only [hy_st, List.cons_append, List.nil_append]
  refine hy_pop (i := 572) (by decide +kernel) ?_
  exact hy_goto (i := 573) (tt := 982) (by decide +kernel) (fin t2 hR)
theorem law_c16 {P : Int → hy_T → Prop} {R : hy_T → Prop} {dW dM : Nat} (hdW : dW < d) (hdM : dM < d) (hi : i + 7 ≤ sc.length ∧ sc.length ≤ 90000) (hW : hy_Ct sc hm_W_worth dW [.inr (some 2), .inl (sv sc (i + 1)), .inl (sv sc (i + 2))] t (fun r t1 => ∃ v : Int, r = some v ∧ P v t1)) (hM : ∀ (v : Int) (t1 : hy_T), P v t1 → hy_Ct sc hm_M_worth dM [.inr (some 59), .inl (sv sc (i + 1)), .inl (sv sc (i + 2))] t1 (fun r t2 => ∃ v2 : Int, r = some v2 ∧ R t2)) (fin : ∀ t2, R t2 → hy_W sc hm_law d 982 [.inr (some 0), .inr (some 2), .inr (some 59), .inl (i : Int)] [] t2 Q) : hy_W sc hm_law d 574 [.inr (some 0), .inr (some 2), .inr (some 59), .inl (i : Int)] [] t Q := by
  refine hy_aload (i := 574) (k := 1) (by decide +kernel) rfl ?_
  refine law_ld 575 1 (by decide +kernel) (by omega) (by omega) ?_
  refine law_ld 580 2 (by decide +kernel) (by omega) (by omega) ?_
  refine hy_cV2 (i := 585) (j := 147) (by decide +kernel) mj_W_worth hdW rfl (Nat.le_of_ble_eq_true rfl) rfl rfl rfl hW (fun r t1 h1 => ?_)
  obtain ⟨v, rfl, hP⟩ := h1
  dsimp only [hy_st, List.cons_append, List.nil_append]
  refine hy_pop (i := 586) (by decide +kernel) ?_
  refine hy_aload (i := 587) (k := 2) (by decide +kernel) rfl ?_
  refine law_ld 588 1 (by decide +kernel) (by omega) (by omega) ?_
  refine law_ld 593 2 (by decide +kernel) (by omega) (by omega) ?_
  refine hy_cV2 (i := 598) (j := 275) (by decide +kernel) mj_M_worth hdM rfl (Nat.le_of_ble_eq_true rfl) rfl rfl rfl (hM v t1 hP) (fun r t2 h2 => ?_)
  obtain ⟨v2, rfl, hR⟩ := h2
  dsimp only [hy_st, List.cons_append, List.nil_append]
  refine hy_pop (i := 599) (by decide +kernel) ?_
  exact hy_goto (i := 600) (tt := 982) (by decide +kernel) (fin t2 hR)
theorem law_c17 {P : Int → hy_T → Prop} {R : hy_T → Prop} {dW dM : Nat} (hdW : dW < d) (hdM : dM < d) (hi : i + 7 ≤ sc.length ∧ sc.length ≤ 90000) (hW : hy_Ct sc hm_W_gain dW [.inr (some 2), .inl (sv sc (i + 1)), .inl (sv sc (i + 2)), .inl (sv sc (i + 3))] t (fun r t1 => ∃ v : Int, r = some v ∧ P v t1)) (hM : ∀ (v : Int) (t1 : hy_T), P v t1 → hy_Ct sc hm_M_gain dM [.inr (some 59), .inl (sv sc (i + 1)), .inl (sv sc (i + 2)), .inl (sv sc (i + 3))] t1 (fun r t2 => ∃ v2 : Int, r = some v2 ∧ R t2)) (fin : ∀ t2, R t2 → hy_W sc hm_law d 982 [.inr (some 0), .inr (some 2), .inr (some 59), .inl (i : Int)] [] t2 Q) : hy_W sc hm_law d 601 [.inr (some 0), .inr (some 2), .inr (some 59), .inl (i : Int)] [] t Q := by
  refine hy_aload (i := 601) (k := 1) (by decide +kernel) rfl ?_
  refine law_ld 602 1 (by decide +kernel) (by omega) (by omega) ?_
  refine law_ld 607 2 (by decide +kernel) (by omega) (by omega) ?_
  refine law_ld 612 3 (by decide +kernel) (by omega) (by omega) ?_
  refine hy_cV3 (i := 617) (j := 153) (by decide +kernel) mj_W_gain hdW rfl (Nat.le_of_ble_eq_true rfl) rfl rfl rfl hW (fun r t1 h1 => ?_)
  obtain ⟨v, rfl, hP⟩ := h1
  dsimp only [hy_st, List.cons_append, List.nil_append]
  refine hy_pop (i := 618) (by decide +kernel) ?_
  refine hy_aload (i := 619) (k := 2) (by decide +kernel) rfl ?_
  refine law_ld 620 1 (by decide +kernel) (by omega) (by omega) ?_
  refine law_ld 625 2 (by decide +kernel) (by omega) (by omega) ?_
  refine law_ld 630 3 (by decide +kernel) (by omega) (by omega) ?_
  refine hy_cV3 (i := 635) (j := 278) (by decide +kernel) mj_M_gain hdM rfl (Nat.le_of_ble_eq_true rfl) rfl rfl rfl (hM v t1 hP) (fun r t2 h2 => ?_)
  obtain ⟨v2, rfl, hR⟩ := h2
  dsimp only [hy_st, List.cons_append, List.nil_append]
  refine hy_pop (i := 636) (by decide +kernel) ?_
  exact hy_goto (i := 637) (tt := 982) (by decide +kernel) (fin t2 hR)
theorem law_c18 {P : Int → hy_T → Prop} {R : hy_T → Prop} {dW dM : Nat} (hdW : dW < d) (hdM : dM < d) (hi : i + 7 ≤ sc.length ∧ sc.length ≤ 90000) (hW : hy_Ct sc hm_W_power dW [.inr (some 2), .inl (sv sc (i + 1)), .inl (sv sc (i + 2)), .inl (sv sc (i + 3)), .inl (sv sc (i + 4)), .inl (sv sc (i + 5))] t (fun r t1 => ∃ v : Int, r = some v ∧ P v t1)) (hM : ∀ (v : Int) (t1 : hy_T), P v t1 → hy_Ct sc hm_M_power dM [.inr (some 59), .inl (sv sc (i + 1)), .inl (sv sc (i + 2)), .inl (sv sc (i + 3)), .inl (sv sc (i + 4)), .inl (sv sc (i + 5))] t1 (fun r t2 => ∃ v2 : Int, r = some v2 ∧ R t2)) (fin : ∀ t2, R t2 → hy_W sc hm_law d 982 [.inr (some 0), .inr (some 2), .inr (some 59), .inl (i : Int)] [] t2 Q) : hy_W sc hm_law d 638 [.inr (some 0), .inr (some 2), .inr (some 59), .inl (i : Int)] [] t Q := by
  refine hy_aload (i := 638) (k := 1) (by decide +kernel) rfl ?_
  refine law_ld 639 1 (by decide +kernel) (by omega) (by omega) ?_
  refine law_ld 644 2 (by decide +kernel) (by omega) (by omega) ?_
  refine law_ld 649 3 (by decide +kernel) (by omega) (by omega) ?_
  refine law_ld 654 4 (by decide +kernel) (by omega) (by omega) ?_
  refine law_ld 659 5 (by decide +kernel) (by omega) (by omega) ?_
  refine hy_cV5 (i := 664) (j := 154) (by decide +kernel) mj_W_power hdW rfl (Nat.le_of_ble_eq_true rfl) rfl rfl rfl hW (fun r t1 h1 => ?_)
  obtain ⟨v, rfl, hP⟩ := h1
  dsimp only [hy_st, List.cons_append, List.nil_append]
  refine hy_pop (i := 665) (by decide +kernel) ?_
  refine hy_aload (i := 666) (k := 2) (by decide +kernel) rfl ?_
  refine law_ld 667 1 (by decide +kernel) (by omega) (by omega) ?_
  refine law_ld 672 2 (by decide +kernel) (by omega) (by omega) ?_
  refine law_ld 677 3 (by decide +kernel) (by omega) (by omega) ?_
  refine law_ld 682 4 (by decide +kernel) (by omega) (by omega) ?_
  refine law_ld 687 5 (by decide +kernel) (by omega) (by omega) ?_
  refine hy_cV5 (i := 692) (j := 279) (by decide +kernel) mj_M_power hdM rfl (Nat.le_of_ble_eq_true rfl) rfl rfl rfl (hM v t1 hP) (fun r t2 h2 => ?_)
  obtain ⟨v2, rfl, hR⟩ := h2
  dsimp only [hy_st, List.cons_append, List.nil_append]
  refine hy_pop (i := 693) (by decide +kernel) ?_
  exact hy_goto (i := 694) (tt := 982) (by decide +kernel) (fin t2 hR)
theorem law_c19 {P : Int → hy_T → Prop} {R : hy_T → Prop} {dW dM : Nat} (hdW : dW < d) (hdM : dM < d) (hi : i + 7 ≤ sc.length ∧ sc.length ≤ 90000) (hW : hy_Ct sc hm_W_signals dW [.inr (some 2), .inl (sv sc (i + 1)), .inl (sv sc (i + 2)), .inl (sv sc (i + 3)), .inl (sv sc (i + 4)), .inl (sv sc (i + 5))] t (fun r t1 => ∃ v : Int, r = some v ∧ P v t1)) (hM : ∀ (v : Int) (t1 : hy_T), P v t1 → hy_Ct sc hm_M_signals dM [.inr (some 59), .inl (sv sc (i + 1)), .inl (sv sc (i + 2)), .inl (sv sc (i + 3)), .inl (sv sc (i + 4)), .inl (sv sc (i + 5))] t1 (fun r t2 => ∃ v2 : Int, r = some v2 ∧ R t2)) (fin : ∀ t2, R t2 → hy_W sc hm_law d 982 [.inr (some 0), .inr (some 2), .inr (some 59), .inl (i : Int)] [] t2 Q) : hy_W sc hm_law d 695 [.inr (some 0), .inr (some 2), .inr (some 59), .inl (i : Int)] [] t Q := by
  refine hy_aload (i := 695) (k := 1) (by decide +kernel) rfl ?_
  refine law_ld 696 1 (by decide +kernel) (by omega) (by omega) ?_
  refine law_ld 701 2 (by decide +kernel) (by omega) (by omega) ?_
  refine law_ld 706 3 (by decide +kernel) (by omega) (by omega) ?_
  refine law_ld 711 4 (by decide +kernel) (by omega) (by omega) ?_
  refine law_ld 716 5 (by decide +kernel) (by omega) (by omega) ?_
  refine hy_cV5 (i := 721) (j := 170) (by decide +kernel) mj_W_signals hdW rfl (Nat.le_of_ble_eq_true rfl) rfl rfl rfl hW (fun r t1 h1 => ?_)
  obtain ⟨v, rfl, hP⟩ := h1
  dsimp only [hy_st, List.cons_append, List.nil_append]
  refine hy_pop (i := 722) (by decide +kernel) ?_
  refine hy_aload (i := 723) (k := 2) (by decide +kernel) rfl ?_
  refine law_ld 724 1 (by decide +kernel) (by omega) (by omega) ?_
  refine law_ld 729 2 (by decide +kernel) (by omega) (by omega) ?_
  refine law_ld 734 3 (by decide +kernel) (by omega) (by omega) ?_
  refine law_ld 739 4 (by decide +kernel) (by omega) (by omega) ?_
  refine law_ld 744 5 (by decide +kernel) (by omega) (by omega) ?_
  refine hy_cV5 (i := 749) (j := 283) (by decide +kernel) mj_M_signals hdM rfl (Nat.le_of_ble_eq_true rfl) rfl rfl rfl (hM v t1 hP) (fun r t2 h2 => ?_)
  obtain ⟨v2, rfl, hR⟩ := h2
  dsimp only [hy_st, List.cons_append, List.nil_append]
  refine hy_pop (i := 750) (by decide +kernel) ?_
  exact hy_goto (i := 751) (tt := 982) (by decide +kernel) (fin t2 hR)
theorem law_c20 {P : Int → hy_T → Prop} {R : hy_T → Prop} {dW dM : Nat} (hdW : dW < d) (hdM : dM < d) (hi : i + 7 ≤ sc.length ∧ sc.length ≤ 90000) (hW : hy_Ct sc hm_W_parted dW [.inr (some 2), .inl (sv sc (i + 1)), .inl (sv sc (i + 2))] t (fun r t1 => ∃ v : Int, r = some v ∧ P v t1)) (hM : ∀ (v : Int) (t1 : hy_T), P v t1 → hy_Ct sc hm_M_parted dM [.inr (some 59), .inl (sv sc (i + 1)), .inl (sv sc (i + 2))] t1 (fun r t2 => ∃ v2 : Int, r = some v2 ∧ R t2)) (fin : ∀ t2, R t2 → hy_W sc hm_law d 982 [.inr (some 0), .inr (some 2), .inr (some 59), .inl (i : Int)] [] t2 Q) : hy_W sc hm_law d 752 [.inr (some 0), .inr (some 2), .inr (some 59), .inl (i : Int)] [] t Q := by
  refine hy_aload (i := 752) (k := 1) (by decide +kernel) rfl ?_
  refine law_ld 753 1 (by decide +kernel) (by omega) (by omega) ?_
  refine law_ld 758 2 (by decide +kernel) (by omega) (by omega) ?_
  refine hy_cV2 (i := 763) (j := 179) (by decide +kernel) mj_W_parted hdW rfl (Nat.le_of_ble_eq_true rfl) rfl rfl rfl hW (fun r t1 h1 => ?_)
  obtain ⟨v, rfl, hP⟩ := h1
  dsimp only [hy_st, List.cons_append, List.nil_append]
  refine hy_pop (i := 764) (by decide +kernel) ?_
  refine hy_aload (i := 765) (k := 2) (by decide +kernel) rfl ?_
  refine law_ld 766 1 (by decide +kernel) (by omega) (by omega) ?_
  refine law_ld 771 2 (by decide +kernel) (by omega) (by omega) ?_
  refine hy_cV2 (i := 776) (j := 289) (by decide +kernel) mj_M_parted hdM rfl (Nat.le_of_ble_eq_true rfl) rfl rfl rfl (hM v t1 hP) (fun r t2 h2 => ?_)
  obtain ⟨v2, rfl, hR⟩ := h2
  dsimp only [hy_st, List.cons_append, List.nil_append]
  refine hy_pop (i := 777) (by decide +kernel) ?_
  exact hy_goto (i := 778) (tt := 982) (by decide +kernel) (fin t2 hR)
theorem law_c21 {P : Int → hy_T → Prop} {R : hy_T → Prop} {dW dM : Nat} (hdW : dW < d) (hdM : dM < d) (hi : i + 7 ≤ sc.length ∧ sc.length ≤ 90000) (hW : hy_Ct sc hm_W_battle dW [.inr (some 2), .inl (sv sc (i + 1)), .inl (sv sc (i + 2)), .inl (sv sc (i + 3)), .inl (sv sc (i + 4))] t (fun r t1 => ∃ v : Int, r = some v ∧ P v t1)) (hM : ∀ (v : Int) (t1 : hy_T), P v t1 → hy_Ct sc hm_M_battle dM [.inr (some 59), .inl (sv sc (i + 1)), .inl (sv sc (i + 2)), .inl (sv sc (i + 3)), .inl (sv sc (i + 4))] t1 (fun r t2 => ∃ v2 : Int, r = some v2 ∧ R t2)) (fin : ∀ t2, R t2 → hy_W sc hm_law d 982 [.inr (some 0), .inr (some 2), .inr (some 59), .inl (i : Int)] [] t2 Q) : hy_W sc hm_law d 779 [.inr (some 0), .inr (some 2), .inr (some 59), .inl (i : Int)] [] t Q := by
  refine hy_aload (i := 779) (k := 1) (by decide +kernel) rfl ?_
  refine law_ld 780 1 (by decide +kernel) (by omega) (by omega) ?_
  refine law_ld 785 2 (by decide +kernel) (by omega) (by omega) ?_
  refine law_ld 790 3 (by decide +kernel) (by omega) (by omega) ?_
  refine law_ld 795 4 (by decide +kernel) (by omega) (by omega) ?_
  refine hy_cV4 (i := 800) (j := 159) (by decide +kernel) mj_W_battle hdW rfl (Nat.le_of_ble_eq_true rfl) rfl rfl rfl hW (fun r t1 h1 => ?_)
  obtain ⟨v, rfl, hP⟩ := h1
  dsimp only [hy_st, List.cons_append, List.nil_append]
  refine hy_pop (i := 801) (by decide +kernel) ?_
  refine hy_aload (i := 802) (k := 2) (by decide +kernel) rfl ?_
  refine law_ld 803 1 (by decide +kernel) (by omega) (by omega) ?_
  refine law_ld 808 2 (by decide +kernel) (by omega) (by omega) ?_
  refine law_ld 813 3 (by decide +kernel) (by omega) (by omega) ?_
  refine law_ld 818 4 (by decide +kernel) (by omega) (by omega) ?_
  refine hy_cV4 (i := 823) (j := 293) (by decide +kernel) mj_M_battle hdM rfl (Nat.le_of_ble_eq_true rfl) rfl rfl rfl (hM v t1 hP) (fun r t2 h2 => ?_)
  obtain ⟨v2, rfl, hR⟩ := h2
  dsimp only [hy_st, List.cons_append, List.nil_append]
  refine hy_pop (i := 824) (by decide +kernel) ?_
  exact hy_goto (i := 825) (tt := 982) (by decide +kernel) (fin t2 hR)
theorem law_c22 {P : Int → hy_T → Prop} {R : hy_T → Prop} {dW dM : Nat} (hdW : dW < d) (hdM : dM < d) (hi : i + 7 ≤ sc.length ∧ sc.length ≤ 90000) (hW : hy_Ct sc hm_W_spies dW [.inr (some 2), .inl (sv sc (i + 1)), .inl (sv sc (i + 2))] t (fun r t1 => ∃ v : Int, r = some v ∧ P v t1)) (hM : ∀ (v : Int) (t1 : hy_T), P v t1 → hy_Ct sc hm_M_spies dM [.inr (some 59), .inl (sv sc (i + 1)), .inl (sv sc (i + 2))] t1 (fun r t2 => ∃ v2 : Int, r = some v2 ∧ R t2)) (fin : ∀ t2, R t2 → hy_W sc hm_law d 982 [.inr (some 0), .inr (some 2), .inr (some 59), .inl (i : Int)] [] t2 Q) : hy_W sc hm_law d 826 [.inr (some 0), .inr (some 2), .inr (some 59), .inl (i : Int)] [] t Q := by
  refine hy_aload (i := 826) (k := 1) (by decide +kernel) rfl ?_
  refine law_ld 827 1 (by decide +kernel) (by omega) (by omega) ?_
  refine law_ld 832 2 (by decide +kernel) (by omega) (by omega) ?_
  refine hy_cV2 (i := 837) (j := 187) (by decide +kernel) mj_W_spies hdW rfl (Nat.le_of_ble_eq_true rfl) rfl rfl rfl hW (fun r t1 h1 => ?_)
  obtain ⟨v, rfl, hP⟩ := h1
  dsimp only [hy_st, List.cons_append, List.nil_append]
  refine hy_pop (i := 838) (by decide +kernel) ?_
  refine hy_aload (i := 839) (k := 2) (by decide +kernel) rfl ?_
  refine law_ld 840 1 (by decide +kernel) (by omega) (by omega) ?_
  refine law_ld 845 2 (by decide +kernel) (by omega) (by omega) ?_
  refine hy_cV2 (i := 850) (j := 297) (by decide +kernel) mj_M_spies hdM rfl (Nat.le_of_ble_eq_true rfl) rfl rfl rfl (hM v t1 hP) (fun r t2 h2 => ?_)
  obtain ⟨v2, rfl, hR⟩ := h2
  dsimp only [hy_st, List.cons_append, List.nil_append]
  refine hy_pop (i := 851) (by decide +kernel) ?_
  exact hy_goto (i := 852) (tt := 982) (by decide +kernel) (fin t2 hR)
theorem law_c23 {P : Int → hy_T → Prop} {R : hy_T → Prop} {dW dM : Nat} (hdW : dW < d) (hdM : dM < d) (hi : i + 7 ≤ sc.length ∧ sc.length ≤ 90000) (hW : hy_Ct sc hm_W_painting dW [.inr (some 2), .inl (sv sc (i + 1)), .inl (sv sc (i + 2))] t (fun r t1 => ∃ v : Int, r = some v ∧ P v t1)) (hM : ∀ (v : Int) (t1 : hy_T), P v t1 → hy_Ct sc hm_M_painting dM [.inr (some 59), .inl (sv sc (i + 1)), .inl (sv sc (i + 2))] t1 (fun r t2 => ∃ v2 : Int, r = some v2 ∧ R t2)) (fin : ∀ t2, R t2 → hy_W sc hm_law d 982 [.inr (some 0), .inr (some 2), .inr (some 59), .inl (i : Int)] [] t2 Q) : hy_W sc hm_law d 853 [.inr (some 0), .inr (some 2), .inr (some 59), .inl (i : Int)] [] t Q := by
  refine hy_aload (i := 853) (k := 1) (by decide +kernel) rfl ?_
  refine law_ld 854 1 (by decide +kernel) (by omega) (by omega) ?_
  refine law_ld 859 2 (by decide +kernel) (by omega) (by omega) ?_
  refine hy_cV2 (i := 864) (j := 139) (by decide +kernel) mj_W_painting hdW rfl (Nat.le_of_ble_eq_true rfl) rfl rfl rfl hW (fun r t1 h1 => ?_)
  obtain ⟨v, rfl, hP⟩ := h1
  dsimp only [hy_st, List.cons_append, List.nil_append]
  refine hy_pop (i := 865) (by decide +kernel) ?_
  refine hy_aload (i := 866) (k := 2) (by decide +kernel) rfl ?_
  refine law_ld 867 1 (by decide +kernel) (by omega) (by omega) ?_
  refine law_ld 872 2 (by decide +kernel) (by omega) (by omega) ?_
  refine hy_cV2 (i := 877) (j := 302) (by decide +kernel) mj_M_painting hdM rfl (Nat.le_of_ble_eq_true rfl) rfl rfl rfl (hM v t1 hP) (fun r t2 h2 => ?_)
  obtain ⟨v2, rfl, hR⟩ := h2
  dsimp only [hy_st, List.cons_append, List.nil_append]
  refine hy_pop (i := 878) (by decide +kernel) ?_
  exact hy_goto (i := 879) (tt := 982) (by decide +kernel) (fin t2 hR)
theorem law_c24 {P : Int → hy_T → Prop} {R : hy_T → Prop} {dW dM : Nat} (hdW : dW < d) (hdM : dM < d) (hi : i + 7 ≤ sc.length ∧ sc.length ≤ 90000) (hW : hy_Ct sc hm_W_ash dW [.inr (some 2), .inl (sv sc (i + 1)), .inl (sv sc (i + 2)), .inl (sv sc (i + 3))] t (fun r t1 => ∃ v : Int, r = some v ∧ P v t1)) (hM : ∀ (v : Int) (t1 : hy_T), P v t1 → hy_Ct sc hm_M_ash dM [.inr (some 59), .inl (sv sc (i + 1)), .inl (sv sc (i + 2)), .inl (sv sc (i + 3))] t1 (fun r t2 => ∃ v2 : Int, r = some v2 ∧ R t2)) (fin : ∀ t2, R t2 → hy_W sc hm_law d 982 [.inr (some 0), .inr (some 2), .inr (some 59), .inl (i : Int)] [] t2 Q) : hy_W sc hm_law d 880 [.inr (some 0), .inr (some 2), .inr (some 59), .inl (i : Int)] [] t Q := by
  refine hy_aload (i := 880) (k := 1) (by decide +kernel) rfl ?_
  refine law_ld 881 1 (by decide +kernel) (by omega) (by omega) ?_
  refine law_ld 886 2 (by decide +kernel) (by omega) (by omega) ?_
  refine law_ld 891 3 (by decide +kernel) (by omega) (by omega) ?_
  refine hy_cV3 (i := 896) (j := 141) (by decide +kernel) mj_W_ash hdW rfl (Nat.le_of_ble_eq_true rfl) rfl rfl rfl hW (fun r t1 h1 => ?_)
  obtain ⟨v, rfl, hP⟩ := h1
  dsimp only [hy_st, List.cons_append, List.nil_append]
  refine hy_pop (i := 897) (by decide +kernel) ?_
  refine hy_aload (i := 898) (k := 2) (by decide +kernel) rfl ?_
  refine law_ld 899 1 (by decide +kernel) (by omega) (by omega) ?_
  refine law_ld 904 2 (by decide +kernel) (by omega) (by omega) ?_
  refine law_ld 909 3 (by decide +kernel) (by omega) (by omega) ?_
  refine hy_cV3 (i := 914) (j := 303) (by decide +kernel) mj_M_ash hdM rfl (Nat.le_of_ble_eq_true rfl) rfl rfl rfl (hM v t1 hP) (fun r t2 h2 => ?_)
  obtain ⟨v2, rfl, hR⟩ := h2
  dsimp only [hy_st, List.cons_append, List.nil_append]
  refine hy_pop (i := 915) (by decide +kernel) ?_
  exact hy_goto (i := 916) (tt := 982) (by decide +kernel) (fin t2 hR)
theorem law_c25 {P : Int → hy_T → Prop} {R : hy_T → Prop} {dW dM : Nat} (hdW : dW < d) (hdM : dM < d) (hi : i + 7 ≤ sc.length ∧ sc.length ≤ 90000) (hW : hy_Ct sc hm_W_seed dW [.inr (some 2), .inl (sv sc (i + 1))] t (fun r t1 => ∃ v : Int, r = some v ∧ P v t1)) (hM : ∀ (v : Int) (t1 : hy_T), P v t1 → hy_Ct sc hm_M_seed dM [.inr (some 59), .inl (sv sc (i + 1))] t1 (fun r t2 => ∃ v2 : Int, r = some v2 ∧ R t2)) (fin : ∀ t2, R t2 → hy_W sc hm_law d 982 [.inr (some 0), .inr (some 2), .inr (some 59), .inl (i : Int)] [] t2 Q) : hy_W sc hm_law d 917 [.inr (some 0), .inr (some 2), .inr (some 59), .inl (i : Int)] [] t Q := by
  refine hy_aload (i := 917) (k := 1) (by decide +kernel) rfl ?_
  refine law_ld 918 1 (by decide +kernel) (by omega) (by omega) ?_
  refine hy_cV1 (i := 923) (j := 83) (by decide +kernel) mj_W_seed hdW rfl (Nat.le_of_ble_eq_true rfl) rfl rfl rfl hW (fun r t1 h1 => ?_)
  obtain ⟨v, rfl, hP⟩ := h1
  dsimp only [hy_st, List.cons_append, List.nil_append]
  refine hy_pop (i := 924) (by decide +kernel) ?_
  refine hy_aload (i := 925) (k := 2) (by decide +kernel) rfl ?_
  refine law_ld 926 1 (by decide +kernel) (by omega) (by omega) ?_
  refine hy_cV1 (i := 931) (j := 306) (by decide +kernel) mj_M_seed hdM rfl (Nat.le_of_ble_eq_true rfl) rfl rfl rfl (hM v t1 hP) (fun r t2 h2 => ?_)
  obtain ⟨v2, rfl, hR⟩ := h2
  dsimp only [hy_st, List.cons_append, List.nil_append]
  refine hy_pop (i := 932) (by decide +kernel) ?_
  exact hy_goto (i := 933) (tt := 982) (by decide +kernel) (fin t2 hR)
theorem law_c26 {P : Int → hy_T → Prop} {R : hy_T → Prop} {dW dM : Nat} (hdW : dW < d) (hdM : dM < d) (hi : i + 7 ≤ sc.length ∧ sc.length ≤ 90000) (hW : hy_Ct sc hm_W_keep dW [.inr (some 2)] t (fun r t1 => ∃ v : Int, r = some v ∧ P v t1)) (hM : ∀ (v : Int) (t1 : hy_T), P v t1 → hy_Ct sc hm_M_keep dM [.inr (some 59)] t1 (fun r t2 => ∃ v2 : Int, r = some v2 ∧ R t2)) (fin : ∀ t2, R t2 → hy_W sc hm_law d 982 [.inr (some 0), .inr (some 2), .inr (some 59), .inl (i : Int)] [] t2 Q) : hy_W sc hm_law d 934 [.inr (some 0), .inr (some 2), .inr (some 59), .inl (i : Int)] [] t Q := by
  refine hy_aload (i := 934) (k := 1) (by decide +kernel) rfl ?_
  refine hy_cV0 (i := 935) (j := 107) (by decide +kernel) mj_W_keep hdW rfl (Nat.le_of_ble_eq_true rfl) rfl rfl rfl hW (fun r t1 h1 => ?_)
  obtain ⟨v, rfl, hP⟩ := h1
  dsimp only [hy_st, List.cons_append, List.nil_append]
  refine hy_pop (i := 936) (by decide +kernel) ?_
  refine hy_aload (i := 937) (k := 2) (by decide +kernel) rfl ?_
  refine hy_cV0 (i := 938) (j := 307) (by decide +kernel) mj_M_keep hdM rfl (Nat.le_of_ble_eq_true rfl) rfl rfl rfl (hM v t1 hP) (fun r t2 h2 => ?_)
  obtain ⟨v2, rfl, hR⟩ := h2
  dsimp only [hy_st, List.cons_append, List.nil_append]
  refine hy_pop (i := 939) (by decide +kernel) ?_
  exact hy_goto (i := 940) (tt := 982) (by decide +kernel) (fin t2 hR)
theorem law_c27 {P : Int → hy_T → Prop} {R : hy_T → Prop} {dW dM : Nat} (hdW : dW < d) (hdM : dM < d) (hi : i + 7 ≤ sc.length ∧ sc.length ≤ 90000) (hW : hy_Ct sc hm_W_undo dW [.inr (some 2)] t (fun r t1 => ∃ v : Int, r = some v ∧ P v t1)) (hM : ∀ (v : Int) (t1 : hy_T), P v t1 → hy_Ct sc hm_M_undo dM [.inr (some 59)] t1 (fun r t2 => ∃ v2 : Int, r = some v2 ∧ R t2)) (fin : ∀ t2, R t2 → hy_W sc hm_law d 982 [.inr (some 0), .inr (some 2), .inr (some 59), .inl (i : Int)] [] t2 Q) : hy_W sc hm_law d 941 [.inr (some 0), .inr (some 2), .inr (some 59), .inl (i : Int)] [] t Q := by
  refine hy_aload (i := 941) (k := 1) (by decide +kernel) rfl ?_
  refine hy_cV0 (i := 942) (j := 108) (by decide +kernel) mj_W_undo hdW rfl (Nat.le_of_ble_eq_true rfl) rfl rfl rfl hW (fun r t1 h1 => ?_)
  obtain ⟨v, rfl, hP⟩ := h1
  dsimp only [hy_st, List.cons_append, List.nil_append]
  refine hy_pop (i := 943) (by decide +kernel) ?_
  refine hy_aload (i := 944) (k := 2) (by decide +kernel) rfl ?_
  refine hy_cV0 (i := 945) (j := 308) (by decide +kernel) mj_M_undo hdM rfl (Nat.le_of_ble_eq_true rfl) rfl rfl rfl (hM v t1 hP) (fun r t2 h2 => ?_)
  obtain ⟨v2, rfl, hR⟩ := h2
  dsimp only [hy_st, List.cons_append, List.nil_append]
  refine hy_pop (i := 946) (by decide +kernel) ?_
  exact hy_goto (i := 947) (tt := 982) (by decide +kernel) (fin t2 hR)
theorem law_c28 {P : Int → hy_T → Prop} {R : hy_T → Prop} {dW dM : Nat} (hdW : dW < d) (hdM : dM < d) (hi : i + 7 ≤ sc.length ∧ sc.length ≤ 90000) (hW : hy_Ct sc hm_W_check dW [.inr (some 2), .inl (sv sc (i + 1))] t (fun r t1 => ∃ v : Int, r = some v ∧ P v t1)) (hM : ∀ (v : Int) (t1 : hy_T), P v t1 → hy_Ct sc hm_M_check dM [.inr (some 59), .inl (sv sc (i + 1))] t1 (fun r t2 => ∃ v2 : Int, r = some v2 ∧ R t2)) (fin : ∀ t2, R t2 → hy_W sc hm_law d 982 [.inr (some 0), .inr (some 2), .inr (some 59), .inl (i : Int)] [] t2 Q) : hy_W sc hm_law d 948 [.inr (some 0), .inr (some 2), .inr (some 59), .inl (i : Int)] [] t Q := by
  refine hy_aload (i := 948) (k := 1) (by decide +kernel) rfl ?_
  refine law_ld 949 1 (by decide +kernel) (by omega) (by omega) ?_
  refine hy_cV1 (i := 954) (j := 109) (by decide +kernel) mj_W_check hdW rfl (Nat.le_of_ble_eq_true rfl) rfl rfl rfl hW (fun r t1 h1 => ?_)
  obtain ⟨v, rfl, hP⟩ := h1
  dsimp only [hy_st, List.cons_append, List.nil_append]
  refine hy_pop (i := 955) (by decide +kernel) ?_
  refine hy_aload (i := 956) (k := 2) (by decide +kernel) rfl ?_
  refine law_ld 957 1 (by decide +kernel) (by omega) (by omega) ?_
  refine hy_cV1 (i := 962) (j := 309) (by decide +kernel) mj_M_check hdM rfl (Nat.le_of_ble_eq_true rfl) rfl rfl rfl (hM v t1 hP) (fun r t2 h2 => ?_)
  obtain ⟨v2, rfl, hR⟩ := h2
  dsimp only [hy_st, List.cons_append, List.nil_append]
  refine hy_pop (i := 963) (by decide +kernel) ?_
  exact hy_goto (i := 964) (tt := 982) (by decide +kernel) (fin t2 hR)
theorem law_c29 {P : Int → hy_T → Prop} {R : hy_T → Prop} {dW dM : Nat} (hdW : dW < d) (hdM : dM < d) (hi : i + 7 ≤ sc.length ∧ sc.length ≤ 90000) (hW : hy_Ct sc hm_W_count dW [.inr (some 2), .inl (sv sc (i + 1))] t (fun r t1 => ∃ v : Int, r = some v ∧ P v t1)) (hM : ∀ (v : Int) (t1 : hy_T), P v t1 → hy_Ct sc hm_M_count dM [.inr (some 59), .inl (sv sc (i + 1))] t1 (fun r t2 => ∃ v2 : Int, r = some v2 ∧ R t2)) (fin : ∀ t2, R t2 → hy_W sc hm_law d 982 [.inr (some 0), .inr (some 2), .inr (some 59), .inl (i : Int)] [] t2 Q) : hy_W sc hm_law d 965 [.inr (some 0), .inr (some 2), .inr (some 59), .inl (i : Int)] [] t Q := by
  refine hy_aload (i := 965) (k := 1) (by decide +kernel) rfl ?_
  refine law_ld 966 1 (by decide +kernel) (by omega) (by omega) ?_
  refine hy_cV1 (i := 971) (j := 194) (by decide +kernel) mj_W_count hdW rfl (Nat.le_of_ble_eq_true rfl) rfl rfl rfl hW (fun r t1 h1 => ?_)
  obtain ⟨v, rfl, hP⟩ := h1
  dsimp only [hy_st, List.cons_append, List.nil_append]
  refine hy_pop (i := 972) (by decide +kernel) ?_
  refine hy_aload (i := 973) (k := 2) (by decide +kernel) rfl ?_
  refine law_ld 974 1 (by decide +kernel) (by omega) (by omega) ?_
  refine hy_cV1 (i := 979) (j := 311) (by decide +kernel) mj_M_count hdM rfl (Nat.le_of_ble_eq_true rfl) rfl rfl rfl (hM v t1 hP) (fun r t2 h2 => ?_)
  obtain ⟨v2, rfl, hR⟩ := h2
  dsimp only [hy_st, List.cons_append, List.nil_append]
  refine hy_pop (i := 980) (by decide +kernel) ?_
  exact hy_goto (i := 981) (tt := 982) (by decide +kernel) (fin t2 hR)
end LAW
