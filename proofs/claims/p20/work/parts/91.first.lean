/-! from the law's entry to its loop -/
theorem hr_newok (ci : Nat) {q : vw_C} (hq : hx_cl[ci]? = some q) (h : (hr_defok q && (hr_defs q).all (fun v => !hr_ref v)) = true) : hr_q ci = .inr (ci, hr_defs q) ∧ (∀ k, k < q.2.2 → parseFieldDescriptor (q.2.1 k).2.2.1 = some ((parseFieldDescriptor (q.2.1 k).2.2.1).getD .int)) ∧ (∀ j, j < q.2.2 → defaultValue ((parseFieldDescriptor (q.2.1 j).2.2.1).getD .int) = vp_V (hr_defs q) j) ∧ ∀ b o base, (hr_defs q).map (hx_g b o base) = hr_defs q := by
  rw [Bool.and_eq_true] at h
  have hk : ∀ k, k < q.2.2 → parseFieldDescriptor (q.2.1 k).2.2.1 = some ((parseFieldDescriptor (q.2.1 k).2.2.1).getD .int) := fun k hk => by
    have h1 := List.all_eq_true.mp h.1 k (List.mem_range.mpr hk)
    cases h2 : parseFieldDescriptor (q.2.1 k).2.2.1 with
    | none => rw [h2] at h1; cases h1
    | some ty => rfl
  refine ⟨by unfold hr_q; rw [hq], hk, fun j hj => ?_, fun b o base => hr_gs h.2 b o base⟩
  have h1 := hk j hj
  simp only [vp_V, hr_defs, List.getD_eq_getElem?_getD, List.getElem?_map, List.getElem?_range hj, Option.map_some, Option.getD_some]
  rw [h1]
  rfl
theorem hr_q10 : ∃ q, hx_cl[10]? = some q ∧ q.2.2 = 16 ∧ (hr_defok q && (hr_defs q).all (fun v => !hr_ref v)) = true := ⟨_, rfl, rfl, by decide +kernel⟩
theorem hr_q11 : ∃ q, hx_cl[11]? = some q ∧ q.2.2 = 68 ∧ (hr_defok q && (hr_defs q).all (fun v => !hr_ref v)) = true := ⟨_, rfl, rfl, by decide +kernel⟩
/-- from the law's entry to its loop -/
theorem law_first {sc : List Int32} {d : Nat} {Q : Option Int → hy_T → Prop} (hd : 4 ≤ d) (k : hy_W sc hm_law d 10 [.inr (some 0), .inr (some 2), .inr (some 59), .inl 0] [] t0 Q) : hx_W sc hm_law d 0 [.ref 0, .null, .null, .null] [] [] 300 8000 (hy_Q Q) := by
  obtain ⟨h1, c1, s1, c2, s2, e1, l1, e2, hc, hs⟩ := hr_made
  obtain ⟨q10, g10, n10, o10⟩ := hr_q10
  obtain ⟨q11, g11, n11, o11⟩ := hr_q11
  obtain ⟨w10, a10, b10, d10⟩ := hr_newok 10 g10 o10
  obtain ⟨w11, a11, b11, d11⟩ := hr_newok 11 g11 o11
  have hk1 := k (fun v hv => by
    simp only [List.mem_cons, List.not_mem_nil, or_false] at hv
    rcases hv with rfl | rfl | rfl | rfl
    · trivial
    · trivial
    · trivial
    · exact ⟨by decide, by decide⟩) (fun v hv => by simp at hv) t0_R
  have ct1 : hx_Ct sc hm_W_init 3 c1 s1 [.ref 2] [.inr (10, hr_defs q10)] (hr_Q h1) := by
    refine hx_mk ok_W_init ck_W_init (Nat.le_of_ble_eq_true rfl) rfl (hr_run_s 1500 3 hm_W_init 0 _ _ _ _ _ _ ?_ 3 (Nat.le_refl _))
    rw [← w10]
    exact e1
  have ct2 : hx_Ct sc hm_M_init 3 c2 s2 [.ref 59] (h1 ++ [.inr (11, hr_defs q11)]) (hr_Q (hy_mk t0)) := by
    refine hx_mk ok_M_init ck_M_init (Nat.le_of_ble_eq_true rfl) rfl (hr_run_s 1500 3 hm_M_init 0 _ _ _ _ _ _ ?_ 3 (Nat.le_refl _))
    rw [← w11]
    exact e2
  have w : hx_W sc hm_law d 0 [.ref 0, .null, .null, .null] [] [] (((0 + c2) + 1 + c1) + 1) (((0 + s2) + q11.2.2 + s1) + q10.2.2) (hy_Q Q) := by
    refine hx_new (i := 0) rfl g10 a10 b10 d10 ?_
    refine hx_dup (i := 1) rfl rfl ?_
    refine hx_callI (i := 2) (as := []) (a := 0) (v := hm_W_init) rfl (by decide) mj_W_init (by omega) rfl rfl (by decide) ct1 (fun r h' hq => ?_)
    obtain ⟨rfl, rfl⟩ := hq
    show hx_W sc hm_law d 3 [.ref 0, .null, .null, .null] [.ref 2] _ _ _ (hy_Q Q)
    refine hx_astore (i := 3) (a := 2) rfl ?_
    refine hx_new (i := 4) rfl g11 a11 b11 d11 ?_
    rw [l1]
    refine hx_dup (i := 5) rfl rfl ?_
    refine hx_callI (i := 6) (as := []) (a := 57) (v := hm_M_init) rfl (by decide) mj_M_init (by omega) rfl rfl (by decide) ct2 (fun r h' hq => ?_)
    obtain ⟨rfl, rfl⟩ := hq
    show hx_W sc hm_law d 7 [.ref 0, .ref 2, .null, .null] [.ref 59] _ _ _ (hy_Q Q)
    refine hx_astore (i := 7) (a := 59) rfl ?_
    refine hx_const (i := 8) rfl ?_
    refine hx_istore (i := 9) rfl ?_
    exact hk1
  rw [n10, n11] at w
  exact w.mono (by omega) (by omega) (fun r h' q => q)
