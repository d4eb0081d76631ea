/-! constructors: an interpreter, and that it is right -/
abbrev hr_E : Type := Option (hx_H × Nat × Nat)
def hr_add (e : hr_E) (c s : Nat) : hr_E := match e with
  | some (h, a, b) => some (h, a + c, b + s)
  | none => none
def hr_ref (v : Value) : Bool := match v with
  | .ref _ => true
  | _ => false
def hr_defs (q : vw_C) : List Value := (List.range q.2.2).map (fun k => match parseFieldDescriptor (q.2.1 k).2.2.1 with
  | some ty => defaultValue ty
  | none => .null)
def hr_defok (q : vw_C) : Bool := (List.range q.2.2).all (fun k => (parseFieldDescriptor (q.2.1 k).2.2.1).isSome)
/-- a field of this type can hold that -/
def hr_fit (ty : FieldType) (w : Value) : Bool := match ty, w with
  | .int, .int _ => true
  | .boolean, .int x => x == 0
  | .object _, .ref _ => true
  | .array _, .ref _ => true
  | _, _ => false
def hr_at (t : ArrayType) : Option Nat := match t with
  | .int => some 0
  | .byte => some 1
  | .boolean => some 2
  | _ => none
def hr_run : Nat → Nat → hx_M → Nat → List Value → List Value → hx_H → hr_E
  | 0, _, _, _, _, _, _ => none
  | n + 1, dp, u, i, loc, st, h => match (hx_ops u)[i]? with
    | some .return_ => match st with
      | [] => if hx_ret u = none then some (h, 0, 0) else none
      | _ => none
    | some (.aload k) => match loc[k]? with
      | some (.ref a) => hr_run n dp u (i + 1) loc (.ref a :: st) h
      | _ => none
    | some (.iload k) => match loc[k]? with
      | some (.int x) => hr_run n dp u (i + 1) loc (.int x :: st) h
      | _ => none
    | some (.bipush v) => hr_run n dp u (i + 1) loc (.int (Int32.ofInt v) :: st) h
    | some (.istore k) => match st with
      | .int x :: st' => hr_run n dp u (i + 1) (loc.set k (.int x)) st' h
      | _ => none
    | some (.iinc k v) => match loc[k]? with
      | some (.int x) => hr_run n dp u (i + 1) (loc.set k (.int (x + Int32.ofInt v))) st h
      | _ => none
    | some (.goto t) => if 0 ≤ t then hr_run n dp u t.toNat loc st h else none
    | some (.if_icmp .ge t) => match st with
      | .int y :: .int x :: st' => if 0 ≤ t then (if y ≤ x then hr_run n dp u t.toNat loc st' h else hr_run n dp u (i + 1) loc st' h) else none
      | _ => none
    | some .dup => match st with
      | w :: st' => if w.category = 1 then hr_run n dp u (i + 1) loc (w :: w :: st') h else none
      | _ => none
    | some (.new ci) => match hx_cl[ci]? with
      | some q => if hr_defok q = true ∧ (hr_defs q).all (fun v => !hr_ref v) = true then hr_add (hr_run n dp u (i + 1) loc (.ref (h.length + 2) :: st) (h ++ [.inr (ci, hr_defs q)])) 1 q.2.2 else none
      | none => none
    | some (.newarray t) => match hr_at t, st with
      | some k, .int x :: st' => if ¬ x < 0 ∧ x.toNatClampNeg ≤ 100000 then hr_add (hr_run n dp u (i + 1) loc (.ref (h.length + 2) :: st') (h ++ [.inl (k, List.replicate x.toNatClampNeg 0)])) 1 x.toNatClampNeg else none
      | _, _ => none
    | some (.getfield f) => match st with
      | .ref (a + 2) :: st' => match h[a]? with
        | some (.inr (ci, fs)) => match fs[f % 100]? with
          | some w => if ci = f / 100 then hr_run n dp u (i + 1) loc (w :: st') h else none
          | none => none
        | _ => none
      | _ => none
    | some (.putfield f) => match st with
      | w :: .ref (a + 2) :: st' => match h[a]? with
        | some (.inr (ci, fs)) => match (hx_cl[f / 100]?).bind (fun q => parseFieldDescriptor (q.2.1 (f % 100)).2.2.1) with
          | some ty => if ci = f / 100 ∧ f % 100 < fs.length ∧ hr_fit ty w = true then hr_run n dp u (i + 1) loc st' (h.set a (.inr (ci, fs.set (f % 100) w))) else none
          | none => none
        | _ => none
      | _ => none
    | some .iastore => match st with
      | .int x :: .int z :: .ref (a + 2) :: st' => match h[a]? with
        | some (.inl (0, xs)) => if ¬ (z < 0 ∨ xs.length ≤ z.toNatClampNeg) then hr_run n dp u (i + 1) loc st' (h.set a (.inl (0, xs.set z.toNatClampNeg x))) else none
        | _ => none
      | _ => none
    | some (.invokespecial j) => if j = 9999 then (match st with
        | .ref (_ + 2) :: st' => if st'.all hx_v = true ∧ st'.length ≤ 8 then hr_run n dp u (i + 1) loc st' h else none
        | _ => none) else match dp, hx_ms[j]? with
        | dp' + 1, some v => match st.drop (hx_na v) with
          | .ref (a + 2) :: rest => if j ≤ 10 ∧ (hx_na v + 1 ≤ hx_L v ∧ (st.take (hx_na v)).length = hx_na v) ∧ (rest.all hx_v = true ∧ rest.length ≤ 8) ∧ (st.take (hx_na v)).all hx_v = true then
              (match hr_run n dp' v 0 ((.ref (a + 2) :: (st.take (hx_na v)).reverse) ++ List.replicate (hx_L v - (.ref (a + 2) :: (st.take (hx_na v)).reverse).length) .null) [] h with
              | some (h', c, s) => hr_add (hr_run n dp u (i + 1) loc rest h') c s
              | none => none) else none
          | _ => none
        | _, _ => none
    | _ => none
abbrev hr_Q (h' : hx_H) : Option Int32 → hx_H → Prop := fun r h'' => r = none ∧ h'' = h'
theorem hr_add_s {e : hr_E} {c s : Nat} {h : hx_H} {a b : Nat} (hh : hr_add e c s = some (h, a, b)) : ∃ a' b', e = some (h, a', b') ∧ a = a' + c ∧ b = b' + s := by
  unfold hr_add at hh
  split at hh
  · next h1 a1 b1 =>
    cases hh
    exact ⟨a1, b1, rfl, rfl, rfl⟩
  · cases hh
theorem hr_g {v : Value} (h : hr_ref v = false) (b o base : Nat) : hx_g b o base v = v := by
  cases v <;> first | rfl | (simp [hr_ref] at h)
theorem hr_gs {vs : List Value} (h : vs.all (fun v => !hr_ref v) = true) (b o base : Nat) : vs.map (hx_g b o base) = vs := by
  induction vs with
  | nil => rfl
  | cons v vs ih =>
    simp only [List.all_cons, Bool.and_eq_true, Bool.not_eq_true'] at h
    rw [List.map_cons, hr_g h.1, ih h.2]
theorem hr_fit_s {ty : FieldType} {w : Value} (h : hr_fit ty w = true) (b o base : Nat) : narrow ty (hx_g b o base w) = hx_g b o base w ∧ fits ty (hx_g b o base w) = true := by
  unfold hr_fit at h
  split at h
  · exact ⟨rfl, rfl⟩
  · next x =>
    have hx : x = 0 := by simpa using h
    subst hx
    exact ⟨rfl, rfl⟩
  · next a => rcases a with _ | _ | a <;> exact ⟨rfl, rfl⟩
  · next a => rcases a with _ | _ | a <;> exact ⟨rfl, rfl⟩
  · cases h
theorem hr_oks : ∀ (j : Nat) (v : hx_M), j ≤ 10 → hx_ms[j]? = some v → hx_okO v = true ∧ hx_cal v := by
  intro j v hj hv
  rcases (show j = 0 ∨ j = 1 ∨ j = 2 ∨ j = 3 ∨ j = 4 ∨ j = 5 ∨ j = 6 ∨ j = 7 ∨ j = 8 ∨ j = 9 ∨ j = 10 by omega) with rfl | rfl | rfl | rfl | rfl | rfl | rfl | rfl | rfl | rfl | rfl
  · rw [mj_W_init] at hv; cases hv; exact ⟨ok_W_init, ck_W_init⟩
  · rw [mj_T_init] at hv; cases hv; exact ⟨ok_T_init, ck_T_init⟩
  · rw [mj_P_init] at hv; cases hv; exact ⟨ok_P_init, ck_P_init⟩
  · rw [mj_G_init] at hv; cases hv; exact ⟨ok_G_init, ck_G_init⟩
  · rw [mj_L_init] at hv; cases hv; exact ⟨ok_L_init, ck_L_init⟩
  · rw [mj_N_init] at hv; cases hv; exact ⟨ok_N_init, ck_N_init⟩
  · rw [mj_S_init] at hv; cases hv; exact ⟨ok_S_init, ck_S_init⟩
  · rw [mj_E_init] at hv; cases hv; exact ⟨ok_E_init, ck_E_init⟩
  · rw [mj_U_init] at hv; cases hv; exact ⟨ok_U_init, ck_U_init⟩
  · rw [mj_D_init] at hv; cases hv; exact ⟨ok_D_init, ck_D_init⟩
  · rw [mj_A_init] at hv; cases hv; exact ⟨ok_A_init, ck_A_init⟩
def hr_q (ci : Nat) : hx_C := match hx_cl[ci]? with
  | some q => .inr (ci, hr_defs q)
  | none => .inl (0, [])
/-! the interpreter is right -/
theorem hr_run_s {sc : List Int32} : ∀ (n dp : Nat) (u : hx_M) (i : Nat) (loc st : List Value) (h h' : hx_H) (c s : Nat), hr_run n dp u i loc st h = some (h', c, s) → ∀ d : Nat, dp ≤ d → hx_W sc u d i loc st h c s (hr_Q h') := by
  intro n
  induction n with
  | zero => intro dp u i loc st h h' c s hh; cases hh
  | succ n ih =>
    intro dp u i loc st h h' c s hh d hd
    simp only [hr_run] at hh
    split at hh
    · next hop =>
      split at hh
      · split at hh
        · next hr =>
          cases hh
          exact hx_return hop hr ⟨rfl, rfl⟩
        · cases hh
      · cases hh
    · next k hop =>
      split at hh
      · next a hl => exact hx_aload hop hl (ih _ _ _ _ _ _ _ _ _ hh d hd)
      · cases hh
    · next k hop =>
      split at hh
      · next x hl => exact hx_iload hop hl (ih _ _ _ _ _ _ _ _ _ hh d hd)
      · cases hh
    · next v hop => exact hx_const hop (ih _ _ _ _ _ _ _ _ _ hh d hd)
    · next k hop =>
      split at hh
      · exact hx_istore hop (ih _ _ _ _ _ _ _ _ _ hh d hd)
      · cases hh
    · next k v hop =>
      split at hh
      · next x hl => exact hx_iinc hop hl (ih _ _ _ _ _ _ _ _ _ hh d hd)
      · cases hh
    · next t hop =>
      split at hh
      · next ht => exact hx_goto (t := t.toNat) (by rw [hop, Int.toNat_of_nonneg ht]) (ih _ _ _ _ _ _ _ _ _ hh d hd)
      · cases hh
    · next t hop =>
      split at hh
      · split at hh
        · next ht =>
          split at hh
          · next hc => exact hx_ic_ge (t := t.toNat) (by rw [hop, Int.toNat_of_nonneg ht]) (fun _ => ih _ _ _ _ _ _ _ _ _ hh d hd) (fun q => absurd hc q)
          · next hc => exact hx_ic_ge (t := t.toNat) (by rw [hop, Int.toNat_of_nonneg ht]) (fun q => absurd q hc) (fun _ => ih _ _ _ _ _ _ _ _ _ hh d hd)
        · cases hh
      · cases hh
    · next hop =>
      split at hh
      · split at hh
        · next hw => exact hx_dup hop hw (ih _ _ _ _ _ _ _ _ _ hh d hd)
        · cases hh
      · cases hh
    · next ci hop =>
      split at hh
      · next q hcl =>
        split at hh
        · next hc =>
          obtain ⟨a', b', e1, rfl, rfl⟩ := hr_add_s hh
          have hk : ∀ k, k < q.2.2 → parseFieldDescriptor (q.2.1 k).2.2.1 = some ((parseFieldDescriptor (q.2.1 k).2.2.1).getD .int) := fun k hk => by
            have h1 := List.all_eq_true.mp hc.1 k (List.mem_range.mpr hk)
            cases h2 : parseFieldDescriptor (q.2.1 k).2.2.1 with
            | none => rw [h2] at h1; cases h1
            | some ty => rfl
          refine hx_new hop hcl (ty := fun k => (parseFieldDescriptor (q.2.1 k).2.2.1).getD .int) hk (fun j hj => ?_) (fun b o base => hr_gs hc.2 b o base) (ih _ _ _ _ _ _ _ _ _ e1 d hd)
          have h1 := hk j hj
          simp only [vp_V, hr_defs, List.getD_eq_getElem?_getD, List.getElem?_map, List.getElem?_range hj, Option.map_some, Option.getD_some]
          rw [h1]
          rfl
        · cases hh
      · cases hh
    · next t hop =>
      split at hh
      · next k x st' hk =>
        split at hh
        · next hc =>
          obtain ⟨a', b', e1, rfl, rfl⟩ := hr_add_s hh
          refine hx_newa (t := k) hop ?_ hc.1 hc.2 (ih _ _ _ _ _ _ _ _ _ e1 d hd)
          cases t <;> simp [hr_at] at hk <;> subst hk <;> simp
        · cases hh
      · cases hh
    · next f hop =>
      split at hh
      · split at hh
        · next ci fs hcell =>
          split at hh
          · next w hv =>
            split at hh
            · next hc => exact hx_get hop hcell hc hv (ih _ _ _ _ _ _ _ _ _ hh d hd)
            · cases hh
          · cases hh
        · cases hh
      · cases hh
    · next f hop =>
      split at hh
      · split at hh
        · next ci fs hcell =>
          split at hh
          · next ty hty =>
            split at hh
            · next hc => exact hx_put hop hcell hc.1 hc.2.1 hty (fun b o base => (hr_fit_s hc.2.2 b o base).1) (fun b o base => (hr_fit_s hc.2.2 b o base).2) (ih _ _ _ _ _ _ _ _ _ hh d hd)
            · cases hh
          · cases hh
        · cases hh
      · cases hh
    · next hop =>
      split at hh
      · split at hh
        · next xs hcell =>
          split at hh
          · next hc => exact hx_iast hop hcell hc (ih _ _ _ _ _ _ _ _ _ hh d hd)
          · cases hh
        · cases hh
      · cases hh
    · next j hop =>
      split at hh
      · next hj =>
        subst hj
        split at hh
        · split at hh
          · next hc => exact hx_oinit hop hc.1 hc.2 (ih _ _ _ _ _ _ _ _ _ hh d hd)
          · cases hh
        · cases hh
      · next hj =>
        split at hh
        · next dp' v hv =>
          split at hh
          · next a rest hdr =>
            split at hh
            · next hc =>
              split at hh
              · next h1 c1 s1 hr =>
                obtain ⟨a', b', e1, rfl, rfl⟩ := hr_add_s hh
                obtain ⟨hj10, ⟨hl1, hl2⟩, ⟨hr1, hr2⟩, hv1⟩ := hc
                obtain ⟨o1, o2⟩ := hr_oks j v hj10 hv
                have hst : st = ((st.take (hx_na v)).reverse).reverse ++ .ref (a + 2) :: rest := by
                  rw [List.reverse_reverse, ← hdr, List.take_append_drop]
                have hct : hx_Ct sc v dp' c1 s1 (.ref (a + 2) :: (st.take (hx_na v)).reverse) h (hr_Q h1) := by
                  refine hx_mk o1 o2 (by rw [List.length_cons, List.length_reverse, hl2]; exact hl1) ?_ (ih _ _ _ _ _ _ _ _ _ hr dp' (Nat.le_refl _))
                  rw [List.all_cons, List.all_reverse, hv1]
                  rfl
                rw [hst]
                refine hx_callI (as := (st.take (hx_na v)).reverse) hop hj hv (d' := dp') (by omega) (by rw [List.length_reverse, hl2]) hr1 hr2 hct (fun r h2 hq => ?_)
                obtain ⟨rfl, rfl⟩ := hq
                exact ih _ _ _ _ _ _ _ _ _ e1 d hd
              · cases hh
            · cases hh
          · cases hh
        · cases hh
    · cases hh
/-! the class's parting: that it ends, and what it leaves -/
def hy_p (P : Int → Prop) (t : hy_T) : Option Int → hy_T → Prop := fun r t' => ∃ x : Int, r = some x ∧ P x ∧ t' = t
theorem tp_at_in {t : hy_T} (h : tp_ok t) (k : Int) : 0 ≤ tp_at t k ∧ tp_at t k ≤ 255 := by
  have h1 := h.l
  unfold tp_at
  split
  · exact h.b _ (by omega)
  · decide
section PT2
variable {sc : List Int32} {t : hy_T}
theorem c_W_placeIn_2 {row q : Int} (hr : 0 ≤ row ∧ row < 100) (hq : 0 ≤ q ∧ q ≤ 3) : hy_Ct sc hm_W_placeIn 0 [.inl row, .inl 2, .inl q] t (hy_p (fun x => 0 ≤ x ∧ x < 2) t) := by
  refine hy_mk_ct ok_W_placeIn ck_W_placeIn (Nat.le_of_ble_eq_true rfl) ?_
  have loop : ∀ (n : Nat), ∀ (r l : Int), l = q + n → l ≤ 3 → (0 ≤ r ∧ r < 100) → hy_W sc hm_W_placeIn 0 4 [.inl row, .inl 2, .inl q, .inl r, .inl l] [] t (hy_p (fun x => 0 ≤ x ∧ x < 2) t) := by
    intro n
    induction n with
    | zero =>
      intro r l hl hl3 hr
      refine hy_iload (i := 4) rfl rfl ?_
      refine hy_iload (i := 5) rfl rfl ?_
      refine hy_ic_le (i := 6) (tt := 17) rfl (fun zc1 => ?_) (fun zc1 => ?_)
      · refine hy_iload (i := 17) rfl rfl ?_
        refine hy_if_le (i := 18) (tt := 23) rfl (fun zc2 => ?_) (fun zc2 => ?_)
        · omega
        · refine hy_iload (i := 19) rfl rfl ?_
          refine hy_iload (i := 20) rfl rfl ?_
          refine hy_irem (i := 21) rfl (by omega) (by omega) ?_
          refine hy_goto (i := 22) (tt := 24) rfl ?_
          refine hy_ireturn (i := 24) rfl rfl ?_
          exact ⟨_, rfl, by omega, rfl⟩
      · omega
    | succ n ih =>
      intro r l hl hl3 hr
      refine hy_iload (i := 4) rfl rfl ?_
      refine hy_iload (i := 5) rfl rfl ?_
      refine hy_ic_le (i := 6) (tt := 17) rfl (fun zc1 => ?_) (fun zc1 => ?_)
      · omega
      · refine hy_iload (i := 7) rfl rfl ?_
        refine hy_if_le (i := 8) (tt := 13) rfl (fun zc2 => ?_) (fun zc2 => ?_)
        · omega
        · refine hy_iload (i := 9) rfl rfl ?_
          refine hy_iload (i := 10) rfl rfl ?_
          refine hy_idiv (i := 11) rfl (by omega) (by omega) ?_
          refine hy_goto (i := 12) (tt := 14) rfl ?_
          refine hy_istore (i := 14) rfl ?_
          refine hy_iinc (i := 15) rfl rfl (by omega) ?_
          refine hy_goto (i := 16) (tt := 4) rfl ?_
          exact ih _ _ (by omega) (by omega) (by omega)
  refine hy_iload (i := 0) rfl rfl ?_
  refine hy_istore (i := 1) rfl ?_
  refine hy_const (i := 2) rfl (by decide) ?_
  refine hy_istore (i := 3) rfl ?_
  exact loop (3 - q).toNat _ _ (by omega) (by decide) hr
theorem c_W_thoughtOf_2 {row a b : Int} (h : tp_ok t) (hr : 0 ≤ row ∧ row < 100) (ha : 0 ≤ a ∧ a ≤ 3) : hy_Ct sc hm_W_thoughtOf 1 [.inr (some 2), .inl row, .inl 2, .inl a, .inl b] t (hy_p (fun x => 0 ≤ x ∧ x ≤ 1020) t) := by
  refine hy_mk_ct ok_W_thoughtOf ck_W_thoughtOf (Nat.le_of_ble_eq_true rfl) ?_
  have loop : ∀ (n : Nat), ∀ (k : Nat) (s : Int), n + k = 4 → (0 ≤ s ∧ s ≤ 255 * k) → hy_W sc hm_W_thoughtOf 1 4 [.inr (some 2), .inl row, .inl 2, .inl a, .inl b, .inl s, .inl (k : Int)] [] t (hy_p (fun x => 0 ≤ x ∧ x ≤ 1020) t) := by
    intro n
    induction n with
    | zero =>
      intro k s hn hs
      refine hy_iload (i := 4) rfl rfl ?_
      refine hy_const (i := 5) rfl (by decide) ?_
      refine hy_ic_ge (i := 6) (tt := 26) rfl (fun zc1 => ?_) (fun zc1 => ?_)
      · refine hy_iload (i := 26) rfl rfl ?_
        refine hy_ireturn (i := 27) rfl rfl ?_
        exact ⟨_, rfl, by omega, rfl⟩
      · omega
    | succ n ih =>
      intro k s hn hs
      have hb := tp_at_in h (4 * a + k)
      refine hy_iload (i := 4) rfl rfl ?_
      refine hy_const (i := 5) rfl (by decide) ?_
      refine hy_ic_ge (i := 6) (tt := 26) rfl (fun zc1 => ?_) (fun zc1 => ?_)
      · omega
      · refine hy_iload (i := 7) rfl rfl ?_
        refine hy_iload (i := 8) rfl rfl ?_
        refine hy_iload (i := 9) rfl rfl ?_
        refine hy_cS3 (i := 10) rfl (by decide) mj_W_placeIn (by decide) rfl (Nat.le_of_ble_eq_true rfl) (c_W_placeIn_2 (by omega) (by omega)) (fun r1_ t1_ h1 => ?_)
        obtain ⟨x1, rfl, hx1, rfl⟩ := h1
        dsimp only [hy_st, List.cons_append, List.nil_append]
        refine hy_iload (i := 11) rfl rfl ?_
        refine hy_ic_ne (i := 12) (tt := 24) rfl (fun zc2 => ?_) (fun zc2 => ?_)
        · refine hy_iinc (i := 24) rfl rfl (by omega) ?_
          refine hy_goto (i := 25) (tt := 4) rfl ?_
          exact ih (k + 1) _ (by omega) (by omega)
        · refine hy_iload (i := 13) rfl rfl ?_
          refine hy_aload (i := 14) rfl rfl ?_
          refine hy_getr (i := 15) rfl rfl ?_
          refine hy_const (i := 16) rfl (by decide) ?_
          refine hy_iload (i := 17) rfl rfl ?_
          refine hy_imul (i := 18) rfl (by omega) ?_
          refine hy_iload (i := 19) rfl rfl ?_
          refine hy_iadd (i := 20) rfl (by omega) ?_
          refine hy_cV1e (i := 21) rfl mj_T_at (by decide) rfl (Nat.le_of_ble_eq_true rfl) rfl rfl rfl (c_T_at (by have := tp_ok.l (by assumption); omega)) ?_
          refine hy_iadd (i := 22) rfl (by omega) ?_
          refine hy_istore (i := 23) rfl ?_
          refine hy_iinc (i := 24) rfl rfl (by omega) ?_
          refine hy_goto (i := 25) (tt := 4) rfl ?_
          exact ih (k + 1) _ (by omega) (by omega)
  refine hy_const (i := 0) rfl (by decide) ?_
  refine hy_istore (i := 1) rfl ?_
  refine hy_const (i := 2) rfl (by decide) ?_
  refine hy_istore (i := 3) rfl ?_
  exact loop 4 0 _ rfl (by decide)
theorem c_W_leastOf_2 {row : Int} (h : tp_ok t) (hr : 0 ≤ row ∧ row < 100) : hy_Ct sc hm_W_leastOf 2 [.inr (some 2), .inl row, .inl 2] t (hy_p (fun x => 0 ≤ x ∧ x ≤ 1020) t) := by
  refine hy_mk_ct ok_W_leastOf ck_W_leastOf (Nat.le_of_ble_eq_true rfl) ?_
  have loop : ∀ (n : Nat), ∀ (k : Nat) (s : Int), n + k = 2 → (0 ≤ s ∧ s ≤ 1020) → hy_W sc hm_W_leastOf 2 9 [.inr (some 2), .inl row, .inl 2, .inl s, .inl (k : Int)] [] t (hy_p (fun x => 0 ≤ x ∧ x ≤ 1020) t) := by
    intro n
    induction n with
    | zero =>
      intro k s hn hs
      refine hy_iload (i := 9) rfl rfl ?_
      refine hy_iload (i := 10) rfl rfl ?_
      refine hy_ic_ge (i := 11) (tt := 23) rfl (fun zc1 => ?_) (fun zc1 => ?_)
      · refine hy_iload (i := 23) rfl rfl ?_
        refine hy_ireturn (i := 24) rfl rfl ?_
        exact ⟨_, rfl, by omega, rfl⟩
      · omega
    | succ n ih =>
      intro k s hn hs
      refine hy_iload (i := 9) rfl rfl ?_
      refine hy_iload (i := 10) rfl rfl ?_
      refine hy_ic_ge (i := 11) (tt := 23) rfl (fun zc1 => ?_) (fun zc1 => ?_)
      · omega
      · refine hy_iload (i := 12) rfl rfl ?_
        refine hy_aload (i := 13) rfl rfl ?_
        refine hy_iload (i := 14) rfl rfl ?_
        refine hy_iload (i := 15) rfl rfl ?_
        refine hy_iload (i := 16) rfl rfl ?_
        refine hy_iload (i := 17) rfl rfl ?_
        refine hy_cV4 (i := 18) rfl mj_W_thoughtOf (by decide) rfl (Nat.le_of_ble_eq_true rfl) rfl rfl rfl (c_W_thoughtOf_2 (by assumption) (by omega) (by omega)) (fun r1_ t1_ h1 => ?_)
        obtain ⟨x1, rfl, hx1, rfl⟩ := h1
        dsimp only [hy_st, List.cons_append, List.nil_append]
        refine hy_min (i := 19) rfl (Nat.le_of_ble_eq_true rfl) ?_
        refine hy_istore (i := 20) rfl ?_
        refine hy_iinc (i := 21) rfl rfl (by omega) ?_
        refine hy_goto (i := 22) (tt := 9) rfl ?_
        exact ih (k + 1) _ (by omega) (by split <;> omega)
  refine hy_aload (i := 0) rfl rfl ?_
  refine hy_iload (i := 1) rfl rfl ?_
  refine hy_iload (i := 2) rfl rfl ?_
  refine hy_const (i := 3) rfl (by decide) ?_
  refine hy_const (i := 4) rfl (by decide) ?_
  refine hy_cV4 (i := 5) rfl mj_W_thoughtOf (by decide) rfl (Nat.le_of_ble_eq_true rfl) rfl rfl rfl (c_W_thoughtOf_2 (by assumption) (by omega) (by omega)) (fun r1_ t1_ h1 => ?_)
  obtain ⟨x1, rfl, hx1, rfl⟩ := h1
  dsimp only [hy_st, List.cons_append, List.nil_append]
  refine hy_istore (i := 6) rfl ?_
  refine hy_const (i := 7) rfl (by decide) ?_
  refine hy_istore (i := 8) rfl ?_
  exact loop (2 - 1) 1 _ rfl (by omega)
theorem c_W_fairestRow_2 (h : tp_ok t) : hy_Ct sc hm_W_fairestRow 3 [.inr (some 2), .inl 2] t (hy_p (fun x => 0 ≤ x ∧ x < 100) t) := by
  refine hy_mk_ct ok_W_fairestRow ck_W_fairestRow (Nat.le_of_ble_eq_true rfl) ?_
  have loop : ∀ (n : Nat), ∀ (k : Nat) (b ms : Int) (v6 : hy_V), n + k = 2 * 2 * 2 * 2 → (0 ≤ b ∧ b < 100) → hy_W sc hm_W_fairestRow 3 14 [.inr (some 2), .inl 2, .inl (2 * 2 * 2 * 2), .inl b, .inl ms, .inl (k : Int), v6] [] t (hy_p (fun x => 0 ≤ x ∧ x < 100) t) := by
    intro n
    induction n with
    | zero =>
      intro k b ms v6 hn hb
      refine hy_iload (i := 14) rfl rfl ?_
      refine hy_iload (i := 15) rfl rfl ?_
      refine hy_ic_ge (i := 16) (tt := 31) rfl (fun zc1 => ?_) (fun zc1 => ?_)
      · refine hy_iload (i := 31) rfl rfl ?_
        refine hy_ireturn (i := 32) rfl rfl ?_
        exact ⟨_, rfl, by omega, rfl⟩
      · omega
    | succ n ih =>
      intro k b ms v6 hn hb
      refine hy_iload (i := 14) rfl rfl ?_
      refine hy_iload (i := 15) rfl rfl ?_
      refine hy_ic_ge (i := 16) (tt := 31) rfl (fun zc1 => ?_) (fun zc1 => ?_)
      · omega
      · refine hy_aload (i := 17) rfl rfl ?_
        refine hy_iload (i := 18) rfl rfl ?_
        refine hy_iload (i := 19) rfl rfl ?_
        refine hy_cV2 (i := 20) rfl mj_W_leastOf (by decide) rfl (Nat.le_of_ble_eq_true rfl) rfl rfl rfl (c_W_leastOf_2 (by assumption) (by omega)) (fun r1_ t1_ h1 => ?_)
        obtain ⟨x1, rfl, hx1, rfl⟩ := h1
        dsimp only [hy_st, List.cons_append, List.nil_append]
        refine hy_istore (i := 21) rfl ?_
        refine hy_iload (i := 22) rfl rfl ?_
        refine hy_iload (i := 23) rfl rfl ?_
        refine hy_ic_le (i := 24) (tt := 29) rfl (fun zc2 => ?_) (fun zc2 => ?_)
        · refine hy_iinc (i := 29) rfl rfl (by omega) ?_
          refine hy_goto (i := 30) (tt := 14) rfl ?_
          exact ih (k + 1) _ _ _ (by omega) (by omega)
        · refine hy_iload (i := 25) rfl rfl ?_
          refine hy_istore (i := 26) rfl ?_
          refine hy_iload (i := 27) rfl rfl ?_
          refine hy_istore (i := 28) rfl ?_
          refine hy_iinc (i := 29) rfl rfl (by omega) ?_
          refine hy_goto (i := 30) (tt := 14) rfl ?_
          exact ih (k + 1) _ _ _ (by omega) (by omega)
  refine hy_iload (i := 0) rfl rfl ?_
  refine hy_iload (i := 1) rfl rfl ?_
  refine hy_imul (i := 2) rfl (by omega) ?_
  refine hy_iload (i := 3) rfl rfl ?_
  refine hy_imul (i := 4) rfl (by omega) ?_
  refine hy_iload (i := 5) rfl rfl ?_
  refine hy_imul (i := 6) rfl (by omega) ?_
  refine hy_istore (i := 7) rfl ?_
  refine hy_const (i := 8) rfl (by decide) ?_
  refine hy_istore (i := 9) rfl ?_
  refine hy_const (i := 10) rfl (by decide) ?_
  refine hy_istore (i := 11) rfl ?_
  refine hy_const (i := 12) rfl (by decide) ?_
  refine hy_istore (i := 13) rfl ?_
  exact loop (2 * 2 * 2 * 2) 0 _ _ _ rfl (by decide)
theorem c_W_envies_2 {row a b : Int} (h : tp_ok t) (hr : 0 ≤ row ∧ row < 100) (ha : 0 ≤ a ∧ a ≤ 3) : hy_Ct sc hm_W_envies 2 [.inr (some 2), .inl row, .inl 2, .inl a, .inl b] t (hy_p (fun _ => True) t) := by
  refine hy_mk_ct ok_W_envies ck_W_envies (Nat.le_of_ble_eq_true rfl) ?_
  refine hy_aload (i := 0) rfl rfl ?_
  refine hy_iload (i := 1) rfl rfl ?_
  refine hy_iload (i := 2) rfl rfl ?_
  refine hy_iload (i := 3) rfl rfl ?_
  refine hy_iload (i := 4) rfl rfl ?_
  refine hy_cV4 (i := 5) rfl mj_W_thoughtOf (by decide) rfl (Nat.le_of_ble_eq_true rfl) rfl rfl rfl (c_W_thoughtOf_2 (by assumption) (by omega) (by omega)) (fun r1_ t1_ h1 => ?_)
  obtain ⟨x1, rfl, hx1, rfl⟩ := h1
  dsimp only [hy_st, List.cons_append, List.nil_append]
  refine hy_aload (i := 6) rfl rfl ?_
  refine hy_iload (i := 7) rfl rfl ?_
  refine hy_iload (i := 8) rfl rfl ?_
  refine hy_iload (i := 9) rfl rfl ?_
  refine hy_iload (i := 10) rfl rfl ?_
  refine hy_cV4 (i := 11) rfl mj_W_thoughtOf (by decide) rfl (Nat.le_of_ble_eq_true rfl) rfl rfl rfl (c_W_thoughtOf_2 (by assumption) (by omega) (by omega)) (fun r2_ t2_ h2 => ?_)
  obtain ⟨x2, rfl, hx2, rfl⟩ := h2
  dsimp only [hy_st, List.cons_append, List.nil_append]
  refine hy_ic_le (i := 12) (tt := 15) rfl (fun zc1 => ?_) (fun zc1 => ?_)
  · refine hy_const (i := 15) rfl (by decide) ?_
    refine hy_zreturn (i := 16) rfl rfl (by first | decide | exact hy_b01 _) ?_
    exact ⟨_, rfl, trivial, rfl⟩
  · refine hy_const (i := 13) rfl (by decide) ?_
    refine hy_goto (i := 14) (tt := 16) rfl ?_
    refine hy_zreturn (i := 16) rfl rfl (by first | decide | exact hy_b01 _) ?_
    exact ⟨_, rfl, trivial, rfl⟩
theorem c_W_envyOf_2 {row : Int} (h : tp_ok t) (hr : 0 ≤ row ∧ row < 100) : hy_Ct sc hm_W_envyOf 3 [.inr (some 2), .inl row, .inl 2] t (hy_p (fun _ => True) t) := by
  refine hy_mk_ct ok_W_envyOf ck_W_envyOf (Nat.le_of_ble_eq_true rfl) ?_
  have loop : ∀ (n : Nat), ∀ (k : Nat) (s : Int) (v5 : hy_V), n + k = 2 → (0 ≤ s ∧ s ≤ 3 * k) → hy_W sc hm_W_envyOf 3 4 [.inr (some 2), .inl row, .inl 2, .inl s, .inl (k : Int), v5] [] t (hy_p (fun _ => True) t) := by
    intro n
    induction n with
    | zero =>
      intro k s v5 hn hs
      refine hy_iload (i := 4) rfl rfl ?_
      refine hy_iload (i := 5) rfl rfl ?_
      refine hy_ic_ge (i := 6) (tt := 33) rfl (fun zc1 => ?_) (fun zc1 => ?_)
      · refine hy_iload (i := 33) rfl rfl ?_
        refine hy_ireturn (i := 34) rfl rfl ?_
        exact ⟨_, rfl, trivial, rfl⟩
      · omega
    | succ n ih =>
      intro k s v5 hn hs
      have inner : ∀ (n2 : Nat), ∀ (j : Nat) (s2 : Int), n2 + j = 2 → (0 ≤ s2 ∧ s2 + n2 ≤ 3 * k + 3) → hy_W sc hm_W_envyOf 3 11 [.inr (some 2), .inl row, .inl 2, .inl s2, .inl (k : Int), .inl (j : Int)] [] t (hy_p (fun _ => True) t) := by
        intro n2
        induction n2 with
        | zero =>
          intro j s2 hn2 hs2
          refine hy_iload (i := 11) rfl rfl ?_
          refine hy_iload (i := 12) rfl rfl ?_
          refine hy_ic_ge (i := 13) (tt := 31) rfl (fun zc1 => ?_) (fun zc1 => ?_)
          · refine hy_iinc (i := 31) rfl rfl (by omega) ?_
            refine hy_goto (i := 32) (tt := 4) rfl ?_
            exact ih (k + 1) _ _ (by omega) (by omega)
          · omega
        | succ n2 ih2 =>
          intro j s2 hn2 hs2
          refine hy_iload (i := 11) rfl rfl ?_
          refine hy_iload (i := 12) rfl rfl ?_
          refine hy_ic_ge (i := 13) (tt := 31) rfl (fun zc1 => ?_) (fun zc1 => ?_)
          · omega
          · refine hy_aload (i := 14) rfl rfl ?_
            refine hy_iload (i := 15) rfl rfl ?_
            refine hy_iload (i := 16) rfl rfl ?_
            refine hy_iload (i := 17) rfl rfl ?_
            refine hy_iload (i := 18) rfl rfl ?_
            refine hy_cV4 (i := 19) rfl mj_W_envies (by decide) rfl (Nat.le_of_ble_eq_true rfl) rfl rfl rfl (c_W_envies_2 (by assumption) (by omega) (by omega)) (fun r1_ t1_ h1 => ?_)
            obtain ⟨x1, rfl, hx1, rfl⟩ := h1
            dsimp only [hy_st, List.cons_append, List.nil_append]
            refine hy_if_ne (i := 20) (tt := 28) rfl (fun zc2 => ?_) (fun zc2 => ?_)
            · refine hy_iinc (i := 28) rfl rfl (by omega) ?_
              refine hy_iinc (i := 29) rfl rfl (by omega) ?_
              refine hy_goto (i := 30) (tt := 11) rfl ?_
              exact ih2 (j + 1) _ (by omega) (by omega)
            · refine hy_aload (i := 21) rfl rfl ?_
              refine hy_iload (i := 22) rfl rfl ?_
              refine hy_iload (i := 23) rfl rfl ?_
              refine hy_iload (i := 24) rfl rfl ?_
              refine hy_iload (i := 25) rfl rfl ?_
              refine hy_cV4 (i := 26) rfl mj_W_envies (by decide) rfl (Nat.le_of_ble_eq_true rfl) rfl rfl rfl (c_W_envies_2 (by assumption) (by omega) (by omega)) (fun r2_ t2_ h2 => ?_)
              obtain ⟨x2, rfl, hx2, rfl⟩ := h2
              dsimp only [hy_st, List.cons_append, List.nil_append]
              refine hy_if_eq (i := 27) (tt := 29) rfl (fun zc3 => ?_) (fun zc3 => ?_)
              · refine hy_iinc (i := 29) rfl rfl (by omega) ?_
                refine hy_goto (i := 30) (tt := 11) rfl ?_
                exact ih2 (j + 1) _ (by omega) (by omega)
              · refine hy_iinc (i := 28) rfl rfl (by omega) ?_
                refine hy_iinc (i := 29) rfl rfl (by omega) ?_
                refine hy_goto (i := 30) (tt := 11) rfl ?_
                exact ih2 (j + 1) _ (by omega) (by omega)
      refine hy_iload (i := 4) rfl rfl ?_
      refine hy_iload (i := 5) rfl rfl ?_
      refine hy_ic_ge (i := 6) (tt := 33) rfl (fun zc1 => ?_) (fun zc1 => ?_)
      · omega
      · refine hy_iload (i := 7) rfl rfl ?_
        refine hy_const (i := 8) rfl (by decide) ?_
        refine hy_iadd (i := 9) rfl (by omega) ?_
        refine hy_istore (i := 10) rfl ?_
        exact inner (2 - (k + 1)) (k + 1) _ (by omega) (by omega)
  refine hy_const (i := 0) rfl (by decide) ?_
  refine hy_istore (i := 1) rfl ?_
  refine hy_const (i := 2) rfl (by decide) ?_
  refine hy_istore (i := 3) rfl ?_
  exact loop 2 0 _ _ rfl (by decide)
theorem c_W_areThoughts_2 {n : Int} (h : tp_ok t) (hn : n ≤ 100) : hy_Ct sc hm_W_areThoughts 1 [.inr (some 2), .inl n] t (hy_p (fun _ => True) t) := by
  refine hy_mk_ct ok_W_areThoughts ck_W_areThoughts (Nat.le_of_ble_eq_true rfl) ?_
  have loop : ∀ (m : Nat), ∀ (k : Nat), m + k = n.toNat → hy_W sc hm_W_areThoughts 1 2 [.inr (some 2), .inl n, .inl (k : Int)] [] t (hy_p (fun _ => True) t) := by
    intro m
    induction m with
    | zero =>
      intro k hm
      refine hy_iload (i := 2) rfl rfl ?_
      refine hy_iload (i := 3) rfl rfl ?_
      refine hy_ic_ge (i := 4) (tt := 15) rfl (fun zc1 => ?_) (fun zc1 => ?_)
      · refine hy_const (i := 15) rfl (by decide) ?_
        refine hy_zreturn (i := 16) rfl rfl (by first | decide | exact hy_b01 _) ?_
        exact ⟨_, rfl, trivial, rfl⟩
      · omega
    | succ m ih =>
      intro k hm
      refine hy_iload (i := 2) rfl rfl ?_
      refine hy_iload (i := 3) rfl rfl ?_
      refine hy_ic_ge (i := 4) (tt := 15) rfl (fun zc1 => ?_) (fun zc1 => ?_)
      · omega
      · refine hy_aload (i := 5) rfl rfl ?_
        refine hy_getr (i := 6) rfl rfl ?_
        refine hy_iload (i := 7) rfl rfl ?_
        refine hy_cV1e (i := 8) rfl mj_T_at (by decide) rfl (Nat.le_of_ble_eq_true rfl) rfl rfl rfl (c_T_at (by have := tp_ok.l (by assumption); omega)) ?_
        refine hy_const (i := 9) rfl (by decide) ?_
        refine hy_ic_le (i := 10) (tt := 13) rfl (fun zc2 => ?_) (fun zc2 => ?_)
        · refine hy_iinc (i := 13) rfl rfl (by omega) ?_
          refine hy_goto (i := 14) (tt := 2) rfl ?_
          exact ih (k + 1) (by omega)
        · refine hy_const (i := 11) rfl (by decide) ?_
          refine hy_zreturn (i := 12) rfl rfl (by first | decide | exact hy_b01 _) ?_
          exact ⟨_, rfl, trivial, rfl⟩
  refine hy_const (i := 0) rfl (by decide) ?_
  refine hy_istore (i := 1) rfl ?_
  exact loop n.toNat 0 rfl
end PT2
section PT3
variable {sc : List Int32} {t : hy_T}
theorem c_W_placeIn_3 {row q : Int} (hr : 0 ≤ row ∧ row < 100) (hq : 0 ≤ q ∧ q ≤ 3) : hy_Ct sc hm_W_placeIn 0 [.inl row, .inl 3, .inl q] t (hy_p (fun x => 0 ≤ x ∧ x < 3) t) := by
  refine hy_mk_ct ok_W_placeIn ck_W_placeIn (Nat.le_of_ble_eq_true rfl) ?_
  have loop : ∀ (n : Nat), ∀ (r l : Int), l = q + n → l ≤ 3 → (0 ≤ r ∧ r < 100) → hy_W sc hm_W_placeIn 0 4 [.inl row, .inl 3, .inl q, .inl r, .inl l] [] t (hy_p (fun x => 0 ≤ x ∧ x < 3) t) := by
    intro n
    induction n with
    | zero =>
      intro r l hl hl3 hr
      refine hy_iload (i := 4) rfl rfl ?_
      refine hy_iload (i := 5) rfl rfl ?_
      refine hy_ic_le (i := 6) (tt := 17) rfl (fun zc1 => ?_) (fun zc1 => ?_)
      · refine hy_iload (i := 17) rfl rfl ?_
        refine hy_if_le (i := 18) (tt := 23) rfl (fun zc2 => ?_) (fun zc2 => ?_)
        · omega
        · refine hy_iload (i := 19) rfl rfl ?_
          refine hy_iload (i := 20) rfl rfl ?_
          refine hy_irem (i := 21) rfl (by omega) (by omega) ?_
          refine hy_goto (i := 22) (tt := 24) rfl ?_
          refine hy_ireturn (i := 24) rfl rfl ?_
          exact ⟨_, rfl, by omega, rfl⟩
      · omega
    | succ n ih =>
      intro r l hl hl3 hr
      refine hy_iload (i := 4) rfl rfl ?_
      refine hy_iload (i := 5) rfl rfl ?_
      refine hy_ic_le (i := 6) (tt := 17) rfl (fun zc1 => ?_) (fun zc1 => ?_)
      · omega
      · refine hy_iload (i := 7) rfl rfl ?_
        refine hy_if_le (i := 8) (tt := 13) rfl (fun zc2 => ?_) (fun zc2 => ?_)
        · omega
        · refine hy_iload (i := 9) rfl rfl ?_
          refine hy_iload (i := 10) rfl rfl ?_
          refine hy_idiv (i := 11) rfl (by omega) (by omega) ?_
          refine hy_goto (i := 12) (tt := 14) rfl ?_
          refine hy_istore (i := 14) rfl ?_
          refine hy_iinc (i := 15) rfl rfl (by omega) ?_
          refine hy_goto (i := 16) (tt := 4) rfl ?_
          exact ih _ _ (by omega) (by omega) (by omega)
  refine hy_iload (i := 0) rfl rfl ?_
  refine hy_istore (i := 1) rfl ?_
  refine hy_const (i := 2) rfl (by decide) ?_
  refine hy_istore (i := 3) rfl ?_
  exact loop (3 - q).toNat _ _ (by omega) (by decide) hr
theorem c_W_thoughtOf_3 {row a b : Int} (h : tp_ok t) (hr : 0 ≤ row ∧ row < 100) (ha : 0 ≤ a ∧ a ≤ 3) : hy_Ct sc hm_W_thoughtOf 1 [.inr (some 2), .inl row, .inl 3, .inl a, .inl b] t (hy_p (fun x => 0 ≤ x ∧ x ≤ 1020) t) := by
  refine hy_mk_ct ok_W_thoughtOf ck_W_thoughtOf (Nat.le_of_ble_eq_true rfl) ?_
  have loop : ∀ (n : Nat), ∀ (k : Nat) (s : Int), n + k = 4 → (0 ≤ s ∧ s ≤ 255 * k) → hy_W sc hm_W_thoughtOf 1 4 [.inr (some 2), .inl row, .inl 3, .inl a, .inl b, .inl s, .inl (k : Int)] [] t (hy_p (fun x => 0 ≤ x ∧ x ≤ 1020) t) := by
    intro n
    induction n with
    | zero =>
      intro k s hn hs
      refine hy_iload (i := 4) rfl rfl ?_
      refine hy_const (i := 5) rfl (by decide) ?_
      refine hy_ic_ge (i := 6) (tt := 26) rfl (fun zc1 => ?_) (fun zc1 => ?_)
      · refine hy_iload (i := 26) rfl rfl ?_
        refine hy_ireturn (i := 27) rfl rfl ?_
        exact ⟨_, rfl, by omega, rfl⟩
      · omega
    | succ n ih =>
      intro k s hn hs
      have hb := tp_at_in h (4 * a + k)
      refine hy_iload (i := 4) rfl rfl ?_
      refine hy_const (i := 5) rfl (by decide) ?_
      refine hy_ic_ge (i := 6) (tt := 26) rfl (fun zc1 => ?_) (fun zc1 => ?_)
      · omega
      · refine hy_iload (i := 7) rfl rfl ?_
        refine hy_iload (i := 8) rfl rfl ?_
        refine hy_iload (i := 9) rfl rfl ?_
        refine hy_cS3 (i := 10) rfl (by decide) mj_W_placeIn (by decide) rfl (Nat.le_of_ble_eq_true rfl) (c_W_placeIn_3 (by omega) (by omega)) (fun r1_ t1_ h1 => ?_)
        obtain ⟨x1, rfl, hx1, rfl⟩ := h1
        dsimp only [hy_st, List.cons_append, List.nil_append]
        refine hy_iload (i := 11) rfl rfl ?_
        refine hy_ic_ne (i := 12) (tt := 24) rfl (fun zc2 => ?_) (fun zc2 => ?_)
        · refine hy_iinc (i := 24) rfl rfl (by omega) ?_
          refine hy_goto (i := 25) (tt := 4) rfl ?_
          exact ih (k + 1) _ (by omega) (by omega)
        · refine hy_iload (i := 13) rfl rfl ?_
          refine hy_aload (i := 14) rfl rfl ?_
          refine hy_getr (i := 15) rfl rfl ?_
          refine hy_const (i := 16) rfl (by decide) ?_
          refine hy_iload (i := 17) rfl rfl ?_
          refine hy_imul (i := 18) rfl (by omega) ?_
          refine hy_iload (i := 19) rfl rfl ?_
          refine hy_iadd (i := 20) rfl (by omega) ?_
          refine hy_cV1e (i := 21) rfl mj_T_at (by decide) rfl (Nat.le_of_ble_eq_true rfl) rfl rfl rfl (c_T_at (by have := tp_ok.l (by assumption); omega)) ?_
          refine hy_iadd (i := 22) rfl (by omega) ?_
          refine hy_istore (i := 23) rfl ?_
          refine hy_iinc (i := 24) rfl rfl (by omega) ?_
          refine hy_goto (i := 25) (tt := 4) rfl ?_
          exact ih (k + 1) _ (by omega) (by omega)
  refine hy_const (i := 0) rfl (by decide) ?_
  refine hy_istore (i := 1) rfl ?_
  refine hy_const (i := 2) rfl (by decide) ?_
  refine hy_istore (i := 3) rfl ?_
  exact loop 4 0 _ rfl (by decide)
theorem c_W_leastOf_3 {row : Int} (h : tp_ok t) (hr : 0 ≤ row ∧ row < 100) : hy_Ct sc hm_W_leastOf 2 [.inr (some 2), .inl row, .inl 3] t (hy_p (fun x => 0 ≤ x ∧ x ≤ 1020) t) := by
  refine hy_mk_ct ok_W_leastOf ck_W_leastOf (Nat.le_of_ble_eq_true rfl) ?_
  have loop : ∀ (n : Nat), ∀ (k : Nat) (s : Int), n + k = 3 → (0 ≤ s ∧ s ≤ 1020) → hy_W sc hm_W_leastOf 2 9 [.inr (some 2), .inl row, .inl 3, .inl s, .inl (k : Int)] [] t (hy_p (fun x => 0 ≤ x ∧ x ≤ 1020) t) := by
    intro n
    induction n with
    | zero =>
      intro k s hn hs
      refine hy_iload (i := 9) rfl rfl ?_
      refine hy_iload (i := 10) rfl rfl ?_
      refine hy_ic_ge (i := 11) (tt := 23) rfl (fun zc1 => ?_) (fun zc1 => ?_)
      · refine hy_iload (i := 23) rfl rfl ?_
        refine hy_ireturn (i := 24) rfl rfl ?_
        exact ⟨_, rfl, by omega, rfl⟩
      · omega
    | succ n ih =>
      intro k s hn hs
      refine hy_iload (i := 9) rfl rfl ?_
      refine hy_iload (i := 10) rfl rfl ?_
      refine hy_ic_ge (i := 11) (tt := 23) rfl (fun zc1 => ?_) (fun zc1 => ?_)
      · omega
      · refine hy_iload (i := 12) rfl rfl ?_
        refine hy_aload (i := 13) rfl rfl ?_
        refine hy_iload (i := 14) rfl rfl ?_
        refine hy_iload (i := 15) rfl rfl ?_
        refine hy_iload (i := 16) rfl rfl ?_
        refine hy_iload (i := 17) rfl rfl ?_
        refine hy_cV4 (i := 18) rfl mj_W_thoughtOf (by decide) rfl (Nat.le_of_ble_eq_true rfl) rfl rfl rfl (c_W_thoughtOf_3 (by assumption) (by omega) (by omega)) (fun r1_ t1_ h1 => ?_)
        obtain ⟨x1, rfl, hx1, rfl⟩ := h1
        dsimp only [hy_st, List.cons_append, List.nil_append]
        refine hy_min (i := 19) rfl (Nat.le_of_ble_eq_true rfl) ?_
        refine hy_istore (i := 20) rfl ?_
        refine hy_iinc (i := 21) rfl rfl (by omega) ?_
        refine hy_goto (i := 22) (tt := 9) rfl ?_
        exact ih (k + 1) _ (by omega) (by split <;> omega)
  refine hy_aload (i := 0) rfl rfl ?_
  refine hy_iload (i := 1) rfl rfl ?_
  refine hy_iload (i := 2) rfl rfl ?_
  refine hy_const (i := 3) rfl (by decide) ?_
  refine hy_const (i := 4) rfl (by decide) ?_
  refine hy_cV4 (i := 5) rfl mj_W_thoughtOf (by decide) rfl (Nat.le_of_ble_eq_true rfl) rfl rfl rfl (c_W_thoughtOf_3 (by assumption) (by omega) (by omega)) (fun r1_ t1_ h1 => ?_)
  obtain ⟨x1, rfl, hx1, rfl⟩ := h1
  dsimp only [hy_st, List.cons_append, List.nil_append]
  refine hy_istore (i := 6) rfl ?_
  refine hy_const (i := 7) rfl (by decide) ?_
  refine hy_istore (i := 8) rfl ?_
  exact loop (3 - 1) 1 _ rfl (by omega)
theorem c_W_fairestRow_3 (h : tp_ok t) : hy_Ct sc hm_W_fairestRow 3 [.inr (some 2), .inl 3] t (hy_p (fun x => 0 ≤ x ∧ x < 100) t) := by
  refine hy_mk_ct ok_W_fairestRow ck_W_fairestRow (Nat.le_of_ble_eq_true rfl) ?_
  have loop : ∀ (n : Nat), ∀ (k : Nat) (b ms : Int) (v6 : hy_V), n + k = 3 * 3 * 3 * 3 → (0 ≤ b ∧ b < 100) → hy_W sc hm_W_fairestRow 3 14 [.inr (some 2), .inl 3, .inl (3 * 3 * 3 * 3), .inl b, .inl ms, .inl (k : Int), v6] [] t (hy_p (fun x => 0 ≤ x ∧ x < 100) t) := by
    intro n
    induction n with
    | zero =>
      intro k b ms v6 hn hb
      refine hy_iload (i := 14) rfl rfl ?_
      refine hy_iload (i := 15) rfl rfl ?_
      refine hy_ic_ge (i := 16) (tt := 31) rfl (fun zc1 => ?_) (fun zc1 => ?_)
      · refine hy_iload (i := 31) rfl rfl ?_
        refine hy_ireturn (i := 32) rfl rfl ?_
        exact ⟨_, rfl, by omega, rfl⟩
      · omega
    | succ n ih =>
      intro k b ms v6 hn hb
      refine hy_iload (i := 14) rfl rfl ?_
      refine hy_iload (i := 15) rfl rfl ?_
      refine hy_ic_ge (i := 16) (tt := 31) rfl (fun zc1 => ?_) (fun zc1 => ?_)
      · omega
      · refine hy_aload (i := 17) rfl rfl ?_
        refine hy_iload (i := 18) rfl rfl ?_
        refine hy_iload (i := 19) rfl rfl ?_
        refine hy_cV2 (i := 20) rfl mj_W_leastOf (by decide) rfl (Nat.le_of_ble_eq_true rfl) rfl rfl rfl (c_W_leastOf_3 (by assumption) (by omega)) (fun r1_ t1_ h1 => ?_)
        obtain ⟨x1, rfl, hx1, rfl⟩ := h1
        dsimp only [hy_st, List.cons_append, List.nil_append]
        refine hy_istore (i := 21) rfl ?_
        refine hy_iload (i := 22) rfl rfl ?_
        refine hy_iload (i := 23) rfl rfl ?_
        refine hy_ic_le (i := 24) (tt := 29) rfl (fun zc2 => ?_) (fun zc2 => ?_)
        · refine hy_iinc (i := 29) rfl rfl (by omega) ?_
          refine hy_goto (i := 30) (tt := 14) rfl ?_
          exact ih (k + 1) _ _ _ (by omega) (by omega)
        · refine hy_iload (i := 25) rfl rfl ?_
          refine hy_istore (i := 26) rfl ?_
          refine hy_iload (i := 27) rfl rfl ?_
          refine hy_istore (i := 28) rfl ?_
          refine hy_iinc (i := 29) rfl rfl (by omega) ?_
          refine hy_goto (i := 30) (tt := 14) rfl ?_
          exact ih (k + 1) _ _ _ (by omega) (by omega)
  refine hy_iload (i := 0) rfl rfl ?_
  refine hy_iload (i := 1) rfl rfl ?_
  refine hy_imul (i := 2) rfl (by omega) ?_
  refine hy_iload (i := 3) rfl rfl ?_
  refine hy_imul (i := 4) rfl (by omega) ?_
  refine hy_iload (i := 5) rfl rfl ?_
  refine hy_imul (i := 6) rfl (by omega) ?_
  refine hy_istore (i := 7) rfl ?_
  refine hy_const (i := 8) rfl (by decide) ?_
  refine hy_istore (i := 9) rfl ?_
  refine hy_const (i := 10) rfl (by decide) ?_
  refine hy_istore (i := 11) rfl ?_
  refine hy_const (i := 12) rfl (by decide) ?_
  refine hy_istore (i := 13) rfl ?_
  exact loop (3 * 3 * 3 * 3) 0 _ _ _ rfl (by decide)
theorem c_W_envies_3 {row a b : Int} (h : tp_ok t) (hr : 0 ≤ row ∧ row < 100) (ha : 0 ≤ a ∧ a ≤ 3) : hy_Ct sc hm_W_envies 2 [.inr (some 2), .inl row, .inl 3, .inl a, .inl b] t (hy_p (fun _ => True) t) := by
  refine hy_mk_ct ok_W_envies ck_W_envies (Nat.le_of_ble_eq_true rfl) ?_
  refine hy_aload (i := 0) rfl rfl ?_
  refine hy_iload (i := 1) rfl rfl ?_
  refine hy_iload (i := 2) rfl rfl ?_
  refine hy_iload (i := 3) rfl rfl ?_
  refine hy_iload (i := 4) rfl rfl ?_
  refine hy_cV4 (i := 5) rfl mj_W_thoughtOf (by decide) rfl (Nat.le_of_ble_eq_true rfl) rfl rfl rfl (c_W_thoughtOf_3 (by assumption) (by omega) (by omega)) (fun r1_ t1_ h1 => ?_)
  obtain ⟨x1, rfl, hx1, rfl⟩ := h1
  dsimp only [hy_st, List.cons_append, List.nil_append]
  refine hy_aload (i := 6) rfl rfl ?_
  refine hy_iload (i := 7) rfl rfl ?_
  refine hy_iload (i := 8) rfl rfl ?_
  refine hy_iload (i := 9) rfl rfl ?_
  refine hy_iload (i := 10) rfl rfl ?_
  refine hy_cV4 (i := 11) rfl mj_W_thoughtOf (by decide) rfl (Nat.le_of_ble_eq_true rfl) rfl rfl rfl (c_W_thoughtOf_3 (by assumption) (by omega) (by omega)) (fun r2_ t2_ h2 => ?_)
  obtain ⟨x2, rfl, hx2, rfl⟩ := h2
  dsimp only [hy_st, List.cons_append, List.nil_append]
  refine hy_ic_le (i := 12) (tt := 15) rfl (fun zc1 => ?_) (fun zc1 => ?_)
  · refine hy_const (i := 15) rfl (by decide) ?_
    refine hy_zreturn (i := 16) rfl rfl (by first | decide | exact hy_b01 _) ?_
    exact ⟨_, rfl, trivial, rfl⟩
  · refine hy_const (i := 13) rfl (by decide) ?_
    refine hy_goto (i := 14) (tt := 16) rfl ?_
    refine hy_zreturn (i := 16) rfl rfl (by first | decide | exact hy_b01 _) ?_
    exact ⟨_, rfl, trivial, rfl⟩
theorem c_W_envyOf_3 {row : Int} (h : tp_ok t) (hr : 0 ≤ row ∧ row < 100) : hy_Ct sc hm_W_envyOf 3 [.inr (some 2), .inl row, .inl 3] t (hy_p (fun _ => True) t) := by
  refine hy_mk_ct ok_W_envyOf ck_W_envyOf (Nat.le_of_ble_eq_true rfl) ?_
  have loop : ∀ (n : Nat), ∀ (k : Nat) (s : Int) (v5 : hy_V), n + k = 3 → (0 ≤ s ∧ s ≤ 3 * k) → hy_W sc hm_W_envyOf 3 4 [.inr (some 2), .inl row, .inl 3, .inl s, .inl (k : Int), v5] [] t (hy_p (fun _ => True) t) := by
    intro n
    induction n with
    | zero =>
      intro k s v5 hn hs
      refine hy_iload (i := 4) rfl rfl ?_
      refine hy_iload (i := 5) rfl rfl ?_
      refine hy_ic_ge (i := 6) (tt := 33) rfl (fun zc1 => ?_) (fun zc1 => ?_)
      · refine hy_iload (i := 33) rfl rfl ?_
        refine hy_ireturn (i := 34) rfl rfl ?_
        exact ⟨_, rfl, trivial, rfl⟩
      · omega
    | succ n ih =>
      intro k s v5 hn hs
      have inner : ∀ (n2 : Nat), ∀ (j : Nat) (s2 : Int), n2 + j = 3 → (0 ≤ s2 ∧ s2 + n2 ≤ 3 * k + 3) → hy_W sc hm_W_envyOf 3 11 [.inr (some 2), .inl row, .inl 3, .inl s2, .inl (k : Int), .inl (j : Int)] [] t (hy_p (fun _ => True) t) := by
        intro n2
        induction n2 with
        | zero =>
          intro j s2 hn2 hs2
          refine hy_iload (i := 11) rfl rfl ?_
          refine hy_iload (i := 12) rfl rfl ?_
          refine hy_ic_ge (i := 13) (tt := 31) rfl (fun zc1 => ?_) (fun zc1 => ?_)
          · refine hy_iinc (i := 31) rfl rfl (by omega) ?_
            refine hy_goto (i := 32) (tt := 4) rfl ?_
            exact ih (k + 1) _ _ (by omega) (by omega)
          · omega
        | succ n2 ih2 =>
          intro j s2 hn2 hs2
          refine hy_iload (i := 11) rfl rfl ?_
          refine hy_iload (i := 12) rfl rfl ?_
          refine hy_ic_ge (i := 13) (tt := 31) rfl (fun zc1 => ?_) (fun zc1 => ?_)
          · omega
          · refine hy_aload (i := 14) rfl rfl ?_
            refine hy_iload (i := 15) rfl rfl ?_
            refine hy_iload (i := 16) rfl rfl ?_
            refine hy_iload (i := 17) rfl rfl ?_
            refine hy_iload (i := 18) rfl rfl ?_
            refine hy_cV4 (i := 19) rfl mj_W_envies (by decide) rfl (Nat.le_of_ble_eq_true rfl) rfl rfl rfl (c_W_envies_3 (by assumption) (by omega) (by omega)) (fun r1_ t1_ h1 => ?_)
            obtain ⟨x1, rfl, hx1, rfl⟩ := h1
            dsimp only [hy_st, List.cons_append, List.nil_append]
            refine hy_if_ne (i := 20) (tt := 28) rfl (fun zc2 => ?_) (fun zc2 => ?_)
            · refine hy_iinc (i := 28) rfl rfl (by omega) ?_
              refine hy_iinc (i := 29) rfl rfl (by omega) ?_
              refine hy_goto (i := 30) (tt := 11) rfl ?_
              exact ih2 (j + 1) _ (by omega) (by omega)
            · refine hy_aload (i := 21) rfl rfl ?_
              refine hy_iload (i := 22) rfl rfl ?_
              refine hy_iload (i := 23) rfl rfl ?_
              refine hy_iload (i := 24) rfl rfl ?_
              refine hy_iload (i := 25) rfl rfl ?_
              refine hy_cV4 (i := 26) rfl mj_W_envies (by decide) rfl (Nat.le_of_ble_eq_true rfl) rfl rfl rfl (c_W_envies_3 (by assumption) (by omega) (by omega)) (fun r2_ t2_ h2 => ?_)
              obtain ⟨x2, rfl, hx2, rfl⟩ := h2
              dsimp only [hy_st, List.cons_append, List.nil_append]
              refine hy_if_eq (i := 27) (tt := 29) rfl (fun zc3 => ?_) (fun zc3 => ?_)
              · refine hy_iinc (i := 29) rfl rfl (by omega) ?_
                refine hy_goto (i := 30) (tt := 11) rfl ?_
                exact ih2 (j + 1) _ (by omega) (by omega)
              · refine hy_iinc (i := 28) rfl rfl (by omega) ?_
                refine hy_iinc (i := 29) rfl rfl (by omega) ?_
                refine hy_goto (i := 30) (tt := 11) rfl ?_
                exact ih2 (j + 1) _ (by omega) (by omega)
      refine hy_iload (i := 4) rfl rfl ?_
      refine hy_iload (i := 5) rfl rfl ?_
      refine hy_ic_ge (i := 6) (tt := 33) rfl (fun zc1 => ?_) (fun zc1 => ?_)
      · omega
      · refine hy_iload (i := 7) rfl rfl ?_
        refine hy_const (i := 8) rfl (by decide) ?_
        refine hy_iadd (i := 9) rfl (by omega) ?_
        refine hy_istore (i := 10) rfl ?_
        exact inner (3 - (k + 1)) (k + 1) _ (by omega) (by omega)
  refine hy_const (i := 0) rfl (by decide) ?_
  refine hy_istore (i := 1) rfl ?_
  refine hy_const (i := 2) rfl (by decide) ?_
  refine hy_istore (i := 3) rfl ?_
  exact loop 3 0 _ _ rfl (by decide)
theorem c_W_areThoughts_3 {n : Int} (h : tp_ok t) (hn : n ≤ 100) : hy_Ct sc hm_W_areThoughts 1 [.inr (some 2), .inl n] t (hy_p (fun _ => True) t) := by
  refine hy_mk_ct ok_W_areThoughts ck_W_areThoughts (Nat.le_of_ble_eq_true rfl) ?_
  have loop : ∀ (m : Nat), ∀ (k : Nat), m + k = n.toNat → hy_W sc hm_W_areThoughts 1 2 [.inr (some 2), .inl n, .inl (k : Int)] [] t (hy_p (fun _ => True) t) := by
    intro m
    induction m with
    | zero =>
      intro k hm
      refine hy_iload (i := 2) rfl rfl ?_
      refine hy_iload (i := 3) rfl rfl ?_
      refine hy_ic_ge (i := 4) (tt := 15) rfl (fun zc1 => ?_) (fun zc1 => ?_)
      · refine hy_const (i := 15) rfl (by decide) ?_
        refine hy_zreturn (i := 16) rfl rfl (by first | decide | exact hy_b01 _) ?_
        exact ⟨_, rfl, trivial, rfl⟩
      · omega
    | succ m ih =>
      intro k hm
      refine hy_iload (i := 2) rfl rfl ?_
      refine hy_iload (i := 3) rfl rfl ?_
      refine hy_ic_ge (i := 4) (tt := 15) rfl (fun zc1 => ?_) (fun zc1 => ?_)
      · omega
      · refine hy_aload (i := 5) rfl rfl ?_
        refine hy_getr (i := 6) rfl rfl ?_
        refine hy_iload (i := 7) rfl rfl ?_
        refine hy_cV1e (i := 8) rfl mj_T_at (by decide) rfl (Nat.le_of_ble_eq_true rfl) rfl rfl rfl (c_T_at (by have := tp_ok.l (by assumption); omega)) ?_
        refine hy_const (i := 9) rfl (by decide) ?_
        refine hy_ic_le (i := 10) (tt := 13) rfl (fun zc2 => ?_) (fun zc2 => ?_)
        · refine hy_iinc (i := 13) rfl rfl (by omega) ?_
          refine hy_goto (i := 14) (tt := 2) rfl ?_
          exact ih (k + 1) (by omega)
        · refine hy_const (i := 11) rfl (by decide) ?_
          refine hy_zreturn (i := 12) rfl rfl (by first | decide | exact hy_b01 _) ?_
          exact ⟨_, rfl, trivial, rfl⟩
  refine hy_const (i := 0) rfl (by decide) ?_
  refine hy_istore (i := 1) rfl ?_
  exact loop n.toNat 0 rfl
end PT3
/-! the class's own methods: that they end, and what they leave (parted, spies, power) -/
abbrev wf_partok (t : hy_T) (m w : Int) : Prop := (2 ≤ m ∧ m ≤ 3) ∧ ((0 ≤ w ∧ w < 2) ∨ 0 ≤ wf_w10 w ∧ wf_w10 w < 4) ∧ 4 * m ≤ t 3 1
section WE
variable {sc : List Int32} {t : hy_T}
theorem hy_absw {u : hx_M} {d i : Nat} {loc st : List hy_V} {Q : Option Int → hy_T → Prop} {x : Int} (hop : (hx_ops u)[i]? = some (.invokestatic 9993)) (hl : st.length ≤ 8) (kk : ∀ y : Int, hy_R y → hy_W sc u d (i + 1) loc (.inl y :: st) t Q) : hy_W sc u d i loc (.inl x :: st) t Q := fun h1 h2 h3 => by
  have hv : (st.map hy_v).all hx_v = true := by
    rw [List.all_eq_true]
    intro v hv
    obtain ⟨w, -, rfl⟩ := List.mem_map.mp hv
    exact hy_vv w
  refine hx_abs hop hv (by simpa using hl) ?_
  have h := kk (if 0 ≤ Int32.ofInt x then Int32.ofInt x else 0 - Int32.ofInt x).toInt (hy_Ri _) h1 (hy_cons (hy_Ri _) (hy_one h2).2) h3
  simp only [List.map_cons, hy_v, hy_oi] at h
  exact h
theorem c_W_parted_2 {w : Int} (h : tp_ok t) : hy_Ct sc hm_W_parted 4 [.inr (some 2), .inl 2, .inl w] t (fun r t' => (∃ x : Int, r = some x) ∧ t' = if wf_partok t 2 w then hy_up t 3 1 0 else t) := by
  refine hy_mk_ct ok_W_parted ck_W_parted (Nat.le_of_ble_eq_true rfl) ?_
  by_cases hq : wf_partok t 2 w
  · simp only [if_pos hq]
    have h9 : (0 ≤ w ∧ w < 2) ∨ 0 ≤ (Int32.ofInt (w - 10)).toInt ∧ (Int32.ofInt (w - 10)).toInt < 4 := hq.2.1
    have fin : ∀ (v3 v4 v5 : hy_V) (x : Int), hy_W sc hm_W_parted 4 60 [.inr (some 2), .inl 2, .inl w, v3, .inl x, v5] [] t (fun r t' => (∃ x : Int, r = some x) ∧ t' = hy_up t 3 1 0) := by
      intro v3 v4 v5 x
      refine hy_aload (i := 60) rfl rfl ?_
      refine hy_getr (i := 61) rfl rfl ?_
      refine hy_cV0v (i := 62) rfl mj_T_clear (by decide) rfl (Nat.le_of_ble_eq_true rfl) rfl rfl rfl (c_T_clear) ?_
      refine hy_iload (i := 63) rfl rfl ?_
      refine hy_ireturn (i := 64) rfl rfl ?_
      exact ⟨⟨_, rfl⟩, rfl⟩
    refine hy_iload (i := 0) rfl rfl ?_
    refine hy_const (i := 1) rfl (by decide) ?_
    refine hy_isubw (i := 2) rfl ?_
    refine hy_cS1e (i := 3) rfl (by decide) mj_W_isQuarter (by decide) rfl (Nat.le_of_ble_eq_true rfl) (c_W_isQuarter) ?_
    refine hy_istore (i := 4) rfl ?_
    refine hy_iload (i := 5) rfl rfl ?_
    refine hy_const (i := 6) rfl (by decide) ?_
    refine hy_ic_lt (i := 7) (tt := 24) rfl (fun zc1 => ?_) (fun zc1 => ?_)
    · omega
    · refine hy_iload (i := 8) rfl rfl ?_
      refine hy_const (i := 9) rfl (by decide) ?_
      refine hy_ic_gt (i := 10) (tt := 24) rfl (fun zc2 => ?_) (fun zc2 => ?_)
      · omega
      · refine hy_iload (i := 11) rfl rfl ?_
        refine hy_const (i := 12) rfl (by decide) ?_
        refine hy_cS2e (i := 13) rfl (by decide) mj_W_isAmong (by decide) rfl (Nat.le_of_ble_eq_true rfl) (c_W_isAmong) ?_
        refine hy_ib_ne (i := 14) (tt := 17) rfl (fun zc3 => ?_) (fun zc3 => ?_)
        · refine hy_aload (i := 17) rfl rfl ?_
          refine hy_getr (i := 18) rfl rfl ?_
          refine hy_cV0e (i := 19) rfl mj_T_length (by decide) rfl (Nat.le_of_ble_eq_true rfl) rfl rfl rfl (c_T_length) ?_
          refine hy_const (i := 20) rfl (by decide) ?_
          refine hy_iload (i := 21) rfl rfl ?_
          refine hy_imul (i := 22) rfl (by omega) ?_
          refine hy_ic_ge (i := 23) (tt := 26) rfl (fun zc4 => ?_) (fun zc4 => ?_)
          · refine hy_const (i := 26) rfl (by decide) ?_
            refine hy_istore (i := 27) rfl ?_
            refine hy_aload (i := 28) rfl rfl ?_
            refine hy_const (i := 29) rfl (by decide) ?_
            refine hy_iload (i := 30) rfl rfl ?_
            refine hy_imul (i := 31) rfl (by omega) ?_
            refine hy_cV1 (i := 32) rfl mj_W_areThoughts (by decide) rfl (Nat.le_of_ble_eq_true rfl) rfl rfl rfl (c_W_areThoughts_2 h (by omega)) (fun r4_ t4_ h4 => ?_)
            obtain ⟨x4, rfl, hx4, rfl⟩ := h4
            dsimp only [hy_st, List.cons_append, List.nil_append]
            refine hy_if_eq (i := 33) (tt := 60) rfl (fun zc5 => ?_) (fun zc5 => ?_)
            · exact fin _ (.inl 0) _ _
            · refine hy_aload (i := 34) rfl rfl ?_
              refine hy_iload (i := 35) rfl rfl ?_
              refine hy_cV1 (i := 36) rfl mj_W_fairestRow (by decide) rfl (Nat.le_of_ble_eq_true rfl) rfl rfl rfl (c_W_fairestRow_2 h) (fun r5_ t5_ h5 => ?_)
              obtain ⟨x5, rfl, hx5, rfl⟩ := h5
              dsimp only [hy_st, List.cons_append, List.nil_append]
              refine hy_istore (i := 37) rfl ?_
              refine hy_iload (i := 38) rfl rfl ?_
              refine hy_ib_eq (i := 39) (tt := 48) rfl (fun zc6 => ?_) (fun zc6 => ?_)
              · refine hy_iload (i := 48) rfl rfl ?_
                refine hy_if_ne (i := 49) (tt := 55) rfl (fun zc7 => ?_) (fun zc7 => ?_)
                · refine hy_aload (i := 55) rfl rfl ?_
                  refine hy_iload (i := 56) rfl rfl ?_
                  refine hy_iload (i := 57) rfl rfl ?_
                  refine hy_cV2 (i := 58) rfl mj_W_envyOf (by decide) rfl (Nat.le_of_ble_eq_true rfl) rfl rfl rfl (c_W_envyOf_2 h (by omega)) (fun r6_ t6_ h6 => ?_)
                  obtain ⟨x6, rfl, hx6, rfl⟩ := h6
                  dsimp only [hy_st, List.cons_append, List.nil_append]
                  refine hy_istore (i := 59) rfl ?_
                  exact fin _ (.inl 0) _ _
                · refine hy_aload (i := 50) rfl rfl ?_
                  refine hy_iload (i := 51) rfl rfl ?_
                  refine hy_iload (i := 52) rfl rfl ?_
                  refine hy_cV2 (i := 53) rfl mj_W_leastOf (by decide) rfl (Nat.le_of_ble_eq_true rfl) rfl rfl rfl (c_W_leastOf_2 h (by omega)) (fun r6_ t6_ h6 => ?_)
                  obtain ⟨x6, rfl, hx6, rfl⟩ := h6
                  dsimp only [hy_st, List.cons_append, List.nil_append]
                  refine hy_goto (i := 54) (tt := 59) rfl ?_
                  refine hy_istore (i := 59) rfl ?_
                  exact fin _ (.inl 0) _ _
              · refine hy_iload (i := 40) rfl rfl ?_
                refine hy_iload (i := 41) rfl rfl ?_
                refine hy_iload (i := 42) rfl rfl ?_
                refine hy_const (i := 43) rfl (by decide) ?_
                refine hy_isubw (i := 44) rfl ?_
                refine hy_cS3 (i := 45) rfl (by decide) mj_W_placeIn (by decide) rfl (Nat.le_of_ble_eq_true rfl) (c_W_placeIn_2 (by omega) (by simp only [decide_eq_true_eq] at *; omega)) (fun r6_ t6_ h6 => ?_)
                obtain ⟨x6, rfl, hx6, rfl⟩ := h6
                dsimp only [hy_st, List.cons_append, List.nil_append]
                refine hy_istore (i := 46) rfl ?_
                refine hy_goto (i := 47) (tt := 60) rfl ?_
                exact fin _ (.inl 0) _ _
          · omega
        · refine hy_iload (i := 15) rfl rfl ?_
          refine hy_ib_eq (i := 16) (tt := 24) rfl (fun zc4 => ?_) (fun zc4 => ?_)
          · exfalso; simp only [decide_eq_false_iff_not] at *; omega
          · refine hy_aload (i := 17) rfl rfl ?_
            refine hy_getr (i := 18) rfl rfl ?_
            refine hy_cV0e (i := 19) rfl mj_T_length (by decide) rfl (Nat.le_of_ble_eq_true rfl) rfl rfl rfl (c_T_length) ?_
            refine hy_const (i := 20) rfl (by decide) ?_
            refine hy_iload (i := 21) rfl rfl ?_
            refine hy_imul (i := 22) rfl (by omega) ?_
            refine hy_ic_ge (i := 23) (tt := 26) rfl (fun zc5 => ?_) (fun zc5 => ?_)
            · refine hy_const (i := 26) rfl (by decide) ?_
              refine hy_istore (i := 27) rfl ?_
              refine hy_aload (i := 28) rfl rfl ?_
              refine hy_const (i := 29) rfl (by decide) ?_
              refine hy_iload (i := 30) rfl rfl ?_
              refine hy_imul (i := 31) rfl (by omega) ?_
              refine hy_cV1 (i := 32) rfl mj_W_areThoughts (by decide) rfl (Nat.le_of_ble_eq_true rfl) rfl rfl rfl (c_W_areThoughts_2 h (by omega)) (fun r4_ t4_ h4 => ?_)
              obtain ⟨x4, rfl, hx4, rfl⟩ := h4
              dsimp only [hy_st, List.cons_append, List.nil_append]
              refine hy_if_eq (i := 33) (tt := 60) rfl (fun zc6 => ?_) (fun zc6 => ?_)
              · exact fin _ (.inl 0) _ _
              · refine hy_aload (i := 34) rfl rfl ?_
                refine hy_iload (i := 35) rfl rfl ?_
                refine hy_cV1 (i := 36) rfl mj_W_fairestRow (by decide) rfl (Nat.le_of_ble_eq_true rfl) rfl rfl rfl (c_W_fairestRow_2 h) (fun r5_ t5_ h5 => ?_)
                obtain ⟨x5, rfl, hx5, rfl⟩ := h5
                dsimp only [hy_st, List.cons_append, List.nil_append]
                refine hy_istore (i := 37) rfl ?_
                refine hy_iload (i := 38) rfl rfl ?_
                refine hy_ib_eq (i := 39) (tt := 48) rfl (fun zc7 => ?_) (fun zc7 => ?_)
                · refine hy_iload (i := 48) rfl rfl ?_
                  refine hy_if_ne (i := 49) (tt := 55) rfl (fun zc8 => ?_) (fun zc8 => ?_)
                  · refine hy_aload (i := 55) rfl rfl ?_
                    refine hy_iload (i := 56) rfl rfl ?_
                    refine hy_iload (i := 57) rfl rfl ?_
                    refine hy_cV2 (i := 58) rfl mj_W_envyOf (by decide) rfl (Nat.le_of_ble_eq_true rfl) rfl rfl rfl (c_W_envyOf_2 h (by omega)) (fun r6_ t6_ h6 => ?_)
                    obtain ⟨x6, rfl, hx6, rfl⟩ := h6
                    dsimp only [hy_st, List.cons_append, List.nil_append]
                    refine hy_istore (i := 59) rfl ?_
                    exact fin _ (.inl 0) _ _
                  · refine hy_aload (i := 50) rfl rfl ?_
                    refine hy_iload (i := 51) rfl rfl ?_
                    refine hy_iload (i := 52) rfl rfl ?_
                    refine hy_cV2 (i := 53) rfl mj_W_leastOf (by decide) rfl (Nat.le_of_ble_eq_true rfl) rfl rfl rfl (c_W_leastOf_2 h (by omega)) (fun r6_ t6_ h6 => ?_)
                    obtain ⟨x6, rfl, hx6, rfl⟩ := h6
                    dsimp only [hy_st, List.cons_append, List.nil_append]
                    refine hy_goto (i := 54) (tt := 59) rfl ?_
                    refine hy_istore (i := 59) rfl ?_
                    exact fin _ (.inl 0) _ _
                · refine hy_iload (i := 40) rfl rfl ?_
                  refine hy_iload (i := 41) rfl rfl ?_
                  refine hy_iload (i := 42) rfl rfl ?_
                  refine hy_const (i := 43) rfl (by decide) ?_
                  refine hy_isubw (i := 44) rfl ?_
                  refine hy_cS3 (i := 45) rfl (by decide) mj_W_placeIn (by decide) rfl (Nat.le_of_ble_eq_true rfl) (c_W_placeIn_2 (by omega) (by simp only [decide_eq_true_eq] at *; omega)) (fun r6_ t6_ h6 => ?_)
                  obtain ⟨x6, rfl, hx6, rfl⟩ := h6
                  dsimp only [hy_st, List.cons_append, List.nil_append]
                  refine hy_istore (i := 46) rfl ?_
                  refine hy_goto (i := 47) (tt := 60) rfl ?_
                  exact fin _ (.inl 0) _ _
            · omega
  · simp only [if_neg hq]
    refine hy_iload (i := 0) rfl rfl ?_
    refine hy_const (i := 1) rfl (by decide) ?_
    refine hy_isubw (i := 2) rfl ?_
    refine hy_cS1e (i := 3) rfl (by decide) mj_W_isQuarter (by decide) rfl (Nat.le_of_ble_eq_true rfl) (c_W_isQuarter) ?_
    refine hy_istore (i := 4) rfl ?_
    refine hy_iload (i := 5) rfl rfl ?_
    refine hy_const (i := 6) rfl (by decide) ?_
    refine hy_ic_lt (i := 7) (tt := 24) rfl (fun zc1 => ?_) (fun zc1 => ?_)
    · refine hy_const (i := 24) rfl (by decide) ?_
      refine hy_ireturn (i := 25) rfl rfl ?_
      exact ⟨⟨_, rfl⟩, rfl⟩
    · refine hy_iload (i := 8) rfl rfl ?_
      refine hy_const (i := 9) rfl (by decide) ?_
      refine hy_ic_gt (i := 10) (tt := 24) rfl (fun zc2 => ?_) (fun zc2 => ?_)
      · refine hy_const (i := 24) rfl (by decide) ?_
        refine hy_ireturn (i := 25) rfl rfl ?_
        exact ⟨⟨_, rfl⟩, rfl⟩
      · refine hy_iload (i := 11) rfl rfl ?_
        refine hy_const (i := 12) rfl (by decide) ?_
        refine hy_cS2e (i := 13) rfl (by decide) mj_W_isAmong (by decide) rfl (Nat.le_of_ble_eq_true rfl) (c_W_isAmong) ?_
        refine hy_ib_ne (i := 14) (tt := 17) rfl (fun zc3 => ?_) (fun zc3 => ?_)
        · refine hy_aload (i := 17) rfl rfl ?_
          refine hy_getr (i := 18) rfl rfl ?_
          refine hy_cV0e (i := 19) rfl mj_T_length (by decide) rfl (Nat.le_of_ble_eq_true rfl) rfl rfl rfl (c_T_length) ?_
          refine hy_const (i := 20) rfl (by decide) ?_
          refine hy_iload (i := 21) rfl rfl ?_
          refine hy_imul (i := 22) rfl (by omega) ?_
          refine hy_ic_ge (i := 23) (tt := 26) rfl (fun zc4 => ?_) (fun zc4 => ?_)
          · exfalso; simp only [decide_eq_true_eq] at *; first | exact hq ⟨by omega, .inl (by omega), by omega⟩ | exact hq ⟨by omega, .inr (by assumption), by omega⟩
          · refine hy_const (i := 24) rfl (by decide) ?_
            refine hy_ireturn (i := 25) rfl rfl ?_
            exact ⟨⟨_, rfl⟩, rfl⟩
        · refine hy_iload (i := 15) rfl rfl ?_
          refine hy_ib_eq (i := 16) (tt := 24) rfl (fun zc4 => ?_) (fun zc4 => ?_)
          · refine hy_const (i := 24) rfl (by decide) ?_
            refine hy_ireturn (i := 25) rfl rfl ?_
            exact ⟨⟨_, rfl⟩, rfl⟩
          · refine hy_aload (i := 17) rfl rfl ?_
            refine hy_getr (i := 18) rfl rfl ?_
            refine hy_cV0e (i := 19) rfl mj_T_length (by decide) rfl (Nat.le_of_ble_eq_true rfl) rfl rfl rfl (c_T_length) ?_
            refine hy_const (i := 20) rfl (by decide) ?_
            refine hy_iload (i := 21) rfl rfl ?_
            refine hy_imul (i := 22) rfl (by omega) ?_
            refine hy_ic_ge (i := 23) (tt := 26) rfl (fun zc5 => ?_) (fun zc5 => ?_)
            · exfalso; simp only [decide_eq_true_eq] at *; first | exact hq ⟨by omega, .inl (by omega), by omega⟩ | exact hq ⟨by omega, .inr (by assumption), by omega⟩
            · refine hy_const (i := 24) rfl (by decide) ?_
              refine hy_ireturn (i := 25) rfl rfl ?_
              exact ⟨⟨_, rfl⟩, rfl⟩
theorem c_W_parted_3 {w : Int} (h : tp_ok t) : hy_Ct sc hm_W_parted 4 [.inr (some 2), .inl 3, .inl w] t (fun r t' => (∃ x : Int, r = some x) ∧ t' = if wf_partok t 3 w then hy_up t 3 1 0 else t) := by
  refine hy_mk_ct ok_W_parted ck_W_parted (Nat.le_of_ble_eq_true rfl) ?_
  by_cases hq : wf_partok t 3 w
  · simp only [if_pos hq]
    have h9 : (0 ≤ w ∧ w < 2) ∨ 0 ≤ (Int32.ofInt (w - 10)).toInt ∧ (Int32.ofInt (w - 10)).toInt < 4 := hq.2.1
    have fin : ∀ (v3 v4 v5 : hy_V) (x : Int), hy_W sc hm_W_parted 4 60 [.inr (some 2), .inl 3, .inl w, v3, .inl x, v5] [] t (fun r t' => (∃ x : Int, r = some x) ∧ t' = hy_up t 3 1 0) := by
      intro v3 v4 v5 x
      refine hy_aload (i := 60) rfl rfl ?_
      refine hy_getr (i := 61) rfl rfl ?_
      refine hy_cV0v (i := 62) rfl mj_T_clear (by decide) rfl (Nat.le_of_ble_eq_true rfl) rfl rfl rfl (c_T_clear) ?_
      refine hy_iload (i := 63) rfl rfl ?_
      refine hy_ireturn (i := 64) rfl rfl ?_
      exact ⟨⟨_, rfl⟩, rfl⟩
    refine hy_iload (i := 0) rfl rfl ?_
    refine hy_const (i := 1) rfl (by decide) ?_
    refine hy_isubw (i := 2) rfl ?_
    refine hy_cS1e (i := 3) rfl (by decide) mj_W_isQuarter (by decide) rfl (Nat.le_of_ble_eq_true rfl) (c_W_isQuarter) ?_
    refine hy_istore (i := 4) rfl ?_
    refine hy_iload (i := 5) rfl rfl ?_
    refine hy_const (i := 6) rfl (by decide) ?_
    refine hy_ic_lt (i := 7) (tt := 24) rfl (fun zc1 => ?_) (fun zc1 => ?_)
    · omega
    · refine hy_iload (i := 8) rfl rfl ?_
      refine hy_const (i := 9) rfl (by decide) ?_
      refine hy_ic_gt (i := 10) (tt := 24) rfl (fun zc2 => ?_) (fun zc2 => ?_)
      · omega
      · refine hy_iload (i := 11) rfl rfl ?_
        refine hy_const (i := 12) rfl (by decide) ?_
        refine hy_cS2e (i := 13) rfl (by decide) mj_W_isAmong (by decide) rfl (Nat.le_of_ble_eq_true rfl) (c_W_isAmong) ?_
        refine hy_ib_ne (i := 14) (tt := 17) rfl (fun zc3 => ?_) (fun zc3 => ?_)
        · refine hy_aload (i := 17) rfl rfl ?_
          refine hy_getr (i := 18) rfl rfl ?_
          refine hy_cV0e (i := 19) rfl mj_T_length (by decide) rfl (Nat.le_of_ble_eq_true rfl) rfl rfl rfl (c_T_length) ?_
          refine hy_const (i := 20) rfl (by decide) ?_
          refine hy_iload (i := 21) rfl rfl ?_
          refine hy_imul (i := 22) rfl (by omega) ?_
          refine hy_ic_ge (i := 23) (tt := 26) rfl (fun zc4 => ?_) (fun zc4 => ?_)
          · refine hy_const (i := 26) rfl (by decide) ?_
            refine hy_istore (i := 27) rfl ?_
            refine hy_aload (i := 28) rfl rfl ?_
            refine hy_const (i := 29) rfl (by decide) ?_
            refine hy_iload (i := 30) rfl rfl ?_
            refine hy_imul (i := 31) rfl (by omega) ?_
            refine hy_cV1 (i := 32) rfl mj_W_areThoughts (by decide) rfl (Nat.le_of_ble_eq_true rfl) rfl rfl rfl (c_W_areThoughts_3 h (by omega)) (fun r4_ t4_ h4 => ?_)
            obtain ⟨x4, rfl, hx4, rfl⟩ := h4
            dsimp only [hy_st, List.cons_append, List.nil_append]
            refine hy_if_eq (i := 33) (tt := 60) rfl (fun zc5 => ?_) (fun zc5 => ?_)
            · exact fin _ (.inl 0) _ _
            · refine hy_aload (i := 34) rfl rfl ?_
              refine hy_iload (i := 35) rfl rfl ?_
              refine hy_cV1 (i := 36) rfl mj_W_fairestRow (by decide) rfl (Nat.le_of_ble_eq_true rfl) rfl rfl rfl (c_W_fairestRow_3 h) (fun r5_ t5_ h5 => ?_)
              obtain ⟨x5, rfl, hx5, rfl⟩ := h5
              dsimp only [hy_st, List.cons_append, List.nil_append]
              refine hy_istore (i := 37) rfl ?_
              refine hy_iload (i := 38) rfl rfl ?_
              refine hy_ib_eq (i := 39) (tt := 48) rfl (fun zc6 => ?_) (fun zc6 => ?_)
              · refine hy_iload (i := 48) rfl rfl ?_
                refine hy_if_ne (i := 49) (tt := 55) rfl (fun zc7 => ?_) (fun zc7 => ?_)
                · refine hy_aload (i := 55) rfl rfl ?_
                  refine hy_iload (i := 56) rfl rfl ?_
                  refine hy_iload (i := 57) rfl rfl ?_
                  refine hy_cV2 (i := 58) rfl mj_W_envyOf (by decide) rfl (Nat.le_of_ble_eq_true rfl) rfl rfl rfl (c_W_envyOf_3 h (by omega)) (fun r6_ t6_ h6 => ?_)
                  obtain ⟨x6, rfl, hx6, rfl⟩ := h6
                  dsimp only [hy_st, List.cons_append, List.nil_append]
                  refine hy_istore (i := 59) rfl ?_
                  exact fin _ (.inl 0) _ _
                · refine hy_aload (i := 50) rfl rfl ?_
                  refine hy_iload (i := 51) rfl rfl ?_
                  refine hy_iload (i := 52) rfl rfl ?_
                  refine hy_cV2 (i := 53) rfl mj_W_leastOf (by decide) rfl (Nat.le_of_ble_eq_true rfl) rfl rfl rfl (c_W_leastOf_3 h (by omega)) (fun r6_ t6_ h6 => ?_)
                  obtain ⟨x6, rfl, hx6, rfl⟩ := h6
                  dsimp only [hy_st, List.cons_append, List.nil_append]
                  refine hy_goto (i := 54) (tt := 59) rfl ?_
                  refine hy_istore (i := 59) rfl ?_
                  exact fin _ (.inl 0) _ _
              · refine hy_iload (i := 40) rfl rfl ?_
                refine hy_iload (i := 41) rfl rfl ?_
                refine hy_iload (i := 42) rfl rfl ?_
                refine hy_const (i := 43) rfl (by decide) ?_
                refine hy_isubw (i := 44) rfl ?_
                refine hy_cS3 (i := 45) rfl (by decide) mj_W_placeIn (by decide) rfl (Nat.le_of_ble_eq_true rfl) (c_W_placeIn_3 (by omega) (by simp only [decide_eq_true_eq] at *; omega)) (fun r6_ t6_ h6 => ?_)
                obtain ⟨x6, rfl, hx6, rfl⟩ := h6
                dsimp only [hy_st, List.cons_append, List.nil_append]
                refine hy_istore (i := 46) rfl ?_
                refine hy_goto (i := 47) (tt := 60) rfl ?_
                exact fin _ (.inl 0) _ _
          · omega
        · refine hy_iload (i := 15) rfl rfl ?_
          refine hy_ib_eq (i := 16) (tt := 24) rfl (fun zc4 => ?_) (fun zc4 => ?_)
          · exfalso; simp only [decide_eq_false_iff_not] at *; omega
          · refine hy_aload (i := 17) rfl rfl ?_
            refine hy_getr (i := 18) rfl rfl ?_
            refine hy_cV0e (i := 19) rfl mj_T_length (by decide) rfl (Nat.le_of_ble_eq_true rfl) rfl rfl rfl (c_T_length) ?_
            refine hy_const (i := 20) rfl (by decide) ?_
            refine hy_iload (i := 21) rfl rfl ?_
            refine hy_imul (i := 22) rfl (by omega) ?_
            refine hy_ic_ge (i := 23) (tt := 26) rfl (fun zc5 => ?_) (fun zc5 => ?_)
            · refine hy_const (i := 26) rfl (by decide) ?_
              refine hy_istore (i := 27) rfl ?_
              refine hy_aload (i := 28) rfl rfl ?_
              refine hy_const (i := 29) rfl (by decide) ?_
              refine hy_iload (i := 30) rfl rfl ?_
              refine hy_imul (i := 31) rfl (by omega) ?_
              refine hy_cV1 (i := 32) rfl mj_W_areThoughts (by decide) rfl (Nat.le_of_ble_eq_true rfl) rfl rfl rfl (c_W_areThoughts_3 h (by omega)) (fun r4_ t4_ h4 => ?_)
              obtain ⟨x4, rfl, hx4, rfl⟩ := h4
              dsimp only [hy_st, List.cons_append, List.nil_append]
              refine hy_if_eq (i := 33) (tt := 60) rfl (fun zc6 => ?_) (fun zc6 => ?_)
              · exact fin _ (.inl 0) _ _
              · refine hy_aload (i := 34) rfl rfl ?_
                refine hy_iload (i := 35) rfl rfl ?_
                refine hy_cV1 (i := 36) rfl mj_W_fairestRow (by decide) rfl (Nat.le_of_ble_eq_true rfl) rfl rfl rfl (c_W_fairestRow_3 h) (fun r5_ t5_ h5 => ?_)
                obtain ⟨x5, rfl, hx5, rfl⟩ := h5
                dsimp only [hy_st, List.cons_append, List.nil_append]
                refine hy_istore (i := 37) rfl ?_
                refine hy_iload (i := 38) rfl rfl ?_
                refine hy_ib_eq (i := 39) (tt := 48) rfl (fun zc7 => ?_) (fun zc7 => ?_)
                · refine hy_iload (i := 48) rfl rfl ?_
                  refine hy_if_ne (i := 49) (tt := 55) rfl (fun zc8 => ?_) (fun zc8 => ?_)
                  · refine hy_aload (i := 55) rfl rfl ?_
                    refine hy_iload (i := 56) rfl rfl ?_
                    refine hy_iload (i := 57) rfl rfl ?_
                    refine hy_cV2 (i := 58) rfl mj_W_envyOf (by decide) rfl (Nat.le_of_ble_eq_true rfl) rfl rfl rfl (c_W_envyOf_3 h (by omega)) (fun r6_ t6_ h6 => ?_)
                    obtain ⟨x6, rfl, hx6, rfl⟩ := h6
                    dsimp only [hy_st, List.cons_append, List.nil_append]
                    refine hy_istore (i := 59) rfl ?_
                    exact fin _ (.inl 0) _ _
                  · refine hy_aload (i := 50) rfl rfl ?_
                    refine hy_iload (i := 51) rfl rfl ?_
                    refine hy_iload (i := 52) rfl rfl ?_
                    refine hy_cV2 (i := 53) rfl mj_W_leastOf (by decide) rfl (Nat.le_of_ble_eq_true rfl) rfl rfl rfl (c_W_leastOf_3 h (by omega)) (fun r6_ t6_ h6 => ?_)
                    obtain ⟨x6, rfl, hx6, rfl⟩ := h6
                    dsimp only [hy_st, List.cons_append, List.nil_append]
                    refine hy_goto (i := 54) (tt := 59) rfl ?_
                    refine hy_istore (i := 59) rfl ?_
                    exact fin _ (.inl 0) _ _
                · refine hy_iload (i := 40) rfl rfl ?_
                  refine hy_iload (i := 41) rfl rfl ?_
                  refine hy_iload (i := 42) rfl rfl ?_
                  refine hy_const (i := 43) rfl (by decide) ?_
                  refine hy_isubw (i := 44) rfl ?_
                  refine hy_cS3 (i := 45) rfl (by decide) mj_W_placeIn (by decide) rfl (Nat.le_of_ble_eq_true rfl) (c_W_placeIn_3 (by omega) (by simp only [decide_eq_true_eq] at *; omega)) (fun r6_ t6_ h6 => ?_)
                  obtain ⟨x6, rfl, hx6, rfl⟩ := h6
                  dsimp only [hy_st, List.cons_append, List.nil_append]
                  refine hy_istore (i := 46) rfl ?_
                  refine hy_goto (i := 47) (tt := 60) rfl ?_
                  exact fin _ (.inl 0) _ _
            · omega
  · simp only [if_neg hq]
    refine hy_iload (i := 0) rfl rfl ?_
    refine hy_const (i := 1) rfl (by decide) ?_
    refine hy_isubw (i := 2) rfl ?_
    refine hy_cS1e (i := 3) rfl (by decide) mj_W_isQuarter (by decide) rfl (Nat.le_of_ble_eq_true rfl) (c_W_isQuarter) ?_
    refine hy_istore (i := 4) rfl ?_
    refine hy_iload (i := 5) rfl rfl ?_
    refine hy_const (i := 6) rfl (by decide) ?_
    refine hy_ic_lt (i := 7) (tt := 24) rfl (fun zc1 => ?_) (fun zc1 => ?_)
    · refine hy_const (i := 24) rfl (by decide) ?_
      refine hy_ireturn (i := 25) rfl rfl ?_
      exact ⟨⟨_, rfl⟩, rfl⟩
    · refine hy_iload (i := 8) rfl rfl ?_
      refine hy_const (i := 9) rfl (by decide) ?_
      refine hy_ic_gt (i := 10) (tt := 24) rfl (fun zc2 => ?_) (fun zc2 => ?_)
      · refine hy_const (i := 24) rfl (by decide) ?_
        refine hy_ireturn (i := 25) rfl rfl ?_
        exact ⟨⟨_, rfl⟩, rfl⟩
      · refine hy_iload (i := 11) rfl rfl ?_
        refine hy_const (i := 12) rfl (by decide) ?_
        refine hy_cS2e (i := 13) rfl (by decide) mj_W_isAmong (by decide) rfl (Nat.le_of_ble_eq_true rfl) (c_W_isAmong) ?_
        refine hy_ib_ne (i := 14) (tt := 17) rfl (fun zc3 => ?_) (fun zc3 => ?_)
        · refine hy_aload (i := 17) rfl rfl ?_
          refine hy_getr (i := 18) rfl rfl ?_
          refine hy_cV0e (i := 19) rfl mj_T_length (by decide) rfl (Nat.le_of_ble_eq_true rfl) rfl rfl rfl (c_T_length) ?_
          refine hy_const (i := 20) rfl (by decide) ?_
          refine hy_iload (i := 21) rfl rfl ?_
          refine hy_imul (i := 22) rfl (by omega) ?_
          refine hy_ic_ge (i := 23) (tt := 26) rfl (fun zc4 => ?_) (fun zc4 => ?_)
          · exfalso; simp only [decide_eq_true_eq] at *; first | exact hq ⟨by omega, .inl (by omega), by omega⟩ | exact hq ⟨by omega, .inr (by assumption), by omega⟩
          · refine hy_const (i := 24) rfl (by decide) ?_
            refine hy_ireturn (i := 25) rfl rfl ?_
            exact ⟨⟨_, rfl⟩, rfl⟩
        · refine hy_iload (i := 15) rfl rfl ?_
          refine hy_ib_eq (i := 16) (tt := 24) rfl (fun zc4 => ?_) (fun zc4 => ?_)
          · refine hy_const (i := 24) rfl (by decide) ?_
            refine hy_ireturn (i := 25) rfl rfl ?_
            exact ⟨⟨_, rfl⟩, rfl⟩
          · refine hy_aload (i := 17) rfl rfl ?_
            refine hy_getr (i := 18) rfl rfl ?_
            refine hy_cV0e (i := 19) rfl mj_T_length (by decide) rfl (Nat.le_of_ble_eq_true rfl) rfl rfl rfl (c_T_length) ?_
            refine hy_const (i := 20) rfl (by decide) ?_
            refine hy_iload (i := 21) rfl rfl ?_
            refine hy_imul (i := 22) rfl (by omega) ?_
            refine hy_ic_ge (i := 23) (tt := 26) rfl (fun zc5 => ?_) (fun zc5 => ?_)
            · exfalso; simp only [decide_eq_true_eq] at *; first | exact hq ⟨by omega, .inl (by omega), by omega⟩ | exact hq ⟨by omega, .inr (by assumption), by omega⟩
            · refine hy_const (i := 24) rfl (by decide) ?_
              refine hy_ireturn (i := 25) rfl rfl ?_
              exact ⟨⟨_, rfl⟩, rfl⟩
theorem c_W_parted {m w : Int} (h : tp_ok t) : hy_Ct sc hm_W_parted 4 [.inr (some 2), .inl m, .inl w] t (fun r t' => (∃ x : Int, r = some x) ∧ t' = if wf_partok t m w then hy_up t 3 1 0 else t) := by
  by_cases h2 : m = 2
  · subst h2; exact c_W_parted_2 h
  · by_cases h3 : m = 3
    · subst h3; exact c_W_parted_3 h
    · refine hy_mk_ct ok_W_parted ck_W_parted (Nat.le_of_ble_eq_true rfl) ?_
      rw [if_neg (fun q => by have := q.1; omega)]
      refine hy_iload (i := 0) rfl rfl ?_
      refine hy_const (i := 1) rfl (by decide) ?_
      refine hy_isubw (i := 2) rfl ?_
      refine hy_cS1e (i := 3) rfl (by decide) mj_W_isQuarter (by decide) rfl (Nat.le_of_ble_eq_true rfl) (c_W_isQuarter) ?_
      refine hy_istore (i := 4) rfl ?_
      refine hy_iload (i := 5) rfl rfl ?_
      refine hy_const (i := 6) rfl (by decide) ?_
      refine hy_ic_lt (i := 7) (tt := 24) rfl (fun zc1 => ?_) (fun zc1 => ?_)
      · refine hy_const (i := 24) rfl (by decide) ?_
        refine hy_ireturn (i := 25) rfl rfl ?_
        exact ⟨⟨_, rfl⟩, rfl⟩
      · refine hy_iload (i := 8) rfl rfl ?_
        refine hy_const (i := 9) rfl (by decide) ?_
        refine hy_ic_gt (i := 10) (tt := 24) rfl (fun zc2 => ?_) (fun zc2 => ?_)
        · refine hy_const (i := 24) rfl (by decide) ?_
          refine hy_ireturn (i := 25) rfl rfl ?_
          exact ⟨⟨_, rfl⟩, rfl⟩
        · omega
theorem c_W_areShown {n : Int} (h : tp_ok t) (hn : n ≤ 10) : hy_Ct sc hm_W_areShown 2 [.inr (some 2), .inl n] t (hy_p (fun _ => True) t) := by
  refine hy_mk_ct ok_W_areShown ck_W_areShown (Nat.le_of_ble_eq_true rfl) ?_
  have hl := h.l
  have loop : ∀ (m : Nat), ∀ (k : Nat), m + k = n.toNat → hy_W sc hm_W_areShown 2 2 [.inr (some 2), .inl n, .inl (k : Int)] [] t (hy_p (fun _ => True) t) := by
    intro m
    induction m with
    | zero =>
      intro k hm
      refine hy_iload (i := 2) rfl rfl ?_
      refine hy_iload (i := 3) rfl rfl ?_
      refine hy_ic_ge (i := 4) (tt := 40) rfl (fun zc1 => ?_) (fun zc1 => ?_)
      · refine hy_const (i := 40) rfl (by decide) ?_
        refine hy_zreturn (i := 41) rfl rfl (by first | decide | exact hy_b01 _) ?_
        exact ⟨_, rfl, trivial, rfl⟩
      · omega
    | succ m ih =>
      intro k hm
      refine hy_iload (i := 2) rfl rfl ?_
      refine hy_iload (i := 3) rfl rfl ?_
      refine hy_ic_ge (i := 4) (tt := 40) rfl (fun zc1 => ?_) (fun zc1 => ?_)
      · omega
      · refine hy_aload (i := 5) rfl rfl ?_
        refine hy_getr (i := 6) rfl rfl ?_
        refine hy_aload (i := 7) rfl rfl ?_
        refine hy_getr (i := 8) rfl rfl ?_
        refine hy_const (i := 9) rfl (by decide) ?_
        refine hy_iload (i := 10) rfl rfl ?_
        refine hy_imul (i := 11) rfl (by omega) ?_
        refine hy_cV1e (i := 12) rfl mj_T_at (by decide) rfl (Nat.le_of_ble_eq_true rfl) rfl rfl rfl (c_T_at hl.2) ?_
        refine hy_cV1e (i := 13) rfl mj_P_isTold (by decide) rfl (Nat.le_of_ble_eq_true rfl) rfl rfl rfl (c_P_isTold) ?_
        refine hy_ib_eq (i := 14) (tt := 36) rfl (fun zc2 => ?_) (fun zc2 => ?_)
        · refine hy_const (i := 36) rfl (by decide) ?_
          refine hy_zreturn (i := 37) rfl rfl (by first | decide | exact hy_b01 _) ?_
          exact ⟨_, rfl, trivial, rfl⟩
        · refine hy_aload (i := 15) rfl rfl ?_
          refine hy_getr (i := 16) rfl rfl ?_
          refine hy_const (i := 17) rfl (by decide) ?_
          refine hy_iload (i := 18) rfl rfl ?_
          refine hy_imul (i := 19) rfl (by omega) ?_
          refine hy_const (i := 20) rfl (by decide) ?_
          refine hy_iadd (i := 21) rfl (by omega) ?_
          refine hy_cV1e (i := 22) rfl mj_T_at (by decide) rfl (Nat.le_of_ble_eq_true rfl) rfl rfl rfl (c_T_at hl.2) ?_
          refine hy_cS1e (i := 23) rfl (by decide) mj_W_isQuarter (by decide) rfl (Nat.le_of_ble_eq_true rfl) (c_W_isQuarter) ?_
          refine hy_ib_eq (i := 24) (tt := 36) rfl (fun zc3 => ?_) (fun zc3 => ?_)
          · refine hy_const (i := 36) rfl (by decide) ?_
            refine hy_zreturn (i := 37) rfl rfl (by first | decide | exact hy_b01 _) ?_
            exact ⟨_, rfl, trivial, rfl⟩
          · refine hy_aload (i := 25) rfl rfl ?_
            refine hy_getr (i := 26) rfl rfl ?_
            refine hy_const (i := 27) rfl (by decide) ?_
            refine hy_iload (i := 28) rfl rfl ?_
            refine hy_imul (i := 29) rfl (by omega) ?_
            refine hy_const (i := 30) rfl (by decide) ?_
            refine hy_iadd (i := 31) rfl (by omega) ?_
            refine hy_cV1e (i := 32) rfl mj_T_at (by decide) rfl (Nat.le_of_ble_eq_true rfl) rfl rfl rfl (c_T_at hl.2) ?_
            refine hy_const (i := 33) rfl (by decide) ?_
            refine hy_cS2e (i := 34) rfl (by decide) mj_W_isAmong (by decide) rfl (Nat.le_of_ble_eq_true rfl) (c_W_isAmong) ?_
            refine hy_ib_ne (i := 35) (tt := 38) rfl (fun zc4 => ?_) (fun zc4 => ?_)
            · refine hy_iinc (i := 38) rfl rfl (by omega) ?_
              refine hy_goto (i := 39) (tt := 2) rfl ?_
              exact ih (k + 1) (by omega)
            · refine hy_const (i := 36) rfl (by decide) ?_
              refine hy_zreturn (i := 37) rfl rfl (by first | decide | exact hy_b01 _) ?_
              exact ⟨_, rfl, trivial, rfl⟩
  refine hy_const (i := 0) rfl (by decide) ?_
  refine hy_istore (i := 1) rfl ?_
  exact loop n.toNat 0 rfl
abbrev brX : Nat → Nat → Bool := fun r _ => r == 17 || r == 18 || r == 46 || r == 57
theorem lc_ok_br {t1 : hy_T} (h : hy_F brX t t1) (hk : lc_ok t) : lc_ok t1 := lc_ok_same (lc_same_of h (fun r j q => by revert q; simp [lawX, brX]; omega)) hk
theorem c_W_findBright (hk : lc_ok t) : hy_Ct sc hm_W_findBright 5 [.inr (some 2)] t (fun r t' => r = none ∧ hy_F brX t t') := by
  refine hy_mk_ct ok_W_findBright ck_W_findBright (Nat.le_of_ble_eq_true rfl) ?_
  have loop : ∀ (m : Nat), ∀ (k : Nat) (t1 : hy_T), m + k = 24 → hy_F brX t t1 → hy_W sc hm_W_findBright 5 2 [.inr (some 2), .inl (k : Int)] [] t1 (fun r t' => r = none ∧ hy_F brX t t') := by
    intro m
    induction m with
    | zero =>
      intro k t1 hm hF
      refine hy_iload (i := 2) rfl rfl ?_
      refine hy_const (i := 3) rfl (by decide) ?_
      refine hy_ic_ge (i := 4) (tt := 30) rfl (fun zc1 => ?_) (fun zc1 => ?_)
      · refine hy_return (i := 30) rfl rfl ?_
        exact ⟨rfl, hF⟩
      · omega
    | succ m ih =>
      intro k t1 hm hF
      refine hy_iload (i := 2) rfl rfl ?_
      refine hy_const (i := 3) rfl (by decide) ?_
      refine hy_ic_ge (i := 4) (tt := 30) rfl (fun zc1 => ?_) (fun zc1 => ?_)
      · omega
      · refine hy_aload (i := 5) rfl rfl ?_
        refine hy_getr (i := 6) rfl rfl ?_
        refine hy_iload (i := 7) rfl rfl ?_
        refine hy_const (i := 8) rfl (by decide) ?_
        refine hy_idiv (i := 9) rfl (by omega) (by omega) ?_
        refine hy_iload (i := 10) rfl rfl ?_
        refine hy_const (i := 11) rfl (by decide) ?_
        refine hy_irem (i := 12) rfl (by omega) (by omega) ?_
        refine hy_cV2 (i := 13) rfl mj_E_look (by decide) rfl (Nat.le_of_ble_eq_true rfl) rfl rfl rfl (c_E_look (lc_ok_br hF hk)) (fun r1_ t1_ h1 => ?_)
        obtain ⟨rfl, hL1, hF1⟩ := h1
        dsimp only [hy_st, List.nil_append]
        refine hy_aload (i := 14) rfl rfl ?_
        refine hy_getr (i := 15) rfl rfl ?_
        refine hy_iload (i := 16) rfl rfl ?_
        refine hy_aload (i := 17) rfl rfl ?_
        refine hy_getr (i := 18) rfl rfl ?_
        refine hy_cV0e (i := 19) rfl mj_P_told (by decide) rfl (Nat.le_of_ble_eq_true rfl) rfl rfl rfl (c_P_told) ?_
        refine hy_aload (i := 20) rfl rfl ?_
        refine hy_getr (i := 21) rfl rfl ?_
        refine hy_const (i := 22) rfl (by decide) ?_
        refine hy_cV1e (i := 23) rfl mj_E_alike (by decide) rfl (Nat.le_of_ble_eq_true rfl) rfl rfl rfl (c_E_alike) ?_
        refine hy_const (i := 24) rfl (by decide) ?_
        refine hy_ixor (i := 25) rfl ?_
        refine hy_iand (i := 26) rfl ?_
        refine hy_iast (i := 27) rfl rfl (by omega) rfl ?_
        refine hy_iinc (i := 28) rfl rfl (by omega) ?_
        refine hy_goto (i := 29) (tt := 2) rfl ?_
        exact ih (k + 1) _ (by omega) ((hF.tr' (hF1.w (fun r j q => by revert q; simp [lX, brX]; omega))).up rfl)
  refine hy_const (i := 0) rfl (by decide) ?_
  refine hy_istore (i := 1) rfl ?_
  exact loop 24 0 t rfl hy_F.rf
theorem c_W_fits {e n : Int} (h : tp_ok t) (hn : n ≤ 10) (he : 0 ≤ e ∧ e < 6) : hy_Ct sc hm_W_fits 1 [.inr (some 2), .inl e, .inl n] t (hy_p (fun _ => True) t) := by
  refine hy_mk_ct ok_W_fits ck_W_fits (Nat.le_of_ble_eq_true rfl) ?_
  have hl := h.l
  have loop : ∀ (m : Nat), ∀ (k : Nat) (v4 : hy_V), m + k = n.toNat → hy_W sc hm_W_fits 1 2 [.inr (some 2), .inl e, .inl n, .inl (k : Int), v4] [] t (hy_p (fun _ => True) t) := by
    intro m
    induction m with
    | zero =>
      intro k v4 hm
      refine hy_iload (i := 2) rfl rfl ?_
      refine hy_iload (i := 3) rfl rfl ?_
      refine hy_ic_ge (i := 4) (tt := 48) rfl (fun zc1 => ?_) (fun zc1 => ?_)
      · refine hy_const (i := 48) rfl (by decide) ?_
        refine hy_zreturn (i := 49) rfl rfl (by first | decide | exact hy_b01 _) ?_
        exact ⟨_, rfl, trivial, rfl⟩
      · omega
    | succ m ih =>
      intro k v4 hm
      have h1 := tp_at_in h (3 * k + 1)
      refine hy_iload (i := 2) rfl rfl ?_
      refine hy_iload (i := 3) rfl rfl ?_
      refine hy_ic_ge (i := 4) (tt := 48) rfl (fun zc1 => ?_) (fun zc1 => ?_)
      · omega
      · refine hy_const (i := 5) rfl (by decide) ?_
        refine hy_iload (i := 6) rfl rfl ?_
        refine hy_imul (i := 7) rfl (by omega) ?_
        refine hy_aload (i := 8) rfl rfl ?_
        refine hy_getr (i := 9) rfl rfl ?_
        refine hy_const (i := 10) rfl (by decide) ?_
        refine hy_iload (i := 11) rfl rfl ?_
        refine hy_imul (i := 12) rfl (by omega) ?_
        refine hy_const (i := 13) rfl (by decide) ?_
        refine hy_iadd (i := 14) rfl (by omega) ?_
        refine hy_cV1e (i := 15) rfl mj_T_at (by decide) rfl (Nat.le_of_ble_eq_true rfl) rfl rfl rfl (c_T_at hl.2) ?_
        refine hy_iadd (i := 16) rfl (by omega) ?_
        refine hy_istore (i := 17) rfl ?_
        refine hy_iload (i := 18) rfl rfl ?_
        refine hy_aload (i := 19) rfl rfl ?_
        refine hy_getr (i := 20) rfl rfl ?_
        refine hy_alen (i := 21) rfl rfl (by decide) (by decide) ?_
        refine hy_cS2e (i := 22) rfl (by decide) mj_W_isAmong (by decide) rfl (Nat.le_of_ble_eq_true rfl) (c_W_isAmong) ?_
        refine hy_ib_eq (i := 23) (tt := 44) rfl (fun zc2 => ?_) (fun zc2 => ?_)
        · refine hy_const (i := 44) rfl (by decide) ?_
          refine hy_zreturn (i := 45) rfl rfl (by first | decide | exact hy_b01 _) ?_
          exact ⟨_, rfl, trivial, rfl⟩
        · refine hy_aload (i := 24) rfl rfl ?_
          refine hy_getr (i := 25) rfl rfl ?_
          refine hy_iload (i := 26) rfl rfl ?_
          refine hy_iald (i := 27) rfl rfl (by simp only [decide_eq_true_eq] at *; omega) rfl ?_
          refine hy_aload (i := 28) rfl rfl ?_
          refine hy_getr (i := 29) rfl rfl ?_
          refine hy_const (i := 30) rfl (by decide) ?_
          refine hy_iload (i := 31) rfl rfl ?_
          refine hy_imul (i := 32) rfl (by omega) ?_
          refine hy_cV1e (i := 33) rfl mj_T_at (by decide) rfl (Nat.le_of_ble_eq_true rfl) rfl rfl rfl (c_T_at hl.2) ?_
          refine hy_cS2e (i := 34) rfl (by decide) mj_W_bit (by decide) rfl (Nat.le_of_ble_eq_true rfl) (c_W_bit) ?_
          refine hy_aload (i := 35) rfl rfl ?_
          refine hy_getr (i := 36) rfl rfl ?_
          refine hy_const (i := 37) rfl (by decide) ?_
          refine hy_iload (i := 38) rfl rfl ?_
          refine hy_imul (i := 39) rfl (by omega) ?_
          refine hy_const (i := 40) rfl (by decide) ?_
          refine hy_iadd (i := 41) rfl (by omega) ?_
          refine hy_cV1e (i := 42) rfl mj_T_at (by decide) rfl (Nat.le_of_ble_eq_true rfl) rfl rfl rfl (c_T_at hl.2) ?_
          refine hy_ic_eq (i := 43) (tt := 46) rfl (fun zc3 => ?_) (fun zc3 => ?_)
          · refine hy_iinc (i := 46) rfl rfl (by omega) ?_
            refine hy_goto (i := 47) (tt := 2) rfl ?_
            exact ih (k + 1) _ (by omega)
          · refine hy_const (i := 44) rfl (by decide) ?_
            refine hy_zreturn (i := 45) rfl rfl (by first | decide | exact hy_b01 _) ?_
            exact ⟨_, rfl, trivial, rfl⟩
  refine hy_const (i := 0) rfl (by decide) ?_
  refine hy_istore (i := 1) rfl ?_
  exact loop n.toNat 0 _ rfl
theorem c_W_fitting {n : Int} (h : tp_ok t) (hn : n ≤ 10) : hy_Ct sc hm_W_fitting 2 [.inr (some 2), .inl n] t (hy_p (fun _ => True) t) := by
  refine hy_mk_ct ok_W_fitting ck_W_fitting (Nat.le_of_ble_eq_true rfl) ?_
  have loop : ∀ (m : Nat), ∀ (k : Nat) (s : Int), m + k = 6 → hy_W sc hm_W_fitting 2 4 [.inr (some 2), .inl n, .inl s, .inl (k : Int)] [] t (hy_p (fun _ => True) t) := by
    intro m
    induction m with
    | zero =>
      intro k s hm
      refine hy_iload (i := 4) rfl rfl ?_
      refine hy_const (i := 5) rfl (by decide) ?_
      refine hy_ic_ge (i := 6) (tt := 20) rfl (fun zc1 => ?_) (fun zc1 => ?_)
      · refine hy_iload (i := 20) rfl rfl ?_
        refine hy_ireturn (i := 21) rfl rfl ?_
        exact ⟨_, rfl, trivial, rfl⟩
      · omega
    | succ m ih =>
      intro k s hm
      refine hy_iload (i := 4) rfl rfl ?_
      refine hy_const (i := 5) rfl (by decide) ?_
      refine hy_ic_ge (i := 6) (tt := 20) rfl (fun zc1 => ?_) (fun zc1 => ?_)
      · omega
      · refine hy_aload (i := 7) rfl rfl ?_
        refine hy_iload (i := 8) rfl rfl ?_
        refine hy_iload (i := 9) rfl rfl ?_
        refine hy_cV2 (i := 10) rfl mj_W_fits (by decide) rfl (Nat.le_of_ble_eq_true rfl) rfl rfl rfl (c_W_fits h hn (by omega)) (fun r1_ t1_ h1 => ?_)
        obtain ⟨x1, rfl, hx1, rfl⟩ := h1
        dsimp only [hy_st, List.cons_append, List.nil_append]
        refine hy_if_eq (i := 11) (tt := 18) rfl (fun zc2 => ?_) (fun zc2 => ?_)
        · refine hy_iinc (i := 18) rfl rfl (by omega) ?_
          refine hy_goto (i := 19) (tt := 4) rfl ?_
          exact ih (k + 1) _ (by omega)
        · refine hy_iload (i := 12) rfl rfl ?_
          refine hy_const (i := 13) rfl (by decide) ?_
          refine hy_iload (i := 14) rfl rfl ?_
          refine hy_ishl (i := 15) rfl ?_
          refine hy_ior (i := 16) rfl ?_
          refine hy_istore (i := 17) rfl ?_
          refine hy_iinc (i := 18) rfl rfl (by omega) ?_
          refine hy_goto (i := 19) (tt := 4) rfl ?_
          exact ih (k + 1) _ (by omega)
  refine hy_const (i := 0) rfl (by decide) ?_
  refine hy_istore (i := 1) rfl ?_
  refine hy_const (i := 2) rfl (by decide) ?_
  refine hy_istore (i := 3) rfl ?_
  exact loop 6 0 _ rfl
theorem c_W_greaterPart {s c q : Int} (hq : 0 ≤ q ∧ q < 4) : hy_Ct sc hm_W_greaterPart 1 [.inr (some 2), .inl s, .inl c, .inl q] t (hy_p (fun _ => True) t) := by
  refine hy_mk_ct ok_W_greaterPart ck_W_greaterPart (Nat.le_of_ble_eq_true rfl) ?_
  have loop : ∀ (m : Nat), ∀ (k : Nat) (n : Int), m + k = 6 → hy_W sc hm_W_greaterPart 1 4 [.inr (some 2), .inl s, .inl c, .inl q, .inl n, .inl (k : Int)] [] t (hy_p (fun _ => True) t) := by
    intro m
    induction m with
    | zero =>
      intro k n hm
      refine hy_iload (i := 4) rfl rfl ?_
      refine hy_const (i := 5) rfl (by decide) ?_
      refine hy_ic_ge (i := 6) (tt := 26) rfl (fun zc1 => ?_) (fun zc1 => ?_)
      · refine hy_iload (i := 26) rfl rfl ?_
        refine hy_iload (i := 27) rfl rfl ?_
        refine hy_cS1e (i := 28) rfl (by decide) mj_J_bitCount (by decide) rfl (Nat.le_of_ble_eq_true rfl) (c_J_bitCount) ?_
        refine hy_iload (i := 29) rfl rfl ?_
        refine hy_isubw (i := 30) rfl ?_
        refine hy_max (i := 31) rfl (Nat.le_of_ble_eq_true rfl) ?_
        refine hy_ireturn (i := 32) rfl rfl ?_
        exact ⟨_, rfl, trivial, rfl⟩
      · omega
    | succ m ih =>
      intro k n hm
      refine hy_iload (i := 4) rfl rfl ?_
      refine hy_const (i := 5) rfl (by decide) ?_
      refine hy_ic_ge (i := 6) (tt := 26) rfl (fun zc1 => ?_) (fun zc1 => ?_)
      · omega
      · refine hy_iload (i := 7) rfl rfl ?_
        refine hy_iload (i := 8) rfl rfl ?_
        refine hy_iload (i := 9) rfl rfl ?_
        refine hy_cS2e (i := 10) rfl (by decide) mj_W_bit (by decide) rfl (Nat.le_of_ble_eq_true rfl) (c_W_bit) ?_
        refine hy_aload (i := 11) rfl rfl ?_
        refine hy_getr (i := 12) rfl rfl ?_
        refine hy_const (i := 13) rfl (by decide) ?_
        refine hy_iload (i := 14) rfl rfl ?_
        refine hy_imul (i := 15) rfl (by omega) ?_
        refine hy_iload (i := 16) rfl rfl ?_
        refine hy_iadd (i := 17) rfl (by omega) ?_
        refine hy_iald (i := 18) rfl rfl (by omega) rfl ?_
        refine hy_iload (i := 19) rfl rfl ?_
        refine hy_cS2e (i := 20) rfl (by decide) mj_W_bit (by decide) rfl (Nat.le_of_ble_eq_true rfl) (c_W_bit) ?_
        refine hy_iand (i := 21) rfl ?_
        refine hy_iaddw (i := 22) rfl ?_
        refine hy_istore (i := 23) rfl ?_
        refine hy_iinc (i := 24) rfl rfl (by omega) ?_
        refine hy_goto (i := 25) (tt := 4) rfl ?_
        exact ih (k + 1) _ (by omega)
  refine hy_const (i := 0) rfl (by decide) ?_
  refine hy_istore (i := 1) rfl ?_
  refine hy_const (i := 2) rfl (by decide) ?_
  refine hy_istore (i := 3) rfl ?_
  exact loop 6 0 _ rfl
theorem c_W_bestShown {s : Int} : hy_Ct sc hm_W_bestShown 2 [.inr (some 2), .inl s] t (hy_p (fun x => 0 ≤ x ∧ x < 48) t) := by
  refine hy_mk_ct ok_W_bestShown ck_W_bestShown (Nat.le_of_ble_eq_true rfl) ?_
  have loop : ∀ (m : Nat), ∀ (k : Nat) (b l : Int) (v5 v6 : hy_V), m + k = 48 → (0 ≤ b ∧ b < 48) → hy_W sc hm_W_bestShown 2 6 [.inr (some 2), .inl s, .inl b, .inl l, .inl (k : Int), v5, v6] [] t (hy_p (fun x => 0 ≤ x ∧ x < 48) t) := by
    intro m
    induction m with
    | zero =>
      intro k b l v5 v6 hm hb
      refine hy_iload (i := 6) rfl rfl ?_
      refine hy_const (i := 7) rfl (by decide) ?_
      refine hy_ic_ge (i := 8) (tt := 35) rfl (fun zc1 => ?_) (fun zc1 => ?_)
      · refine hy_iload (i := 35) rfl rfl ?_
        refine hy_ireturn (i := 36) rfl rfl ?_
        exact ⟨_, rfl, hb, rfl⟩
      · omega
    | succ m ih =>
      intro k b l v5 v6 hm hb
      refine hy_iload (i := 6) rfl rfl ?_
      refine hy_const (i := 7) rfl (by decide) ?_
      refine hy_ic_ge (i := 8) (tt := 35) rfl (fun zc1 => ?_) (fun zc1 => ?_)
      · omega
      · refine hy_iload (i := 9) rfl rfl ?_
        refine hy_const (i := 10) rfl (by decide) ?_
        refine hy_idiv (i := 11) rfl (by omega) (by omega) ?_
        refine hy_istore (i := 12) rfl ?_
        refine hy_aload (i := 13) rfl rfl ?_
        refine hy_getr (i := 14) rfl rfl ?_
        refine hy_iload (i := 15) rfl rfl ?_
        refine hy_cV1e (i := 16) rfl mj_P_isTold (by decide) rfl (Nat.le_of_ble_eq_true rfl) rfl rfl rfl (c_P_isTold) ?_
        refine hy_ib_eq (i := 17) (tt := 33) rfl (fun zc2 => ?_) (fun zc2 => ?_)
        · refine hy_iinc (i := 33) rfl rfl (by omega) ?_
          refine hy_goto (i := 34) (tt := 6) rfl ?_
          exact ih (k + 1) _ _ _ _ (by omega) (by omega)
        · refine hy_aload (i := 18) rfl rfl ?_
          refine hy_iload (i := 19) rfl rfl ?_
          refine hy_iload (i := 20) rfl rfl ?_
          refine hy_iload (i := 21) rfl rfl ?_
          refine hy_const (i := 22) rfl (by decide) ?_
          refine hy_irem (i := 23) rfl (by omega) (by omega) ?_
          refine hy_cV3 (i := 24) rfl mj_W_greaterPart (by decide) rfl (Nat.le_of_ble_eq_true rfl) rfl rfl rfl (c_W_greaterPart (by omega)) (fun r2_ t2_ h2 => ?_)
          obtain ⟨x2, rfl, hx2, rfl⟩ := h2
          dsimp only [hy_st, List.cons_append, List.nil_append]
          refine hy_istore (i := 25) rfl ?_
          refine hy_iload (i := 26) rfl rfl ?_
          refine hy_iload (i := 27) rfl rfl ?_
          refine hy_ic_ge (i := 28) (tt := 33) rfl (fun zc3 => ?_) (fun zc3 => ?_)
          · refine hy_iinc (i := 33) rfl rfl (by omega) ?_
            refine hy_goto (i := 34) (tt := 6) rfl ?_
            exact ih (k + 1) _ _ _ _ (by omega) (by omega)
          · refine hy_iload (i := 29) rfl rfl ?_
            refine hy_istore (i := 30) rfl ?_
            refine hy_iload (i := 31) rfl rfl ?_
            refine hy_istore (i := 32) rfl ?_
            refine hy_iinc (i := 33) rfl rfl (by omega) ?_
            refine hy_goto (i := 34) (tt := 6) rfl ?_
            exact ih (k + 1) _ _ _ _ (by omega) (by omega)
  refine hy_const (i := 0) rfl (by decide) ?_
  refine hy_istore (i := 1) rfl ?_
  refine hy_const (i := 2) rfl (by decide) ?_
  refine hy_istore (i := 3) rfl ?_
  refine hy_const (i := 4) rfl (by decide) ?_
  refine hy_istore (i := 5) rfl ?_
  exact loop 48 0 _ _ _ _ rfl (by decide)
abbrev wf_spyok (t : hy_T) (n w : Int) : Prop := (1 ≤ n ∧ n ≤ 10) ∧ (0 ≤ w ∧ w < 3) ∧ 3 * n ≤ t 3 1
theorem c_W_spies {n w : Int} (h : tp_ok t) (hk : lc_ok t) : hy_Ct sc hm_W_spies 6 [.inr (some 2), .inl n, .inl w] t (fun r t' => (∃ x : Int, r = some x) ∧ hy_F brX (if wf_spyok t n w then hy_up t 3 1 0 else t) t') := by
  refine hy_mk_ct ok_W_spies ck_W_spies (Nat.le_of_ble_eq_true rfl) ?_
  by_cases hq : wf_spyok t n w
  · simp only [if_pos hq]
    refine hy_iload (i := 0) rfl rfl ?_
    refine hy_const (i := 1) rfl (by decide) ?_
    refine hy_ic_lt (i := 2) (tt := 17) rfl (fun zc1 => ?_) (fun zc1 => ?_)
    · omega
    · refine hy_iload (i := 3) rfl rfl ?_
      refine hy_const (i := 4) rfl (by decide) ?_
      refine hy_ic_gt (i := 5) (tt := 17) rfl (fun zc2 => ?_) (fun zc2 => ?_)
      · omega
      · refine hy_iload (i := 6) rfl rfl ?_
        refine hy_const (i := 7) rfl (by decide) ?_
        refine hy_cS2e (i := 8) rfl (by decide) mj_W_isAmong (by decide) rfl (Nat.le_of_ble_eq_true rfl) (c_W_isAmong) ?_
        refine hy_ib_eq (i := 9) (tt := 17) rfl (fun zc3 => ?_) (fun zc3 => ?_)
        · simp only [decide_eq_false_iff_not] at *; omega
        · refine hy_aload (i := 10) rfl rfl ?_
          refine hy_getr (i := 11) rfl rfl ?_
          refine hy_cV0e (i := 12) rfl mj_T_length (by decide) rfl (Nat.le_of_ble_eq_true rfl) rfl rfl rfl (c_T_length) ?_
          refine hy_const (i := 13) rfl (by decide) ?_
          refine hy_iload (i := 14) rfl rfl ?_
          refine hy_imul (i := 15) rfl (by omega) ?_
          refine hy_ic_ge (i := 16) (tt := 19) rfl (fun zc4 => ?_) (fun zc4 => ?_)
          · refine hy_aload (i := 19) rfl rfl ?_
            refine hy_iload (i := 20) rfl rfl ?_
            refine hy_cV1 (i := 21) rfl mj_W_areShown (by decide) rfl (Nat.le_of_ble_eq_true rfl) rfl rfl rfl (c_W_areShown h (by omega)) (fun r3_ t3_ h3 => ?_)
            obtain ⟨x3, rfl, hx3, rfl⟩ := h3
            dsimp only [hy_st, List.cons_append, List.nil_append]
            refine hy_if_ne (i := 22) (tt := 28) rfl (fun zc5 => ?_) (fun zc5 => ?_)
            · refine hy_aload (i := 28) rfl rfl ?_
              refine hy_cV0 (i := 29) rfl mj_W_findBright (by decide) rfl (Nat.le_of_ble_eq_true rfl) rfl rfl rfl (c_W_findBright hk) (fun r4_ t4_ h4 => ?_)
              obtain ⟨rfl, hF4⟩ := h4
              dsimp only [hy_st, List.nil_append]
              have hb := tp_ok_F hF4 (fun _ => rfl) (fun _ => rfl) h
              refine hy_aload (i := 30) rfl rfl ?_
              refine hy_iload (i := 31) rfl rfl ?_
              refine hy_cV1 (i := 32) rfl mj_W_fitting (by decide) rfl (Nat.le_of_ble_eq_true rfl) rfl rfl rfl (c_W_fitting hb (by omega)) (fun r5_ t5_ h5 => ?_)
              obtain ⟨x5, rfl, hx5, rfl⟩ := h5
              dsimp only [hy_st, List.cons_append, List.nil_append]
              refine hy_istore (i := 33) rfl ?_
              refine hy_aload (i := 34) rfl rfl ?_
              refine hy_getr (i := 35) rfl rfl ?_
              refine hy_cV0v (i := 36) rfl mj_T_clear (by decide) rfl (Nat.le_of_ble_eq_true rfl) rfl rfl rfl (c_T_clear) ?_
              refine hy_iload (i := 37) rfl rfl ?_
              refine hy_if_ne (i := 38) (tt := 41) rfl (fun zc6 => ?_) (fun zc6 => ?_)
              · refine hy_aload (i := 41) rfl rfl ?_
                refine hy_iload (i := 42) rfl rfl ?_
                refine hy_cV1 (i := 43) rfl mj_W_bestShown (by decide) rfl (Nat.le_of_ble_eq_true rfl) rfl rfl rfl (c_W_bestShown) (fun r7_ t7_ h7 => ?_)
                obtain ⟨x7, rfl, hx7, rfl⟩ := h7
                dsimp only [hy_st, List.cons_append, List.nil_append]
                refine hy_istore (i := 44) rfl ?_
                refine hy_iload (i := 45) rfl rfl ?_
                refine hy_const (i := 46) rfl (by decide) ?_
                refine hy_ic_ne (i := 47) (tt := 52) rfl (fun zc7 => ?_) (fun zc7 => ?_)
                · refine hy_iload (i := 52) rfl rfl ?_
                  refine hy_const (i := 53) rfl (by decide) ?_
                  refine hy_irem (i := 54) rfl (by omega) (by omega) ?_
                  refine hy_ireturn (i := 55) rfl rfl ?_
                  first | exact ⟨⟨_, rfl⟩, hy_F.rf⟩ | exact ⟨⟨_, rfl⟩, hE_up (by assumption) _ _ _⟩
                · refine hy_iload (i := 48) rfl rfl ?_
                  refine hy_const (i := 49) rfl (by decide) ?_
                  refine hy_idiv (i := 50) rfl (by omega) (by omega) ?_
                  refine hy_goto (i := 51) (tt := 55) rfl ?_
                  refine hy_ireturn (i := 55) rfl rfl ?_
                  first | exact ⟨⟨_, rfl⟩, hy_F.rf⟩ | exact ⟨⟨_, rfl⟩, hE_up (by assumption) _ _ _⟩
              · refine hy_iload (i := 39) rfl rfl ?_
                refine hy_ireturn (i := 40) rfl rfl ?_
                first | exact ⟨⟨_, rfl⟩, hy_F.rf⟩ | exact ⟨⟨_, rfl⟩, hE_up (by assumption) _ _ _⟩
            · refine hy_aload (i := 23) rfl rfl ?_
              refine hy_getr (i := 24) rfl rfl ?_
              refine hy_cV0v (i := 25) rfl mj_T_clear (by decide) rfl (Nat.le_of_ble_eq_true rfl) rfl rfl rfl (c_T_clear) ?_
              refine hy_const (i := 26) rfl (by decide) ?_
              refine hy_ireturn (i := 27) rfl rfl ?_
              first | exact ⟨⟨_, rfl⟩, hy_F.rf⟩ | exact ⟨⟨_, rfl⟩, hE_up (by assumption) _ _ _⟩
          · omega
  · simp only [if_neg hq]
    refine hy_iload (i := 0) rfl rfl ?_
    refine hy_const (i := 1) rfl (by decide) ?_
    refine hy_ic_lt (i := 2) (tt := 17) rfl (fun zc1 => ?_) (fun zc1 => ?_)
    · refine hy_const (i := 17) rfl (by decide) ?_
      refine hy_ireturn (i := 18) rfl rfl ?_
      exact ⟨⟨_, rfl⟩, hy_F.rf⟩
    · refine hy_iload (i := 3) rfl rfl ?_
      refine hy_const (i := 4) rfl (by decide) ?_
      refine hy_ic_gt (i := 5) (tt := 17) rfl (fun zc2 => ?_) (fun zc2 => ?_)
      · refine hy_const (i := 17) rfl (by decide) ?_
        refine hy_ireturn (i := 18) rfl rfl ?_
        exact ⟨⟨_, rfl⟩, hy_F.rf⟩
      · refine hy_iload (i := 6) rfl rfl ?_
        refine hy_const (i := 7) rfl (by decide) ?_
        refine hy_cS2e (i := 8) rfl (by decide) mj_W_isAmong (by decide) rfl (Nat.le_of_ble_eq_true rfl) (c_W_isAmong) ?_
        refine hy_ib_eq (i := 9) (tt := 17) rfl (fun zc3 => ?_) (fun zc3 => ?_)
        · refine hy_const (i := 17) rfl (by decide) ?_
          refine hy_ireturn (i := 18) rfl rfl ?_
          exact ⟨⟨_, rfl⟩, hy_F.rf⟩
        · refine hy_aload (i := 10) rfl rfl ?_
          refine hy_getr (i := 11) rfl rfl ?_
          refine hy_cV0e (i := 12) rfl mj_T_length (by decide) rfl (Nat.le_of_ble_eq_true rfl) rfl rfl rfl (c_T_length) ?_
          refine hy_const (i := 13) rfl (by decide) ?_
          refine hy_iload (i := 14) rfl rfl ?_
          refine hy_imul (i := 15) rfl (by omega) ?_
          refine hy_ic_ge (i := 16) (tt := 19) rfl (fun zc4 => ?_) (fun zc4 => ?_)
          · exfalso; simp only [decide_eq_true_eq] at *; exact hq ⟨⟨by omega, by omega⟩, by assumption, by omega⟩
          · refine hy_const (i := 17) rfl (by decide) ?_
            refine hy_ireturn (i := 18) rfl rfl ?_
            exact ⟨⟨_, rfl⟩, hy_F.rf⟩
theorem c_W_commonDivisor {a b : Int} : hy_Ct sc hm_W_commonDivisor 0 [.inl a, .inl b] t (hy_p (fun _ => True) t) := by
  refine hy_mk_ct ok_W_commonDivisor ck_W_commonDivisor (Nat.le_of_ble_eq_true rfl) ?_
  have loop : ∀ (m : Nat), ∀ (k : Nat) (x y : Int) (v5 : hy_V), m + k = 64 → hy_W sc hm_W_commonDivisor 0 6 [.inl a, .inl b, .inl x, .inl y, .inl (k : Int), v5] [] t (hy_p (fun _ => True) t) := by
    intro m
    induction m with
    | zero =>
      intro k x y v5 hm
      refine hy_iload (i := 6) rfl rfl ?_
      refine hy_const (i := 7) rfl (by decide) ?_
      refine hy_ic_ge (i := 8) (tt := 21) rfl (fun zc1 => ?_) (fun zc1 => ?_)
      · refine hy_iload (i := 21) rfl rfl ?_
        refine hy_ireturn (i := 22) rfl rfl ?_
        exact ⟨_, rfl, trivial, rfl⟩
      · omega
    | succ m ih =>
      intro k x y v5 hm
      refine hy_iload (i := 6) rfl rfl ?_
      refine hy_const (i := 7) rfl (by decide) ?_
      refine hy_ic_ge (i := 8) (tt := 21) rfl (fun zc1 => ?_) (fun zc1 => ?_)
      · omega
      · refine hy_iload (i := 9) rfl rfl ?_
        refine hy_if_eq (i := 10) (tt := 21) rfl (fun zc2 => ?_) (fun zc2 => ?_)
        · refine hy_iload (i := 21) rfl rfl ?_
          refine hy_ireturn (i := 22) rfl rfl ?_
          exact ⟨_, rfl, trivial, rfl⟩
        · refine hy_iload (i := 11) rfl rfl ?_
          refine hy_iload (i := 12) rfl rfl ?_
          refine hy_iremw (i := 13) rfl (by assumption) ?_
          refine hy_istore (i := 14) rfl ?_
          refine hy_iload (i := 15) rfl rfl ?_
          refine hy_istore (i := 16) rfl ?_
          refine hy_iload (i := 17) rfl rfl ?_
          refine hy_istore (i := 18) rfl ?_
          refine hy_iinc (i := 19) rfl rfl (by omega) ?_
          refine hy_goto (i := 20) (tt := 6) rfl ?_
          exact ih (k + 1) _ _ _ (by omega)
  refine hy_iload (i := 0) rfl rfl ?_
  refine hy_istore (i := 1) rfl ?_
  refine hy_iload (i := 2) rfl rfl ?_
  refine hy_istore (i := 3) rfl ?_
  refine hy_const (i := 4) rfl (by decide) ?_
  refine hy_istore (i := 5) rfl ?_
  exact loop 64 0 _ _ _ rfl
theorem c_W_power {cs c e q w : Int} (hk : lc_ok t) : hy_Ct sc hm_W_power 6 [.inr (some 2), .inl cs, .inl c, .inl e, .inl q, .inl w] t (fun r t' => (∃ x : Int, r = some x) ∧ hy_F pX t t') := by
  refine hy_mk_ct ok_W_power ck_W_power (Nat.le_of_ble_eq_true rfl) ?_
  have rest : ∀ (n : Int) (t1 : hy_T) (v7 : Int) (v8 : Int) (y : Int), hy_F pX t t1 → hy_W sc hm_W_power 6 51 [.inr (some 2), .inl cs, .inl c, .inl e, .inl q, .inl w, .inl n, .inl v7, .inl v8, .inr none] [.inl y] t1 (fun r t' => (∃ x : Int, r = some x) ∧ hy_F pX t t') := by
    intro n t1 v7 v8 y hF
    refine hy_iload (i := 51) rfl rfl ?_
    refine hy_cS2 (i := 52) rfl (by decide) mj_W_commonDivisor (by decide) rfl (Nat.le_of_ble_eq_true rfl) (c_W_commonDivisor) (fun r1_ t1_ h1 => ?_)
    obtain ⟨x1, rfl, hx1, rfl⟩ := h1
    dsimp only [hy_st, List.cons_append, List.nil_append]
    refine hy_istore (i := 53) rfl ?_
    refine hy_iload (i := 54) rfl rfl ?_
    refine hy_const (i := 55) rfl (by decide) ?_
    refine hy_ic_ge (i := 56) (tt := 59) rfl (fun zc1 => ?_) (fun zc1 => ?_)
    · refine hy_iload (i := 59) rfl rfl ?_
      refine hy_if_ne (i := 60) (tt := 65) rfl (fun zc2 => ?_) (fun zc2 => ?_)
      · refine hy_iload (i := 65) rfl rfl ?_
        refine hy_iload (i := 66) rfl rfl ?_
        refine hy_idivw (i := 67) rfl (by omega) ?_
        refine hy_ireturn (i := 68) rfl rfl ?_
        exact ⟨⟨_, rfl⟩, hF⟩
      · refine hy_iload (i := 61) rfl rfl ?_
        refine hy_iload (i := 62) rfl rfl ?_
        refine hy_idivw (i := 63) rfl (by omega) ?_
        refine hy_goto (i := 64) (tt := 68) rfl ?_
        refine hy_ireturn (i := 68) rfl rfl ?_
        exact ⟨⟨_, rfl⟩, hF⟩
    · refine hy_const (i := 57) rfl (by decide) ?_
      refine hy_ireturn (i := 58) rfl rfl ?_
      exact ⟨⟨_, rfl⟩, hF⟩
  refine hy_iload (i := 0) rfl rfl ?_
  refine hy_cS1e (i := 1) rfl (by decide) mj_J_bitCount (by decide) rfl (Nat.le_of_ble_eq_true rfl) (c_J_bitCount) ?_
  refine hy_istore (i := 2) rfl ?_
  refine hy_aload (i := 3) rfl rfl ?_
  refine hy_getr (i := 4) rfl rfl ?_
  refine hy_iload (i := 5) rfl rfl ?_
  refine hy_cV1e (i := 6) rfl mj_P_arePlain (by decide) rfl (Nat.le_of_ble_eq_true rfl) rfl rfl rfl (c_P_arePlain) ?_
  refine hy_ib_eq (i := 7) (tt := 14) rfl (fun zc1 => ?_) (fun zc1 => ?_)
  · refine hy_const (i := 14) rfl (by decide) ?_
    refine hy_ireturn (i := 15) rfl rfl ?_
    exact ⟨⟨_, rfl⟩, hy_F.rf⟩
  · refine hy_iload (i := 8) rfl rfl ?_
    refine hy_const (i := 9) rfl (by decide) ?_
    refine hy_ic_lt (i := 10) (tt := 14) rfl (fun zc2 => ?_) (fun zc2 => ?_)
    · refine hy_const (i := 14) rfl (by decide) ?_
      refine hy_ireturn (i := 15) rfl rfl ?_
      exact ⟨⟨_, rfl⟩, hy_F.rf⟩
    · refine hy_iload (i := 11) rfl rfl ?_
      refine hy_const (i := 12) rfl (by decide) ?_
      refine hy_ic_le (i := 13) (tt := 16) rfl (fun zc3 => ?_) (fun zc3 => ?_)
      · refine hy_iload (i := 16) rfl rfl ?_
        refine hy_const (i := 17) rfl (by decide) ?_
        refine hy_cS2e (i := 18) rfl (by decide) mj_W_isAmong (by decide) rfl (Nat.le_of_ble_eq_true rfl) (c_W_isAmong) ?_
        refine hy_ib_eq (i := 19) (tt := 24) rfl (fun zc4 => ?_) (fun zc4 => ?_)
        · refine hy_const (i := 24) rfl (by decide) ?_
          refine hy_ireturn (i := 25) rfl rfl ?_
          exact ⟨⟨_, rfl⟩, hy_F.rf⟩
        · refine hy_iload (i := 20) rfl rfl ?_
          refine hy_iload (i := 21) rfl rfl ?_
          refine hy_cS2e (i := 22) rfl (by decide) mj_W_bit (by decide) rfl (Nat.le_of_ble_eq_true rfl) (c_W_bit) ?_
          refine hy_ib_ne (i := 23) (tt := 26) rfl (fun zc5 => ?_) (fun zc5 => ?_)
          · refine hy_iload (i := 26) rfl rfl ?_
            refine hy_cS1e (i := 27) rfl (by decide) mj_W_isEmpire (by decide) rfl (Nat.le_of_ble_eq_true rfl) (c_W_isEmpire) ?_
            refine hy_ib_eq (i := 28) (tt := 36) rfl (fun zc6 => ?_) (fun zc6 => ?_)
            · refine hy_const (i := 36) rfl (by decide) ?_
              refine hy_ireturn (i := 37) rfl rfl ?_
              exact ⟨⟨_, rfl⟩, hy_F.rf⟩
            · refine hy_iload (i := 29) rfl rfl ?_
              refine hy_cS1e (i := 30) rfl (by decide) mj_W_isQuarter (by decide) rfl (Nat.le_of_ble_eq_true rfl) (c_W_isQuarter) ?_
              refine hy_ib_eq (i := 31) (tt := 36) rfl (fun zc7 => ?_) (fun zc7 => ?_)
              · refine hy_const (i := 36) rfl (by decide) ?_
                refine hy_ireturn (i := 37) rfl rfl ?_
                exact ⟨⟨_, rfl⟩, hy_F.rf⟩
              · refine hy_iload (i := 32) rfl rfl ?_
                refine hy_const (i := 33) rfl (by decide) ?_
                refine hy_cS2e (i := 34) rfl (by decide) mj_W_isAmong (by decide) rfl (Nat.le_of_ble_eq_true rfl) (c_W_isAmong) ?_
                refine hy_ib_ne (i := 35) (tt := 38) rfl (fun zc8 => ?_) (fun zc8 => ?_)
                · refine hy_aload (i := 38) rfl rfl ?_
                  refine hy_getr (i := 39) rfl rfl ?_
                  refine hy_iload (i := 40) rfl rfl ?_
                  refine hy_iload (i := 41) rfl rfl ?_
                  refine hy_iload (i := 42) rfl rfl ?_
                  refine hy_iload (i := 43) rfl rfl ?_
                  refine hy_cV4 (i := 44) rfl mj_U_addedBy (by decide) rfl (Nat.le_of_ble_eq_true rfl) rfl rfl rfl (c_U_addedBy (by assumption)) (fun r8_ t8_ h8 => ?_)
                  obtain ⟨rfl, hF8⟩ := h8
                  dsimp only [hy_st, List.cons_append, List.nil_append]
                  refine hy_istore (i := 45) rfl ?_
                  refine hy_iload (i := 46) rfl rfl ?_
                  refine hy_cS1e (i := 47) rfl (by decide) mj_U_orders (by decide) rfl (Nat.le_of_ble_eq_true rfl) (c_U_orders) ?_
                  refine hy_istore (i := 48) rfl ?_
                  refine hy_iload (i := 49) rfl rfl ?_
                  exact hy_absw (i := 50) rfl (Nat.le_of_ble_eq_true rfl) (fun y _ => rest _ _ _ _ _ (by assumption))
                · refine hy_const (i := 36) rfl (by decide) ?_
                  refine hy_ireturn (i := 37) rfl rfl ?_
                  exact ⟨⟨_, rfl⟩, hy_F.rf⟩
          · refine hy_const (i := 24) rfl (by decide) ?_
            refine hy_ireturn (i := 25) rfl rfl ?_
            exact ⟨⟨_, rfl⟩, hy_F.rf⟩
      · refine hy_const (i := 14) rfl (by decide) ?_
        refine hy_ireturn (i := 15) rfl rfl ?_
        exact ⟨⟨_, rfl⟩, hy_F.rf⟩
end WE
/-! the class's own methods: that they end, and what they leave (gain, way, lines that are made) -/
abbrev rg (x : Int) : Prop := -9999 ≤ x ∧ x ≤ 9999
theorem rg_up {t : hy_T} {r n : Nat} {v : Int} (h : ∀ j : Nat, j < 96 → rg (t r j)) (hv : rg v) : ∀ j : Nat, j < 96 → rg (hy_up t r n v r j) := fun j hj => by
  simp only [hy_up]
  split
  · exact hv
  · exact h j hj
abbrev mkX (b : Nat) : Nat → Nat → Bool := fun r j => r == b + 1 || r == b + 3 || (r == b && j == 3)
theorem sp_made_s {b : Nat} {t : hy_T} (h : st_ok b t) (h3 : t b 3 < 16) {c w g o s : Int} (hc : rg c) (hw : rg w) (hg : rg g) (ho : rg o) : st_ok b (sp_made b t c w g o s) ∧ hy_F (mkX b) t (sp_made b t c w g o s) := by
  have hcn := h.c
  have hd := h.d
  have F1 := sp_moveN_F b t c w (if s = 0 then g else -1) o 4
  have F : hy_F (mkX b) t (sp_made b t c w g o s) := by
    simp only [sp_made, sp_lay]
    exact (((((((F1.w (fun r j q => by revert q; simp [mkX]; omega)).up (by simp [mkX])).up (by simp [mkX])).up (by simp [mkX])).up (by simp [mkX])).up (by simp [mkX])).up (by simp [mkX])).up (by simp [mkX])
  refine ⟨⟨?_, by rw [F b 4 (by simp [mkX])]; exact hd, by rw [F b 5 (by simp [mkX])]; exact h.w, fun j hj => ?_⟩, F⟩
  · have e : sp_made b t c w g o s b 3 = t b 3 + 1 := by simp [sp_made, hy_up]
    rw [e]
    omega
  · have e : sp_made b t c w g o s (b + 3) j = sp_lay b (sp_moveN b t c w (if s = 0 then g else -1) o 4) (6 * t b 3).toNat c w g o (if s = 0 then 0 else 1) (t b 4) (b + 3) j := by simp [sp_made, hy_up]
    rw [e]
    unfold sp_lay
    refine rg_up (rg_up (rg_up (rg_up (rg_up (rg_up (fun j hj => ?_) hc) hw) hg) ho) ?_) ⟨by omega, by omega⟩ j hj
    · rw [F1 (b + 3) j (by simp)]
      exact h.t j hj
    · split <;> decide
abbrev ln_ok (t : hy_T) : Prop := ∀ j : Nat, j < 8 → rg (t 28 j) ∧ rg (t 29 j) ∧ rg (t 31 j) ∧ rg (t 32 j)
theorem ln_ok_F {X : Nat → Nat → Bool} {t t1 : hy_T} (h : hy_F X t t1) (h1 : ∀ j, X 28 j = false) (h2 : ∀ j, X 29 j = false) (h3 : ∀ j, X 31 j = false) (h4 : ∀ j, X 32 j = false) (hk : ln_ok t) : ln_ok t1 := fun j hj => by
  rw [h 28 j (h1 j), h 29 j (h2 j), h 31 j (h3 j), h 32 j (h4 j)]
  exact hk j hj
def ln_v (t : hy_T) (r : Nat) (k : Int) : Int := if 0 ≤ k ∧ k < t 27 6 then t r k.toNat else 0
theorem ln_v_rg {t : hy_T} (h : ln_ok t) (hl : t 27 6 ≤ 8) (k : Int) : rg (ln_v t 28 k) ∧ rg (ln_v t 29 k) ∧ rg (ln_v t 31 k) ∧ rg (ln_v t 32 k) := by
  unfold ln_v
  split
  · exact h k.toNat (by omega)
  · decide
def wf_can (b : Nat) (t : hy_T) (k : Int) : Bool := wf_plain t (ln_v t 28 k) && (decide (t b 3 < 16) && sp_canGo (t (b + 1)) (ln_v t 28 k) (ln_v t 29 k) (ln_v t 31 k) (ln_v t 32 k))
def wf_make (b : Nat) (t : hy_T) (k : Int) : hy_T := if wf_can b t k = true then sp_made b t (ln_v t 28 k) (ln_v t 29 k) (ln_v t 31 k) (ln_v t 32 k) (hy_b (decide ((0 ≤ k ∧ k < t 27 6) ∧ t 30 k.toNat = 43))) else t
theorem wf_make_s {b : Nat} {t : hy_T} (h : st_ok b t) (hn : ln_ok t) (hl : t 27 6 ≤ 8) (k : Int) : st_ok b (wf_make b t k) ∧ hy_F (mkX b) t (wf_make b t k) := by
  unfold wf_make
  split
  · next hc =>
    obtain ⟨a1, a2, a3, a4⟩ := ln_v_rg hn hl k
    simp only [wf_can, Bool.and_eq_true, decide_eq_true_eq] at hc
    exact sp_made_s h hc.2.1 a1 a2 a3 a4
  · exact ⟨h, hy_F.rf⟩
theorem gain_F {t t1 t3 : hy_T} {c q v : Int} (h1 : hy_F pX t t1) (h3 : hy_F pX (sp_setH 33 t1 c q v) t3) : hy_F pX t (sp_setH 33 t3 c q (sp_hav (t1 34) c q)) := by
  unfold sp_setH at h3 ⊢
  by_cases hc : (0 ≤ c ∧ c < 12) ∧ 0 ≤ q ∧ q < 4
  · rw [if_pos hc] at h3 ⊢
    intro r j hX
    simp only [hy_up]
    by_cases hr : r = 33 + 1 ∧ j = (4 * c + q).toNat
    · rw [if_pos hr]
      unfold sp_hav
      rw [if_pos hc, hr.1, hr.2]
      exact h1 34 _ rfl
    · rw [if_neg hr, h3 r j hX]
      simp only [hy_up]
      rw [if_neg hr]
      exact h1 r j hX
  · rw [if_neg hc] at h3 ⊢
    exact h1.tr' h3
theorem pa_search_G (t : hy_T) (a : Int) : ∀ n, hy_F (fun r _ => r == 54 || r == 55) t (pa_searchN (pa_search0 t a) n)
  | 0 => by
    show hy_F _ t (pa_search0 t a)
    unfold pa_search0
    split
    · exact (pa_forgetN_G t 64).up rfl
    · exact pa_forgetN_G t 64
  | n + 1 => by
    refine (pa_search_G t a n).tr' ?_
    show hy_F _ _ (pa_leave (pa_searchN (pa_search0 t a) n) _)
    generalize pa_searchN (pa_search0 t a) n = u
    generalize pa_nearN u 64 = f
    unfold pa_leave
    split
    · have : ∀ m, hy_F (fun r _ => r == 54 || r == 55) u (pa_leaveN u f m) := by
        intro m
        induction m with
        | zero => exact hy_F.rf.up rfl
        | succ m ih =>
          simp only [pa_leaveN]
          split
          · exact ih.up rfl
          · exact ih
      exact this 4
    · exact hy_F.rf
abbrev wyX : Nat → Nat → Bool := fun r _ => r == 17 || r == 18 || r == 46 || r == 53 || r == 54 || r == 55
section WG
variable {sc : List Int32} {t : hy_T}
theorem c_W_gain {e c q : Int} (hk : lc_ok t) : hy_Ct sc hm_W_gain 6 [.inr (some 2), .inl e, .inl c, .inl q] t (fun r t' => (∃ x : Int, r = some x) ∧ hy_F pX t t') := by
  refine hy_mk_ct ok_W_gain ck_W_gain (Nat.le_of_ble_eq_true rfl) ?_
  refine hy_iload (i := 0) rfl rfl ?_
  refine hy_cS1e (i := 1) rfl (by decide) mj_W_isEmpire (by decide) rfl (Nat.le_of_ble_eq_true rfl) (c_W_isEmpire) ?_
  refine hy_ib_eq (i := 2) (tt := 11) rfl (fun zc1 => ?_) (fun zc1 => ?_)
  · refine hy_const (i := 11) rfl (by decide) ?_
    refine hy_ireturn (i := 12) rfl rfl ?_
    first | exact ⟨⟨_, rfl⟩, hy_F.rf⟩ | (refine ⟨⟨_, rfl⟩, ?_⟩; have hG := gain_F hF6 (by assumption); rw [show t6_ 34 = t 34 from funext fun j => hF6 34 j rfl] at hG; exact hG)
  · refine hy_aload (i := 3) rfl rfl ?_
    refine hy_getr (i := 4) rfl rfl ?_
    refine hy_iload (i := 5) rfl rfl ?_
    refine hy_cV1e (i := 6) rfl mj_P_isPlain (by decide) rfl (Nat.le_of_ble_eq_true rfl) rfl rfl rfl (c_P_isPlain) ?_
    refine hy_ib_eq (i := 7) (tt := 11) rfl (fun zc2 => ?_) (fun zc2 => ?_)
    · refine hy_const (i := 11) rfl (by decide) ?_
      refine hy_ireturn (i := 12) rfl rfl ?_
      first | exact ⟨⟨_, rfl⟩, hy_F.rf⟩ | (refine ⟨⟨_, rfl⟩, ?_⟩; have hG := gain_F hF6 (by assumption); rw [show t6_ 34 = t 34 from funext fun j => hF6 34 j rfl] at hG; exact hG)
    · refine hy_iload (i := 8) rfl rfl ?_
      refine hy_cS1e (i := 9) rfl (by decide) mj_W_isQuarter (by decide) rfl (Nat.le_of_ble_eq_true rfl) (c_W_isQuarter) ?_
      refine hy_ib_ne (i := 10) (tt := 13) rfl (fun zc3 => ?_) (fun zc3 => ?_)
      · refine hy_aload (i := 13) rfl rfl ?_
        refine hy_getr (i := 14) rfl rfl ?_
        refine hy_iload (i := 15) rfl rfl ?_
        refine hy_iload (i := 16) rfl rfl ?_
        refine hy_cV2e (i := 17) rfl mj_S_havers (by decide) rfl (Nat.le_of_ble_eq_true rfl) rfl rfl rfl (c_S_havers_33) ?_
        refine hy_istore (i := 18) rfl ?_
        refine hy_iload (i := 19) rfl rfl ?_
        refine hy_iload (i := 20) rfl rfl ?_
        refine hy_cS2e (i := 21) rfl (by decide) mj_W_bit (by decide) rfl (Nat.le_of_ble_eq_true rfl) (c_W_bit) ?_
        refine hy_const (i := 22) rfl (by decide) ?_
        refine hy_icb_ne (i := 23) (tt := 26) rfl (fun zc4 => ?_) (fun zc4 => ?_)
        · refine hy_aload (i := 26) rfl rfl ?_
          refine hy_getr (i := 27) rfl rfl ?_
          refine hy_iload (i := 28) rfl rfl ?_
          refine hy_iload (i := 29) rfl rfl ?_
          refine hy_cV2 (i := 30) rfl mj_U_worthTo (by decide) rfl (Nat.le_of_ble_eq_true rfl) rfl rfl rfl (c_U_worthTo hk) (fun r6_ t6_ h6 => ?_)
          obtain ⟨rfl, hF6⟩ := h6
          dsimp only [hy_st, List.cons_append, List.nil_append]
          refine hy_istore (i := 31) rfl ?_
          refine hy_aload (i := 32) rfl rfl ?_
          refine hy_getr (i := 33) rfl rfl ?_
          refine hy_iload (i := 34) rfl rfl ?_
          refine hy_iload (i := 35) rfl rfl ?_
          refine hy_iload (i := 36) rfl rfl ?_
          refine hy_const (i := 37) rfl (by decide) ?_
          refine hy_iload (i := 38) rfl rfl ?_
          refine hy_ishl (i := 39) rfl ?_
          refine hy_ior (i := 40) rfl ?_
          refine hy_cV3v (i := 41) rfl mj_S_setHavers (by decide) rfl (Nat.le_of_ble_eq_true rfl) rfl rfl rfl (c_S_setHavers_33) ?_
          refine hy_aload (i := 42) rfl rfl ?_
          refine hy_getr (i := 43) rfl rfl ?_
          refine hy_iload (i := 44) rfl rfl ?_
          refine hy_iload (i := 45) rfl rfl ?_
          have hk2 : lc_ok (sp_setH 33 t6_ c q (hz_ior (sp_hav (t 34) c q) (hz_ishl 1 e))) := lc_ok_same (lc_same_of (X := fun r _ => r == 34) (by unfold sp_setH; split; exact hy_F.rf.up rfl; exact hy_F.rf) (fun r j h => by revert h; simp [lawX]; omega)) (lc_ok_same (pX_law hF6) hk)
          refine hy_cV2 (i := 46) rfl mj_U_worthTo (by decide) rfl (Nat.le_of_ble_eq_true rfl) rfl rfl rfl (c_U_worthTo hk2) (fun r8_ t8_ h8 => ?_)
          obtain ⟨rfl, hF8⟩ := h8
          dsimp only [hy_st, List.cons_append, List.nil_append]
          refine hy_istore (i := 47) rfl ?_
          refine hy_aload (i := 48) rfl rfl ?_
          refine hy_getr (i := 49) rfl rfl ?_
          refine hy_iload (i := 50) rfl rfl ?_
          refine hy_iload (i := 51) rfl rfl ?_
          refine hy_iload (i := 52) rfl rfl ?_
          refine hy_cV3v (i := 53) rfl mj_S_setHavers (by decide) rfl (Nat.le_of_ble_eq_true rfl) rfl rfl rfl (c_S_setHavers_33) ?_
          refine hy_iload (i := 54) rfl rfl ?_
          refine hy_iload (i := 55) rfl rfl ?_
          refine hy_isubw (i := 56) rfl ?_
          refine hy_ireturn (i := 57) rfl rfl ?_
          first | exact ⟨⟨_, rfl⟩, hy_F.rf⟩ | (refine ⟨⟨_, rfl⟩, ?_⟩; have hG := gain_F hF6 (by assumption); rw [show t6_ 34 = t 34 from funext fun j => hF6 34 j rfl] at hG; exact hG)
        · refine hy_const (i := 24) rfl (by decide) ?_
          refine hy_ireturn (i := 25) rfl rfl ?_
          first | exact ⟨⟨_, rfl⟩, hy_F.rf⟩ | (refine ⟨⟨_, rfl⟩, ?_⟩; have hG := gain_F hF6 (by assumption); rw [show t6_ 34 = t 34 from funext fun j => hF6 34 j rfl] at hG; exact hG)
      · refine hy_const (i := 11) rfl (by decide) ?_
        refine hy_ireturn (i := 12) rfl rfl ?_
        first | exact ⟨⟨_, rfl⟩, hy_F.rf⟩ | (refine ⟨⟨_, rfl⟩, ?_⟩; have hG := gain_F hF6 (by assumption); rw [show t6_ 34 = t 34 from funext fun j => hF6 34 j rfl] at hG; exact hG)
theorem c_W_way {a b u e q w : Int} (hk : lc_ok t) : hy_Ct sc hm_W_way 5 [.inr (some 2), .inl a, .inl b, .inl u, .inl e, .inl q, .inl w] t (fun r t' => (∃ x : Int, r = some x) ∧ hy_F wyX t t') := by
  refine hy_mk_ct ok_W_way ck_W_way (Nat.le_of_ble_eq_true rfl) ?_
  have fin : ∀ (t1 : hy_T) (v7 : hy_V), hy_F wyX t t1 → hy_W sc hm_W_way 5 47 [.inr (some 2), .inl a, .inl b, .inl u, .inl e, .inl q, .inl w, v7] [] t1 (fun r t' => (∃ x : Int, r = some x) ∧ hy_F wyX t t') := by
    intro t1 v7 hF
    have hi := pa_searchN_inv (pa_search0_inv t1 a) 64
    have hG := hF.tr' ((pa_search_G t1 a 64).w (fun r j q => by revert q; simp [wyX]; omega))
    refine hy_aload (i := 47) rfl rfl ?_
    refine hy_getr (i := 48) rfl rfl ?_
    refine hy_iload (i := 49) rfl rfl ?_
    refine hy_cV1v (i := 50) rfl mj_A_search (by decide) rfl (Nat.le_of_ble_eq_true rfl) rfl rfl rfl (c_A_search) ?_
    refine hy_aload (i := 51) rfl rfl ?_
    refine hy_getr (i := 52) rfl rfl ?_
    refine hy_iload (i := 53) rfl rfl ?_
    refine hy_cV1e (i := 54) rfl mj_A_watchedTo (by decide) rfl (Nat.le_of_ble_eq_true rfl) rfl rfl rfl (c_A_watchedTo (by assumption)) ?_
    refine hy_istore (i := 55) rfl ?_
    refine hy_iload (i := 56) rfl rfl ?_
    by_cases zq1 : w = 0
    · refine hy_lsw (i := 57) (tt := 58) rfl (by rw [zq1]; rfl) ?_
      refine hy_iload (i := 58) rfl rfl ?_
      refine hy_if_ne (i := 59) (tt := 65) rfl (fun zc2 => ?_) (fun zc2 => ?_)
      · refine hy_const (i := 65) rfl (by decide) ?_
        refine hy_ireturn (i := 66) rfl rfl ?_
        exact ⟨⟨_, rfl⟩, hG⟩
      · refine hy_aload (i := 60) rfl rfl ?_
        refine hy_getr (i := 61) rfl rfl ?_
        refine hy_iload (i := 62) rfl rfl ?_
        refine hy_cV1e (i := 63) rfl mj_A_stepsTo (by decide) rfl (Nat.le_of_ble_eq_true rfl) rfl rfl rfl (c_A_stepsTo (by assumption)) ?_
        refine hy_goto (i := 64) (tt := 66) rfl ?_
        refine hy_ireturn (i := 66) rfl rfl ?_
        exact ⟨⟨_, rfl⟩, hG⟩
    · skip
      by_cases zq1 : w = 1
      · refine hy_lsw (i := 57) (tt := 67) rfl (by rw [zq1]; rfl) ?_
        refine hy_iload (i := 67) rfl rfl ?_
        refine hy_ireturn (i := 68) rfl rfl ?_
        exact ⟨⟨_, rfl⟩, hG⟩
      · skip
        refine hy_lsw (i := 57) (tt := 69) rfl (by simp [hx_look]; omega) ?_
        refine hy_aload (i := 69) rfl rfl ?_
        refine hy_getr (i := 70) rfl rfl ?_
        refine hy_iload (i := 71) rfl rfl ?_
        refine hy_cV1e (i := 72) rfl mj_A_stepsTo (by decide) rfl (Nat.le_of_ble_eq_true rfl) rfl rfl rfl (c_A_stepsTo (by assumption)) ?_
        refine hy_ireturn (i := 73) rfl rfl ?_
        exact ⟨⟨_, rfl⟩, hG⟩
  have loop : ∀ (m : Nat), ∀ (k : Nat) (t1 : hy_T), m + k = 64 → hy_F wyX t t1 → hy_W sc hm_W_way 5 34 [.inr (some 2), .inl a, .inl b, .inl u, .inl e, .inl q, .inl w, .inl (k : Int)] [] t1 (fun r t' => (∃ x : Int, r = some x) ∧ hy_F wyX t t') := by
    intro m
    induction m with
    | zero =>
      intro k t1 hm hF
      refine hy_iload (i := 34) rfl rfl ?_
      refine hy_const (i := 35) rfl (by decide) ?_
      refine hy_ic_ge (i := 36) (tt := 47) rfl (fun zc1 => ?_) (fun zc1 => ?_)
      · exact fin _ _ hF
      · omega
    | succ m ih =>
      intro k t1 hm hF
      refine hy_iload (i := 34) rfl rfl ?_
      refine hy_const (i := 35) rfl (by decide) ?_
      refine hy_ic_ge (i := 36) (tt := 47) rfl (fun zc1 => ?_) (fun zc1 => ?_)
      · omega
      · refine hy_aload (i := 37) rfl rfl ?_
        refine hy_getr (i := 38) rfl rfl ?_
        refine hy_iload (i := 39) rfl rfl ?_
        refine hy_aload (i := 40) rfl rfl ?_
        refine hy_iload (i := 41) rfl rfl ?_
        refine hy_iload (i := 42) rfl rfl ?_
        refine hy_cV2e (i := 43) rfl mj_W_isHidden (by decide) rfl (Nat.le_of_ble_eq_true rfl) rfl rfl rfl (c_W_isHidden) ?_
        refine hy_cV2v (i := 44) rfl mj_A_mark (by decide) rfl (Nat.le_of_ble_eq_true rfl) rfl rfl rfl (c_A_mark (hy_b01 _)) ?_
        refine hy_iinc (i := 45) rfl rfl (by omega) ?_
        refine hy_goto (i := 46) (tt := 34) rfl ?_
        exact ih (k + 1) _ (by omega) (by split; exact hF.up rfl; exact hF)
  refine hy_iload (i := 0) rfl rfl ?_
  refine hy_const (i := 1) rfl (by decide) ?_
  refine hy_cS2e (i := 2) rfl (by decide) mj_W_isAmong (by decide) rfl (Nat.le_of_ble_eq_true rfl) (c_W_isAmong) ?_
  refine hy_ib_eq (i := 3) (tt := 13) rfl (fun zc1 => ?_) (fun zc1 => ?_)
  · refine hy_const (i := 13) rfl (by decide) ?_
    refine hy_ireturn (i := 14) rfl rfl ?_
    exact ⟨⟨_, rfl⟩, hy_F.rf⟩
  · refine hy_iload (i := 4) rfl rfl ?_
    refine hy_const (i := 5) rfl (by decide) ?_
    refine hy_cS2e (i := 6) rfl (by decide) mj_W_isAmong (by decide) rfl (Nat.le_of_ble_eq_true rfl) (c_W_isAmong) ?_
    refine hy_ib_eq (i := 7) (tt := 13) rfl (fun zc2 => ?_) (fun zc2 => ?_)
    · refine hy_const (i := 13) rfl (by decide) ?_
      refine hy_ireturn (i := 14) rfl rfl ?_
      exact ⟨⟨_, rfl⟩, hy_F.rf⟩
    · refine hy_aload (i := 8) rfl rfl ?_
      refine hy_getr (i := 9) rfl rfl ?_
      refine hy_iload (i := 10) rfl rfl ?_
      refine hy_cV1e (i := 11) rfl mj_P_isTold (by decide) rfl (Nat.le_of_ble_eq_true rfl) rfl rfl rfl (c_P_isTold) ?_
      refine hy_ib_ne (i := 12) (tt := 15) rfl (fun zc3 => ?_) (fun zc3 => ?_)
      · refine hy_iload (i := 15) rfl rfl ?_
        refine hy_cS1e (i := 16) rfl (by decide) mj_W_isEmpire (by decide) rfl (Nat.le_of_ble_eq_true rfl) (c_W_isEmpire) ?_
        refine hy_ib_eq (i := 17) (tt := 25) rfl (fun zc4 => ?_) (fun zc4 => ?_)
        · refine hy_const (i := 25) rfl (by decide) ?_
          refine hy_ireturn (i := 26) rfl rfl ?_
          exact ⟨⟨_, rfl⟩, hy_F.rf⟩
        · refine hy_iload (i := 18) rfl rfl ?_
          refine hy_cS1e (i := 19) rfl (by decide) mj_W_isQuarter (by decide) rfl (Nat.le_of_ble_eq_true rfl) (c_W_isQuarter) ?_
          refine hy_ib_eq (i := 20) (tt := 25) rfl (fun zc5 => ?_) (fun zc5 => ?_)
          · refine hy_const (i := 25) rfl (by decide) ?_
            refine hy_ireturn (i := 26) rfl rfl ?_
            exact ⟨⟨_, rfl⟩, hy_F.rf⟩
          · refine hy_iload (i := 21) rfl rfl ?_
            refine hy_const (i := 22) rfl (by decide) ?_
            refine hy_cS2e (i := 23) rfl (by decide) mj_W_isAmong (by decide) rfl (Nat.le_of_ble_eq_true rfl) (c_W_isAmong) ?_
            refine hy_ib_ne (i := 24) (tt := 27) rfl (fun zc6 => ?_) (fun zc6 => ?_)
            · refine hy_aload (i := 27) rfl rfl ?_
              refine hy_getr (i := 28) rfl rfl ?_
              refine hy_iload (i := 29) rfl rfl ?_
              refine hy_iload (i := 30) rfl rfl ?_
              refine hy_cV2 (i := 31) rfl mj_E_look (by decide) rfl (Nat.le_of_ble_eq_true rfl) rfl rfl rfl (c_E_look (by assumption)) (fun r7_ t7_ h7 => ?_)
              obtain ⟨rfl, hL7, hF7⟩ := h7
              dsimp only [hy_st, List.nil_append]
              refine hy_const (i := 32) rfl (by decide) ?_
              refine hy_istore (i := 33) rfl ?_
              exact loop 64 0 _ rfl ((show hy_F lX t _ by assumption).w (fun r j q => by revert q; simp [lX, wyX]; omega))
            · refine hy_const (i := 25) rfl (by decide) ?_
              refine hy_ireturn (i := 26) rfl rfl ?_
              exact ⟨⟨_, rfl⟩, hy_F.rf⟩
      · refine hy_const (i := 13) rfl (by decide) ?_
        refine hy_ireturn (i := 14) rfl rfl ?_
        exact ⟨⟨_, rfl⟩, hy_F.rf⟩
theorem c_W_isMade_33 {k : Int} (hl : t 27 6 ≤ 8) (hc : 0 ≤ t 33 3 ∧ t 33 3 ≤ 16) : hy_Ct sc hm_W_isMade 4 [.inr (some 2), .inr (some 33), .inl k] t (hy_e (some (hy_b (wf_can 33 t k))) (wf_make 33 t k)) := by
  refine hy_mk_ct ok_W_isMade ck_W_isMade (Nat.le_of_ble_eq_true rfl) ?_
  by_cases h1 : wf_plain t (ln_v t 28 k) = true
  · have e1 : wf_can 33 t k = (decide (t 33 3 < 16) && sp_canGo (t 34) (ln_v t 28 k) (ln_v t 29 k) (ln_v t 31 k) (ln_v t 32 k)) := by unfold wf_can; rw [h1, Bool.true_and]
    have e2 : wf_make 33 t k = if (decide (t 33 3 < 16) && sp_canGo (t 34) (ln_v t 28 k) (ln_v t 29 k) (ln_v t 31 k) (ln_v t 32 k)) = true then sp_made 33 t (ln_v t 28 k) (ln_v t 29 k) (ln_v t 31 k) (ln_v t 32 k) (hy_b (decide ((0 ≤ k ∧ k < t 27 6) ∧ t 30 k.toNat = 43))) else t := by unfold wf_make; rw [e1]
    rw [e1, e2]
    refine hy_aload (i := 0) rfl rfl ?_
    refine hy_getr (i := 1) rfl rfl ?_
    refine hy_aload (i := 2) rfl rfl ?_
    refine hy_getr (i := 3) rfl rfl ?_
    refine hy_iload (i := 4) rfl rfl ?_
    refine hy_cV1e (i := 5) rfl mj_N_hue (by decide) rfl (Nat.le_of_ble_eq_true rfl) rfl rfl rfl (c_N_hue (by assumption)) ?_
    refine hy_cV1e (i := 6) rfl mj_P_isPlain (by decide) rfl (Nat.le_of_ble_eq_true rfl) rfl rfl rfl (c_P_isPlain) ?_
    refine hy_ib_eq (i := 7) (tt := 33) rfl (fun zc1 => ?_) (fun zc1 => ?_)
    · exact absurd (h1.symm.trans zc1) (by decide)
    · refine hy_aload (i := 8) rfl rfl ?_
      refine hy_aload (i := 9) rfl rfl ?_
      refine hy_getr (i := 10) rfl rfl ?_
      refine hy_iload (i := 11) rfl rfl ?_
      refine hy_cV1e (i := 12) rfl mj_N_hue (by decide) rfl (Nat.le_of_ble_eq_true rfl) rfl rfl rfl (c_N_hue (by assumption)) ?_
      refine hy_aload (i := 13) rfl rfl ?_
      refine hy_getr (i := 14) rfl rfl ?_
      refine hy_iload (i := 15) rfl rfl ?_
      refine hy_cV1e (i := 16) rfl mj_N_quarters (by decide) rfl (Nat.le_of_ble_eq_true rfl) rfl rfl rfl (c_N_quarters (by assumption)) ?_
      refine hy_aload (i := 17) rfl rfl ?_
      refine hy_getr (i := 18) rfl rfl ?_
      refine hy_iload (i := 19) rfl rfl ?_
      refine hy_cV1e (i := 20) rfl mj_N_giver (by decide) rfl (Nat.le_of_ble_eq_true rfl) rfl rfl rfl (c_N_giver (by assumption)) ?_
      refine hy_aload (i := 21) rfl rfl ?_
      refine hy_getr (i := 22) rfl rfl ?_
      refine hy_iload (i := 23) rfl rfl ?_
      refine hy_cV1e (i := 24) rfl mj_N_other (by decide) rfl (Nat.le_of_ble_eq_true rfl) rfl rfl rfl (c_N_other (by assumption)) ?_
      refine hy_aload (i := 25) rfl rfl ?_
      refine hy_getr (i := 26) rfl rfl ?_
      refine hy_iload (i := 27) rfl rfl ?_
      refine hy_cV1e (i := 28) rfl mj_N_isShared (by decide) rfl (Nat.le_of_ble_eq_true rfl) rfl rfl rfl (c_N_isShared (by assumption)) ?_
      refine hy_cV5e (i := 29) rfl mj_S_isMade (by decide) rfl (Nat.le_of_ble_eq_true rfl) rfl rfl rfl (c_S_isMade_33 hc (hy_b01 _)) ?_
      refine hy_ib_eq (i := 30) (tt := 33) rfl (fun zc2 => ?_) (fun zc2 => ?_)
      · refine hy_const (i := 33) rfl (by decide) ?_
        refine hy_zreturn (i := 34) rfl rfl (by first | decide | exact hy_b01 _) ?_
        first | exact ⟨congrArg some (by rw [show (decide (t 33 3 < 16) && sp_canGo (t 34) (ln_v t 28 k) (ln_v t 29 k) (ln_v t 31 k) (ln_v t 32 k)) = true from zc2]; rfl), rfl⟩ | exact ⟨congrArg some (by rw [show (decide (t 33 3 < 16) && sp_canGo (t 34) (ln_v t 28 k) (ln_v t 29 k) (ln_v t 31 k) (ln_v t 32 k)) = false from zc2]; rfl), rfl⟩
      · refine hy_const (i := 31) rfl (by decide) ?_
        refine hy_goto (i := 32) (tt := 34) rfl ?_
        refine hy_zreturn (i := 34) rfl rfl (by first | decide | exact hy_b01 _) ?_
        first | exact ⟨congrArg some (by rw [show (decide (t 33 3 < 16) && sp_canGo (t 34) (ln_v t 28 k) (ln_v t 29 k) (ln_v t 31 k) (ln_v t 32 k)) = true from zc2]; rfl), rfl⟩ | exact ⟨congrArg some (by rw [show (decide (t 33 3 < 16) && sp_canGo (t 34) (ln_v t 28 k) (ln_v t 29 k) (ln_v t 31 k) (ln_v t 32 k)) = false from zc2]; rfl), rfl⟩
  · rw [Bool.not_eq_true] at h1
    have e1 : wf_can 33 t k = false := by unfold wf_can; rw [h1, Bool.false_and]
    have e2 : wf_make 33 t k = t := by unfold wf_make; rw [e1]; rfl
    rw [e1, e2]
    refine hy_aload (i := 0) rfl rfl ?_
    refine hy_getr (i := 1) rfl rfl ?_
    refine hy_aload (i := 2) rfl rfl ?_
    refine hy_getr (i := 3) rfl rfl ?_
    refine hy_iload (i := 4) rfl rfl ?_
    refine hy_cV1e (i := 5) rfl mj_N_hue (by decide) rfl (Nat.le_of_ble_eq_true rfl) rfl rfl rfl (c_N_hue (by assumption)) ?_
    refine hy_cV1e (i := 6) rfl mj_P_isPlain (by decide) rfl (Nat.le_of_ble_eq_true rfl) rfl rfl rfl (c_P_isPlain) ?_
    refine hy_ib_eq (i := 7) (tt := 33) rfl (fun zc1 => ?_) (fun zc1 => ?_)
    · refine hy_const (i := 33) rfl (by decide) ?_
      refine hy_zreturn (i := 34) rfl rfl (by first | decide | exact hy_b01 _) ?_
      exact ⟨rfl, rfl⟩
    · exact absurd (h1.symm.trans zc1) (by decide)
theorem c_W_isMade_41 {k : Int} (hl : t 27 6 ≤ 8) (hc : 0 ≤ t 41 3 ∧ t 41 3 ≤ 16) : hy_Ct sc hm_W_isMade 4 [.inr (some 2), .inr (some 41), .inl k] t (hy_e (some (hy_b (wf_can 41 t k))) (wf_make 41 t k)) := by
  refine hy_mk_ct ok_W_isMade ck_W_isMade (Nat.le_of_ble_eq_true rfl) ?_
  by_cases h1 : wf_plain t (ln_v t 28 k) = true
  · have e1 : wf_can 41 t k = (decide (t 41 3 < 16) && sp_canGo (t 42) (ln_v t 28 k) (ln_v t 29 k) (ln_v t 31 k) (ln_v t 32 k)) := by unfold wf_can; rw [h1, Bool.true_and]
    have e2 : wf_make 41 t k = if (decide (t 41 3 < 16) && sp_canGo (t 42) (ln_v t 28 k) (ln_v t 29 k) (ln_v t 31 k) (ln_v t 32 k)) = true then sp_made 41 t (ln_v t 28 k) (ln_v t 29 k) (ln_v t 31 k) (ln_v t 32 k) (hy_b (decide ((0 ≤ k ∧ k < t 27 6) ∧ t 30 k.toNat = 43))) else t := by unfold wf_make; rw [e1]
    rw [e1, e2]
    refine hy_aload (i := 0) rfl rfl ?_
    refine hy_getr (i := 1) rfl rfl ?_
    refine hy_aload (i := 2) rfl rfl ?_
    refine hy_getr (i := 3) rfl rfl ?_
    refine hy_iload (i := 4) rfl rfl ?_
    refine hy_cV1e (i := 5) rfl mj_N_hue (by decide) rfl (Nat.le_of_ble_eq_true rfl) rfl rfl rfl (c_N_hue (by assumption)) ?_
    refine hy_cV1e (i := 6) rfl mj_P_isPlain (by decide) rfl (Nat.le_of_ble_eq_true rfl) rfl rfl rfl (c_P_isPlain) ?_
    refine hy_ib_eq (i := 7) (tt := 33) rfl (fun zc1 => ?_) (fun zc1 => ?_)
    · exact absurd (h1.symm.trans zc1) (by decide)
    · refine hy_aload (i := 8) rfl rfl ?_
      refine hy_aload (i := 9) rfl rfl ?_
      refine hy_getr (i := 10) rfl rfl ?_
      refine hy_iload (i := 11) rfl rfl ?_
      refine hy_cV1e (i := 12) rfl mj_N_hue (by decide) rfl (Nat.le_of_ble_eq_true rfl) rfl rfl rfl (c_N_hue (by assumption)) ?_
      refine hy_aload (i := 13) rfl rfl ?_
      refine hy_getr (i := 14) rfl rfl ?_
      refine hy_iload (i := 15) rfl rfl ?_
      refine hy_cV1e (i := 16) rfl mj_N_quarters (by decide) rfl (Nat.le_of_ble_eq_true rfl) rfl rfl rfl (c_N_quarters (by assumption)) ?_
      refine hy_aload (i := 17) rfl rfl ?_
      refine hy_getr (i := 18) rfl rfl ?_
      refine hy_iload (i := 19) rfl rfl ?_
      refine hy_cV1e (i := 20) rfl mj_N_giver (by decide) rfl (Nat.le_of_ble_eq_true rfl) rfl rfl rfl (c_N_giver (by assumption)) ?_
      refine hy_aload (i := 21) rfl rfl ?_
      refine hy_getr (i := 22) rfl rfl ?_
      refine hy_iload (i := 23) rfl rfl ?_
      refine hy_cV1e (i := 24) rfl mj_N_other (by decide) rfl (Nat.le_of_ble_eq_true rfl) rfl rfl rfl (c_N_other (by assumption)) ?_
      refine hy_aload (i := 25) rfl rfl ?_
      refine hy_getr (i := 26) rfl rfl ?_
      refine hy_iload (i := 27) rfl rfl ?_
      refine hy_cV1e (i := 28) rfl mj_N_isShared (by decide) rfl (Nat.le_of_ble_eq_true rfl) rfl rfl rfl (c_N_isShared (by assumption)) ?_
      refine hy_cV5e (i := 29) rfl mj_S_isMade (by decide) rfl (Nat.le_of_ble_eq_true rfl) rfl rfl rfl (c_S_isMade_41 hc (hy_b01 _)) ?_
      refine hy_ib_eq (i := 30) (tt := 33) rfl (fun zc2 => ?_) (fun zc2 => ?_)
      · refine hy_const (i := 33) rfl (by decide) ?_
        refine hy_zreturn (i := 34) rfl rfl (by first | decide | exact hy_b01 _) ?_
        first | exact ⟨congrArg some (by rw [show (decide (t 41 3 < 16) && sp_canGo (t 42) (ln_v t 28 k) (ln_v t 29 k) (ln_v t 31 k) (ln_v t 32 k)) = true from zc2]; rfl), rfl⟩ | exact ⟨congrArg some (by rw [show (decide (t 41 3 < 16) && sp_canGo (t 42) (ln_v t 28 k) (ln_v t 29 k) (ln_v t 31 k) (ln_v t 32 k)) = false from zc2]; rfl), rfl⟩
      · refine hy_const (i := 31) rfl (by decide) ?_
        refine hy_goto (i := 32) (tt := 34) rfl ?_
        refine hy_zreturn (i := 34) rfl rfl (by first | decide | exact hy_b01 _) ?_
        first | exact ⟨congrArg some (by rw [show (decide (t 41 3 < 16) && sp_canGo (t 42) (ln_v t 28 k) (ln_v t 29 k) (ln_v t 31 k) (ln_v t 32 k)) = true from zc2]; rfl), rfl⟩ | exact ⟨congrArg some (by rw [show (decide (t 41 3 < 16) && sp_canGo (t 42) (ln_v t 28 k) (ln_v t 29 k) (ln_v t 31 k) (ln_v t 32 k)) = false from zc2]; rfl), rfl⟩
  · rw [Bool.not_eq_true] at h1
    have e1 : wf_can 41 t k = false := by unfold wf_can; rw [h1, Bool.false_and]
    have e2 : wf_make 41 t k = t := by unfold wf_make; rw [e1]; rfl
    rw [e1, e2]
    refine hy_aload (i := 0) rfl rfl ?_
    refine hy_getr (i := 1) rfl rfl ?_
    refine hy_aload (i := 2) rfl rfl ?_
    refine hy_getr (i := 3) rfl rfl ?_
    refine hy_iload (i := 4) rfl rfl ?_
    refine hy_cV1e (i := 5) rfl mj_N_hue (by decide) rfl (Nat.le_of_ble_eq_true rfl) rfl rfl rfl (c_N_hue (by assumption)) ?_
    refine hy_cV1e (i := 6) rfl mj_P_isPlain (by decide) rfl (Nat.le_of_ble_eq_true rfl) rfl rfl rfl (c_P_isPlain) ?_
    refine hy_ib_eq (i := 7) (tt := 33) rfl (fun zc1 => ?_) (fun zc1 => ?_)
    · refine hy_const (i := 33) rfl (by decide) ?_
      refine hy_zreturn (i := 34) rfl rfl (by first | decide | exact hy_b01 _) ?_
      exact ⟨rfl, rfl⟩
    · exact absurd (h1.symm.trans zc1) (by decide)
end WG
/-! the model's law: what its codes come to -/
def mc_reck (op x y : Int) : Int :=
  if op = 2 then w32 (x + y)
  else if op = 3 then w32 (x - y)
  else if op = 4 then w32 (x * y)
  else if op = 5 then hz_div x y
  else if op = 6 then hz_rem x y
  else if op = 7 then (if x < y then 1 else 0)
  else if op = 8 then (if y < x then 1 else 0)
  else (if x = y then 1 else 0)
def mc_step (op v : Int) (V : Nat → Int) (k : Int) (z : Nat) (f : Nat → Int) : Option (Int × Nat × (Nat → Int)) :=
  if op = 0 ∨ op = 1 then some (k, z + 1, su f z (if op = 0 then v else V v.toNat))
  else if op = 10 then some (k, z, su f (z - 1) (w32 (1 - f (z - 1))))
  else if op = 11 ∨ op = 12 then (if (op = 12 ∧ f (z - 1) = 1) ∨ (op = 11 ∧ f (z - 1) = 0) then some (v, z, f) else some (k, z - 1, f))
  else if (op = 5 ∨ op = 6) ∧ f (z - 1) = 0 then none
  else some (k, z - 1, su f (z - 2) (mc_reck op (f (z - 2)) (f (z - 1))))
def mc_run (C V : Nat → Int) (b : Int) : Nat → Int → Nat → (Nat → Int) → Int
  | 0, _, _, f => f 0
  | m + 1, k, z, f => if k < b then
      match mc_step (C k.toNat / 1048576) (C k.toNat % 1048576) V (k + 1) z f with
      | none => 0
      | some q => mc_run C V b m q.1 q.2.1 q.2.2
    else f 0
theorem mc_go {C V : Nat → Int} {b : Int} {m z z' : Nat} {k k' : Int} {f f' : Nat → Int} (h : k < b) (hs : mc_step (C k.toNat / 1048576) (C k.toNat % 1048576) V (k + 1) z f = some (k', z', f')) : mc_run C V b (m + 1) k z f = mc_run C V b m k' z' f' := by
  simp only [mc_run]
  rw [if_pos h, hs]
theorem mc_no {C V : Nat → Int} {b : Int} {m z : Nat} {k : Int} {f : Nat → Int} (h : k < b) (hs : mc_step (C k.toNat / 1048576) (C k.toNat % 1048576) V (k + 1) z f = none) : mc_run C V b (m + 1) k z f = 0 := by
  simp only [mc_run]
  rw [if_pos h, hs]
theorem mc_stop {C V : Nat → Int} {b : Int} {m z : Nat} {k : Int} {f : Nat → Int} (h : ¬ k < b) : mc_run C V b m k z f = f 0 := by
  cases m with
  | zero => rfl
  | succ m => simp only [mc_run]; rw [if_neg h]
/-- codes that are well laid: D is how many lie on the stack -/
def mc_at (C : Nat → Int) (b : Int) (D : Nat → Nat) (k : Nat) : Prop :=
  (0 ≤ C k ∧ C k < 16777216 ∧ D k ≤ 250) ∧
  ((C k / 1048576 = 0 ∨ C k / 1048576 = 1) → D (k + 1) = D k + 1 ∧ (C k / 1048576 = 1 → C k % 1048576 < 10)) ∧
  (C k / 1048576 = 10 → 1 ≤ D k ∧ D (k + 1) = D k) ∧
  ((C k / 1048576 = 11 ∨ C k / 1048576 = 12) → 1 ≤ D k ∧ D (k + 1) + 1 = D k ∧ (k : Int) < C k % 1048576 ∧ C k % 1048576 ≤ b ∧ D (C k % 1048576).toNat = D k) ∧
  (¬ (C k / 1048576 = 0 ∨ C k / 1048576 = 1) → ¬ C k / 1048576 = 10 → ¬ (C k / 1048576 = 11 ∨ C k / 1048576 = 12) → 2 ≤ D k ∧ D (k + 1) + 1 = D k)
def mc_wfD (C : Nat → Int) (a b : Int) (D : Nat → Nat) : Prop := (0 ≤ a ∧ a ≤ b ∧ b < 260) ∧ D a.toNat = 0 ∧ D b.toNat = 1 ∧ ∀ k : Nat, a ≤ k → (k : Int) < b → mc_at C b D k
def mc_wf (C : Nat → Int) (a b : Int) : Prop := ∃ D : Nat → Nat, mc_wfD C a b D
theorem mc_eq {C V V' : Nat → Int} {a b : Int} {D : Nat → Nat} (h : mc_wfD C a b D) (hV : ∀ j, j < 10 → V j = V' j) : ∀ (m : Nat) (k : Int) (z : Nat) (f g : Nat → Int), (∀ j, j < z → f j = g j) → a ≤ k → k ≤ b → b - k ≤ m → D k.toNat = z → mc_run C V b m k z f = mc_run C V' b m k z g
  | 0, k, z, f, g, hf, ha, hb, hm, hD => by
    obtain ⟨h0, -, h1, -⟩ := h
    obtain rfl : k = b := by omega
    exact hf 0 (by omega)
  | m + 1, k, z, f, g, hf, ha, hb, hm, hD => by
    by_cases hk : k < b
    · obtain ⟨h0, -, h1, h2⟩ := id h
      obtain ⟨c0, c1, c2, c3, c4⟩ := h2 k.toNat (by omega) (by omega)
      have e1 : (k + 1).toNat = k.toNat + 1 := by omega
      by_cases zc1 : C k.toNat / 1048576 = 0 ∨ C k.toNat / 1048576 = 1
      · obtain ⟨d1, d3⟩ := c1 zc1
        have s1 : ∀ (V : Nat → Int) (f : Nat → Int), mc_step (C k.toNat / 1048576) (C k.toNat % 1048576) V (k + 1) z f = some (k + 1, z + 1, su f z (if C k.toNat / 1048576 = 0 then C k.toNat % 1048576 else V (C k.toNat % 1048576).toNat)) := fun V f => by unfold mc_step; rw [if_pos zc1]
        rw [mc_go hk (s1 V f), mc_go hk (s1 V' g)]
        refine mc_eq h hV m _ _ _ _ (fun j hj => ?_) (by omega) (by omega) (by omega) (by rw [e1]; omega)
        simp only [su]
        by_cases hjz : j = z
        · rw [if_pos hjz, if_pos hjz]
          by_cases h00 : C k.toNat / 1048576 = 0
          · rw [if_pos h00, if_pos h00]
          · rw [if_neg h00, if_neg h00]
            exact hV _ (by have := d3 (by omega); omega)
        · rw [if_neg hjz, if_neg hjz]
          exact hf j (by omega)
      · by_cases zc2 : C k.toNat / 1048576 = 10
        · obtain ⟨d1, d2⟩ := c2 zc2
          have s1 : ∀ (V : Nat → Int) (f : Nat → Int), mc_step (C k.toNat / 1048576) (C k.toNat % 1048576) V (k + 1) z f = some (k + 1, z, su f (z - 1) (w32 (1 - f (z - 1)))) := fun V f => by unfold mc_step; rw [if_neg zc1, if_pos zc2]
          rw [mc_go hk (s1 V f), mc_go hk (s1 V' g)]
          refine mc_eq h hV m _ _ _ _ (fun j hj => ?_) (by omega) (by omega) (by omega) (by rw [e1]; omega)
          simp only [su]
          split
          · rw [hf (z - 1) (by omega)]
          · exact hf j hj
        · by_cases zc3 : C k.toNat / 1048576 = 11 ∨ C k.toNat / 1048576 = 12
          · obtain ⟨d1, d2, d3, d4, d5⟩ := c3 zc3
            have ez := hf (z - 1) (by omega)
            by_cases zc4 : (C k.toNat / 1048576 = 12 ∧ f (z - 1) = 1) ∨ (C k.toNat / 1048576 = 11 ∧ f (z - 1) = 0)
            · have zc5 := zc4
              rw [ez] at zc5
              rw [mc_go hk (k' := C k.toNat % 1048576) (z' := z) (f' := f) (by unfold mc_step; rw [if_neg zc1, if_neg zc2, if_pos zc3, if_pos zc4]), mc_go hk (k' := C k.toNat % 1048576) (z' := z) (f' := g) (by unfold mc_step; rw [if_neg zc1, if_neg zc2, if_pos zc3, if_pos zc5])]
              exact mc_eq h hV m _ _ _ _ hf (by omega) (by omega) (by omega) (by omega)
            · have zc5 := zc4
              rw [ez] at zc5
              rw [mc_go hk (k' := k + 1) (z' := z - 1) (f' := f) (by unfold mc_step; rw [if_neg zc1, if_neg zc2, if_pos zc3, if_neg zc4]), mc_go hk (k' := k + 1) (z' := z - 1) (f' := g) (by unfold mc_step; rw [if_neg zc1, if_neg zc2, if_pos zc3, if_neg zc5])]
              exact mc_eq h hV m _ _ _ _ (fun j hj => hf j (by omega)) (by omega) (by omega) (by omega) (by rw [e1]; omega)
          · obtain ⟨d1, d2⟩ := c4 zc1 zc2 zc3
            have ez := hf (z - 1) (by omega)
            have ey := hf (z - 2) (by omega)
            by_cases zc4 : (C k.toNat / 1048576 = 5 ∨ C k.toNat / 1048576 = 6) ∧ f (z - 1) = 0
            · have zc5 := zc4
              rw [ez] at zc5
              rw [mc_no hk (by unfold mc_step; rw [if_neg zc1, if_neg zc2, if_neg zc3, if_pos zc4]), mc_no hk (by unfold mc_step; rw [if_neg zc1, if_neg zc2, if_neg zc3, if_pos zc5])]
            · have zc5 := zc4
              rw [ez] at zc5
              rw [mc_go hk (k' := k + 1) (z' := z - 1) (f' := su f (z - 2) (mc_reck (C k.toNat / 1048576) (f (z - 2)) (f (z - 1)))) (by unfold mc_step; rw [if_neg zc1, if_neg zc2, if_neg zc3, if_neg zc4]), mc_go hk (k' := k + 1) (z' := z - 1) (f' := su g (z - 2) (mc_reck (C k.toNat / 1048576) (g (z - 2)) (g (z - 1)))) (by unfold mc_step; rw [if_neg zc1, if_neg zc2, if_neg zc3, if_neg zc5])]
              refine mc_eq h hV m _ _ _ _ (fun j hj => ?_) (by omega) (by omega) (by omega) (by rw [e1]; omega)
              simp only [su]
              split
              · rw [ez, ey]
              · exact hf j (by omega)
    · obtain rfl : k = b := by omega
      rw [mc_stop hk, mc_stop hk]
      exact hf 0 (by have := h.2.2.1; omega)
/-- what the codes from a to b come to -/
def mc_val (C V : Nat → Int) (a b : Int) : Int := mc_run C V b 260 a 0 (fun _ => 0)
theorem mc_val_V {C V V' : Nat → Int} {a b : Int} (h : mc_wf C a b) (hV : ∀ j, j < 10 → V j = V' j) : mc_val C V a b = mc_val C V' a b := by
  obtain ⟨D, hD⟩ := h
  exact mc_eq hD hV 260 a 0 _ _ (fun _ _ => rfl) (Int.le_refl _) hD.1.2.1 (by have := hD.1; omega) hD.2.1
abbrev mlX : Nat → Nat → Bool := fun r _ => r == 77
abbrev mvX : Nat → Nat → Bool := fun r _ => r == 77 || r == 78
section ML
variable {sc : List Int32} {t : hy_T}
theorem c_M_reckon {op x y : Int} (h : op = 5 ∨ op = 6 → y ≠ 0) : hy_Ct sc hm_M_reckon 0 [.inl op, .inl x, .inl y] t (hy_e (some (mc_reck op x y)) t) := by
  refine hy_mk_ct ok_M_reckon ck_M_reckon (Nat.le_of_ble_eq_true rfl) ?_
  refine hy_iload (i := 0) rfl rfl ?_
  by_cases zq1 : op = 2
  · refine hy_tsw (i := 1) (tt := 2) rfl (by rw [zq1]; rfl) ?_
    refine hy_iload (i := 2) rfl rfl ?_
    refine hy_iload (i := 3) rfl rfl ?_
    refine hy_iaddw (i := 4) rfl ?_
    refine hy_ireturn (i := 5) rfl rfl ?_
    refine ⟨congrArg some ?_, rfl⟩
    unfold mc_reck
    (repeat (first | rw [if_pos (by omega)] | rw [if_neg (by omega)]))
    try rfl
  · skip
    by_cases zq1 : op = 3
    · refine hy_tsw (i := 1) (tt := 6) rfl (by rw [zq1]; rfl) ?_
      refine hy_iload (i := 6) rfl rfl ?_
      refine hy_iload (i := 7) rfl rfl ?_
      refine hy_isubw (i := 8) rfl ?_
      refine hy_ireturn (i := 9) rfl rfl ?_
      refine ⟨congrArg some ?_, rfl⟩
      unfold mc_reck
      (repeat (first | rw [if_pos (by omega)] | rw [if_neg (by omega)]))
      try rfl
    · skip
      by_cases zq1 : op = 4
      · refine hy_tsw (i := 1) (tt := 10) rfl (by rw [zq1]; rfl) ?_
        refine hy_iload (i := 10) rfl rfl ?_
        refine hy_iload (i := 11) rfl rfl ?_
        refine hy_imulw (i := 12) rfl ?_
        refine hy_ireturn (i := 13) rfl rfl ?_
        refine ⟨congrArg some ?_, rfl⟩
        unfold mc_reck
        (repeat (first | rw [if_pos (by omega)] | rw [if_neg (by omega)]))
        try rfl
      · skip
        by_cases zq1 : op = 5
        · refine hy_tsw (i := 1) (tt := 14) rfl (by rw [zq1]; rfl) ?_
          refine hy_iload (i := 14) rfl rfl ?_
          refine hy_iload (i := 15) rfl rfl ?_
          refine hy_idivw (i := 16) rfl (h (by omega)) ?_
          refine hy_ireturn (i := 17) rfl rfl ?_
          refine ⟨congrArg some ?_, rfl⟩
          unfold mc_reck
          (repeat (first | rw [if_pos (by omega)] | rw [if_neg (by omega)]))
          try rfl
        · skip
          by_cases zq1 : op = 6
          · refine hy_tsw (i := 1) (tt := 18) rfl (by rw [zq1]; rfl) ?_
            refine hy_iload (i := 18) rfl rfl ?_
            refine hy_iload (i := 19) rfl rfl ?_
            refine hy_iremw (i := 20) rfl (h (by omega)) ?_
            refine hy_ireturn (i := 21) rfl rfl ?_
            refine ⟨congrArg some ?_, rfl⟩
            unfold mc_reck
            (repeat (first | rw [if_pos (by omega)] | rw [if_neg (by omega)]))
            try rfl
          · skip
            by_cases zq1 : op = 7
            · refine hy_tsw (i := 1) (tt := 22) rfl (by rw [zq1]; rfl) ?_
              refine hy_iload (i := 22) rfl rfl ?_
              refine hy_iload (i := 23) rfl rfl ?_
              refine hy_ic_ge (i := 24) (tt := 27) rfl (fun zc2 => ?_) (fun zc2 => ?_)
              · refine hy_const (i := 27) rfl (by decide) ?_
                refine hy_ireturn (i := 28) rfl rfl ?_
                refine ⟨congrArg some ?_, rfl⟩
                unfold mc_reck
                (repeat (first | rw [if_pos (by omega)] | rw [if_neg (by omega)]))
                try rfl
              · refine hy_const (i := 25) rfl (by decide) ?_
                refine hy_goto (i := 26) (tt := 28) rfl ?_
                refine hy_ireturn (i := 28) rfl rfl ?_
                refine ⟨congrArg some ?_, rfl⟩
                unfold mc_reck
                (repeat (first | rw [if_pos (by omega)] | rw [if_neg (by omega)]))
                try rfl
            · skip
              by_cases zq1 : op = 8
              · refine hy_tsw (i := 1) (tt := 29) rfl (by rw [zq1]; rfl) ?_
                refine hy_iload (i := 29) rfl rfl ?_
                refine hy_iload (i := 30) rfl rfl ?_
                refine hy_ic_le (i := 31) (tt := 34) rfl (fun zc2 => ?_) (fun zc2 => ?_)
                · refine hy_const (i := 34) rfl (by decide) ?_
                  refine hy_ireturn (i := 35) rfl rfl ?_
                  refine ⟨congrArg some ?_, rfl⟩
                  unfold mc_reck
                  (repeat (first | rw [if_pos (by omega)] | rw [if_neg (by omega)]))
                  try rfl
                · refine hy_const (i := 32) rfl (by decide) ?_
                  refine hy_goto (i := 33) (tt := 35) rfl ?_
                  refine hy_ireturn (i := 35) rfl rfl ?_
                  refine ⟨congrArg some ?_, rfl⟩
                  unfold mc_reck
                  (repeat (first | rw [if_pos (by omega)] | rw [if_neg (by omega)]))
                  try rfl
              · skip
                refine hy_tsw (i := 1) (tt := 36) rfl (by rcases (show op < 2 ∨ 8 < op by omega) with hh | hh <;> first | (rw [if_pos (by omega)]; rfl) | (rw [hh]; rfl)) ?_
                refine hy_iload (i := 36) rfl rfl ?_
                refine hy_iload (i := 37) rfl rfl ?_
                refine hy_ic_ne (i := 38) (tt := 41) rfl (fun zc1 => ?_) (fun zc1 => ?_)
                · refine hy_const (i := 41) rfl (by decide) ?_
                  refine hy_ireturn (i := 42) rfl rfl ?_
                  refine ⟨congrArg some ?_, rfl⟩
                  unfold mc_reck
                  (repeat (first | rw [if_pos (by omega)] | rw [if_neg (by omega)]))
                  try rfl
                · refine hy_const (i := 39) rfl (by decide) ?_
                  refine hy_goto (i := 40) (tt := 42) rfl ?_
                  refine hy_ireturn (i := 42) rfl rfl ?_
                  refine ⟨congrArg some ?_, rfl⟩
                  unfold mc_reck
                  (repeat (first | rw [if_pos (by omega)] | rw [if_neg (by omega)]))
                  try rfl
theorem c_M_comesTo {a b : Int} (h : mc_wf (t 72) a b) : hy_Ct sc hm_M_comesTo 1 [.inr (some 59), .inl a, .inl b] t (fun r t' => r = some (mc_val (t 72) (t 78) a b) ∧ hy_F mlX t t') := by
  refine hy_mk_ct ok_M_comesTo ck_M_comesTo (Nat.le_of_ble_eq_true rfl) ?_
  obtain ⟨D, hD⟩ := h
  obtain ⟨h0, hDa, hDb, h2⟩ := id hD
  have loop : ∀ (m : Nat), ∀ (k zi : Int) (z : Nat) (t1 : hy_T) (v6 v7 : hy_V), a ≤ k → k ≤ b → b - k ≤ m → zi = z → D k.toNat = z → hy_F mlX t t1 → mc_run (t 72) (t 78) b m k z (t1 77) = mc_val (t 72) (t 78) a b →
      hy_W sc hm_M_comesTo 1 10 [.inr (some 59), .inl a, .inl b, .inl zi, .inl 0, .inl k, v6, v7] [] t1 (fun r t' => r = some (mc_val (t 72) (t 78) a b) ∧ hy_F mlX t t') := by
    intro m
    induction m with
    | zero =>
      intro k zi z t1 v6 v7 ha hb hm hzi hDk hF hv
      subst hzi
      refine hy_iload (i := 10) rfl rfl ?_
      refine hy_iload (i := 11) rfl rfl ?_
      refine hy_ic_ge (i := 12) (tt := 136) rfl (fun zc1 => ?_) (fun zc1 => ?_)
      · refine hy_aload (i := 136) rfl rfl ?_
        refine hy_getr (i := 137) rfl rfl ?_
        refine hy_const (i := 138) rfl (by decide) ?_
        refine hy_iald (i := 139) rfl rfl (by decide) (show _ = 0 from rfl) ?_
        refine hy_ireturn (i := 140) rfl rfl ?_
        exact ⟨congrArg some hv, hF⟩
      · omega
    | succ m ih =>
      intro k zi z t1 v6 v7 ha hb hm hzi hDk hF hv
      subst hzi
      by_cases hk : k < b
      · obtain ⟨c0, c1, c2, c3, c4⟩ := h2 k.toNat (by omega) (by omega)
        have e1 : (k + 1).toNat = k.toNat + 1 := by omega
        have o1 : ∀ j, t1 72 j = t 72 j := fun j => hF 72 j rfl
        have o3 : ∀ j, t1 78 j = t 78 j := fun j => hF 78 j rfl
        refine hy_iload (i := 10) rfl rfl ?_
        refine hy_iload (i := 11) rfl rfl ?_
        refine hy_ic_ge (i := 12) (tt := 136) rfl (fun zc1 => ?_) (fun zc1 => ?_)
        · omega
        · refine hy_aload (i := 13) rfl rfl ?_
          refine hy_getr (i := 14) rfl rfl ?_
          refine hy_iload (i := 15) rfl rfl ?_
          refine hy_iald (i := 16) rfl rfl (by omega) rfl ?_
          rw [o1]
          refine hy_const (i := 17) rfl (by decide) ?_
          refine hy_idiv (i := 18) rfl (by omega) (by omega) ?_
          refine hy_istore (i := 19) rfl ?_
          refine hy_aload (i := 20) rfl rfl ?_
          refine hy_getr (i := 21) rfl rfl ?_
          refine hy_iload (i := 22) rfl rfl ?_
          refine hy_iald (i := 23) rfl rfl (by omega) rfl ?_
          rw [o1]
          refine hy_const (i := 24) rfl (by decide) ?_
          refine hy_irem (i := 25) rfl (by omega) (by omega) ?_
          refine hy_istore (i := 26) rfl ?_
          refine hy_iload (i := 27) rfl rfl ?_
          refine hy_const (i := 28) rfl (by decide) ?_
          refine hy_iadd (i := 29) rfl (by omega) ?_
          refine hy_istore (i := 30) rfl ?_
          refine hy_iload (i := 31) rfl rfl ?_
          refine hy_if_eq (i := 32) (tt := 36) rfl (fun zc2 => ?_) (fun zc2 => ?_)
          · refine hy_aload (i := 36) rfl rfl ?_
            refine hy_getr (i := 37) rfl rfl ?_
            refine hy_iload (i := 38) rfl rfl ?_
            refine hy_iload (i := 39) rfl rfl ?_
            refine hy_if_ne (i := 40) (tt := 43) rfl (fun zc3 => ?_) (fun zc3 => ?_)
            · refine hy_aload (i := 43) rfl rfl ?_
              refine hy_getr (i := 44) rfl rfl ?_
              refine hy_iload (i := 45) rfl rfl ?_
              refine hy_iald (i := 46) rfl rfl (by omega) rfl ?_
              try rw [o3]
              refine hy_iast (i := 47) rfl rfl (by omega) (k := z) (by omega) ?_
              refine hy_iload (i := 48) rfl rfl ?_
              refine hy_const (i := 49) rfl (by decide) ?_
              refine hy_iadd (i := 50) rfl (by omega) ?_
              refine hy_istore (i := 51) rfl ?_
              refine hy_goto (i := 52) (tt := 135) rfl ?_
              refine hy_goto (i := 135) (tt := 10) rfl ?_
              first | (exfalso; omega) | exact ih _ _ (z + 1) _ _ _ (by omega) (by omega) (by omega) (by omega) (by first | (rw [e1]; omega) | omega) (by first | exact hF | exact hF.up rfl) (by rw [← hv]; refine (mc_go hk ?_).symm; unfold mc_step; (repeat (first | rw [if_pos (by omega)] | rw [if_neg (by omega)])); try rw [hy_up_row]; try rfl) | exact ih _ _ z _ _ _ (by omega) (by omega) (by omega) (by omega) (by first | (rw [e1]; omega) | omega) (by first | exact hF | exact hF.up rfl) (by rw [← hv]; refine (mc_go hk ?_).symm; unfold mc_step; (repeat (first | rw [if_pos (by omega)] | rw [if_neg (by omega)])); try rw [hy_up_row]; try rfl) | exact ih _ _ (z - 1) _ _ _ (by omega) (by omega) (by omega) (by omega) (by first | (rw [e1]; omega) | omega) (by first | exact hF | exact hF.up rfl) (by rw [← hv]; refine (mc_go hk ?_).symm; unfold mc_step; (repeat (first | rw [if_pos (by omega)] | rw [if_neg (by omega)])); try rw [hy_up_row]; try rfl)
            · refine hy_iload (i := 41) rfl rfl ?_
              refine hy_goto (i := 42) (tt := 47) rfl ?_
              try rw [o3]
              refine hy_iast (i := 47) rfl rfl (by omega) (k := z) (by omega) ?_
              refine hy_iload (i := 48) rfl rfl ?_
              refine hy_const (i := 49) rfl (by decide) ?_
              refine hy_iadd (i := 50) rfl (by omega) ?_
              refine hy_istore (i := 51) rfl ?_
              refine hy_goto (i := 52) (tt := 135) rfl ?_
              refine hy_goto (i := 135) (tt := 10) rfl ?_
              first | (exfalso; omega) | exact ih _ _ (z + 1) _ _ _ (by omega) (by omega) (by omega) (by omega) (by first | (rw [e1]; omega) | omega) (by first | exact hF | exact hF.up rfl) (by rw [← hv]; refine (mc_go hk ?_).symm; unfold mc_step; (repeat (first | rw [if_pos (by omega)] | rw [if_neg (by omega)])); try rw [hy_up_row]; try rfl) | exact ih _ _ z _ _ _ (by omega) (by omega) (by omega) (by omega) (by first | (rw [e1]; omega) | omega) (by first | exact hF | exact hF.up rfl) (by rw [← hv]; refine (mc_go hk ?_).symm; unfold mc_step; (repeat (first | rw [if_pos (by omega)] | rw [if_neg (by omega)])); try rw [hy_up_row]; try rfl) | exact ih _ _ (z - 1) _ _ _ (by omega) (by omega) (by omega) (by omega) (by first | (rw [e1]; omega) | omega) (by first | exact hF | exact hF.up rfl) (by rw [← hv]; refine (mc_go hk ?_).symm; unfold mc_step; (repeat (first | rw [if_pos (by omega)] | rw [if_neg (by omega)])); try rw [hy_up_row]; try rfl)
          · refine hy_iload (i := 33) rfl rfl ?_
            refine hy_const (i := 34) rfl (by decide) ?_
            refine hy_ic_ne (i := 35) (tt := 53) rfl (fun zc3 => ?_) (fun zc3 => ?_)
            · refine hy_iload (i := 53) rfl rfl ?_
              refine hy_const (i := 54) rfl (by decide) ?_
              refine hy_ic_ne (i := 55) (tt := 71) rfl (fun zc4 => ?_) (fun zc4 => ?_)
              · refine hy_iload (i := 71) rfl rfl ?_
                refine hy_const (i := 72) rfl (by decide) ?_
                refine hy_ic_eq (i := 73) (tt := 77) rfl (fun zc5 => ?_) (fun zc5 => ?_)
                · refine hy_aload (i := 77) rfl rfl ?_
                  refine hy_getr (i := 78) rfl rfl ?_
                  refine hy_iload (i := 79) rfl rfl ?_
                  refine hy_const (i := 80) rfl (by decide) ?_
                  refine hy_isub (i := 81) rfl (by omega) ?_
                  refine hy_iald (i := 82) rfl rfl (by omega) (k := z - 1) (by omega) ?_
                  refine hy_iload (i := 83) rfl rfl ?_
                  refine hy_const (i := 84) rfl (by decide) ?_
                  refine hy_ic_ne (i := 85) (tt := 88) rfl (fun zc6 => ?_) (fun zc6 => ?_)
                  · refine hy_const (i := 88) rfl (by decide) ?_
                    refine hy_ic_ne (i := 89) (tt := 95) rfl (fun zc7 => ?_) (fun zc7 => ?_)
                    · refine hy_iload (i := 95) rfl rfl ?_
                      refine hy_const (i := 96) rfl (by decide) ?_
                      refine hy_isub (i := 97) rfl (by omega) ?_
                      refine hy_istore (i := 98) rfl ?_
                      refine hy_goto (i := 99) (tt := 135) rfl ?_
                      refine hy_goto (i := 135) (tt := 10) rfl ?_
                      first | (exfalso; omega) | exact ih _ _ (z + 1) _ _ _ (by omega) (by omega) (by omega) (by omega) (by first | (rw [e1]; omega) | omega) (by first | exact hF | exact hF.up rfl) (by rw [← hv]; refine (mc_go hk ?_).symm; unfold mc_step; (repeat (first | rw [if_pos (by omega)] | rw [if_neg (by omega)])); try rw [hy_up_row]; try rfl) | exact ih _ _ z _ _ _ (by omega) (by omega) (by omega) (by omega) (by first | (rw [e1]; omega) | omega) (by first | exact hF | exact hF.up rfl) (by rw [← hv]; refine (mc_go hk ?_).symm; unfold mc_step; (repeat (first | rw [if_pos (by omega)] | rw [if_neg (by omega)])); try rw [hy_up_row]; try rfl) | exact ih _ _ (z - 1) _ _ _ (by omega) (by omega) (by omega) (by omega) (by first | (rw [e1]; omega) | omega) (by first | exact hF | exact hF.up rfl) (by rw [← hv]; refine (mc_go hk ?_).symm; unfold mc_step; (repeat (first | rw [if_pos (by omega)] | rw [if_neg (by omega)])); try rw [hy_up_row]; try rfl)
                    · refine hy_iload (i := 90) rfl rfl ?_
                      refine hy_iload (i := 91) rfl rfl ?_
                      refine hy_iadd (i := 92) rfl (by omega) ?_
                      rw [Int.zero_add]
                      refine hy_istore (i := 93) rfl ?_
                      refine hy_goto (i := 94) (tt := 135) rfl ?_
                      refine hy_goto (i := 135) (tt := 10) rfl ?_
                      first | (exfalso; omega) | exact ih _ _ (z + 1) _ _ _ (by omega) (by omega) (by omega) (by omega) (by first | (rw [e1]; omega) | omega) (by first | exact hF | exact hF.up rfl) (by rw [← hv]; refine (mc_go hk ?_).symm; unfold mc_step; (repeat (first | rw [if_pos (by omega)] | rw [if_neg (by omega)])); try rw [hy_up_row]; try rfl) | exact ih _ _ z _ _ _ (by omega) (by omega) (by omega) (by omega) (by first | (rw [e1]; omega) | omega) (by first | exact hF | exact hF.up rfl) (by rw [← hv]; refine (mc_go hk ?_).symm; unfold mc_step; (repeat (first | rw [if_pos (by omega)] | rw [if_neg (by omega)])); try rw [hy_up_row]; try rfl) | exact ih _ _ (z - 1) _ _ _ (by omega) (by omega) (by omega) (by omega) (by first | (rw [e1]; omega) | omega) (by first | exact hF | exact hF.up rfl) (by rw [← hv]; refine (mc_go hk ?_).symm; unfold mc_step; (repeat (first | rw [if_pos (by omega)] | rw [if_neg (by omega)])); try rw [hy_up_row]; try rfl)
                  · refine hy_const (i := 86) rfl (by decide) ?_
                    refine hy_goto (i := 87) (tt := 89) rfl ?_
                    refine hy_ic_ne (i := 89) (tt := 95) rfl (fun zc7 => ?_) (fun zc7 => ?_)
                    · refine hy_iload (i := 95) rfl rfl ?_
                      refine hy_const (i := 96) rfl (by decide) ?_
                      refine hy_isub (i := 97) rfl (by omega) ?_
                      refine hy_istore (i := 98) rfl ?_
                      refine hy_goto (i := 99) (tt := 135) rfl ?_
                      refine hy_goto (i := 135) (tt := 10) rfl ?_
                      first | (exfalso; omega) | exact ih _ _ (z + 1) _ _ _ (by omega) (by omega) (by omega) (by omega) (by first | (rw [e1]; omega) | omega) (by first | exact hF | exact hF.up rfl) (by rw [← hv]; refine (mc_go hk ?_).symm; unfold mc_step; (repeat (first | rw [if_pos (by omega)] | rw [if_neg (by omega)])); try rw [hy_up_row]; try rfl) | exact ih _ _ z _ _ _ (by omega) (by omega) (by omega) (by omega) (by first | (rw [e1]; omega) | omega) (by first | exact hF | exact hF.up rfl) (by rw [← hv]; refine (mc_go hk ?_).symm; unfold mc_step; (repeat (first | rw [if_pos (by omega)] | rw [if_neg (by omega)])); try rw [hy_up_row]; try rfl) | exact ih _ _ (z - 1) _ _ _ (by omega) (by omega) (by omega) (by omega) (by first | (rw [e1]; omega) | omega) (by first | exact hF | exact hF.up rfl) (by rw [← hv]; refine (mc_go hk ?_).symm; unfold mc_step; (repeat (first | rw [if_pos (by omega)] | rw [if_neg (by omega)])); try rw [hy_up_row]; try rfl)
                    · refine hy_iload (i := 90) rfl rfl ?_
                      refine hy_iload (i := 91) rfl rfl ?_
                      refine hy_iadd (i := 92) rfl (by omega) ?_
                      rw [Int.zero_add]
                      refine hy_istore (i := 93) rfl ?_
                      refine hy_goto (i := 94) (tt := 135) rfl ?_
                      refine hy_goto (i := 135) (tt := 10) rfl ?_
                      first | (exfalso; omega) | exact ih _ _ (z + 1) _ _ _ (by omega) (by omega) (by omega) (by omega) (by first | (rw [e1]; omega) | omega) (by first | exact hF | exact hF.up rfl) (by rw [← hv]; refine (mc_go hk ?_).symm; unfold mc_step; (repeat (first | rw [if_pos (by omega)] | rw [if_neg (by omega)])); try rw [hy_up_row]; try rfl) | exact ih _ _ z _ _ _ (by omega) (by omega) (by omega) (by omega) (by first | (rw [e1]; omega) | omega) (by first | exact hF | exact hF.up rfl) (by rw [← hv]; refine (mc_go hk ?_).symm; unfold mc_step; (repeat (first | rw [if_pos (by omega)] | rw [if_neg (by omega)])); try rw [hy_up_row]; try rfl) | exact ih _ _ (z - 1) _ _ _ (by omega) (by omega) (by omega) (by omega) (by first | (rw [e1]; omega) | omega) (by first | exact hF | exact hF.up rfl) (by rw [← hv]; refine (mc_go hk ?_).symm; unfold mc_step; (repeat (first | rw [if_pos (by omega)] | rw [if_neg (by omega)])); try rw [hy_up_row]; try rfl)
                · refine hy_iload (i := 74) rfl rfl ?_
                  refine hy_const (i := 75) rfl (by decide) ?_
                  refine hy_ic_ne (i := 76) (tt := 100) rfl (fun zc6 => ?_) (fun zc6 => ?_)
                  · refine hy_iload (i := 100) rfl rfl ?_
                    refine hy_const (i := 101) rfl (by decide) ?_
                    refine hy_isub (i := 102) rfl (by omega) ?_
                    refine hy_istore (i := 103) rfl ?_
                    refine hy_iload (i := 104) rfl rfl ?_
                    refine hy_const (i := 105) rfl (by decide) ?_
                    refine hy_ic_eq (i := 106) (tt := 110) rfl (fun zc7 => ?_) (fun zc7 => ?_)
                    · refine hy_aload (i := 110) rfl rfl ?_
                      refine hy_getr (i := 111) rfl rfl ?_
                      refine hy_iload (i := 112) rfl rfl ?_
                      refine hy_iald (i := 113) rfl rfl (by omega) (k := z - 1) (by omega) ?_
                      refine hy_if_ne (i := 114) (tt := 117) rfl (fun zc8 => ?_) (fun zc8 => ?_)
                      · refine hy_aload (i := 117) rfl rfl ?_
                        refine hy_getr (i := 118) rfl rfl ?_
                        refine hy_iload (i := 119) rfl rfl ?_
                        refine hy_const (i := 120) rfl (by decide) ?_
                        refine hy_isub (i := 121) rfl (by omega) ?_
                        refine hy_iload (i := 122) rfl rfl ?_
                        refine hy_aload (i := 123) rfl rfl ?_
                        refine hy_getr (i := 124) rfl rfl ?_
                        refine hy_iload (i := 125) rfl rfl ?_
                        refine hy_const (i := 126) rfl (by decide) ?_
                        refine hy_isub (i := 127) rfl (by omega) ?_
                        refine hy_iald (i := 128) rfl rfl (by omega) (k := z - 2) (by omega) ?_
                        refine hy_aload (i := 129) rfl rfl ?_
                        refine hy_getr (i := 130) rfl rfl ?_
                        refine hy_iload (i := 131) rfl rfl ?_
                        refine hy_iald (i := 132) rfl rfl (by omega) (k := z - 1) (by omega) ?_
                        refine hy_cS3e (i := 133) rfl (by decide) mj_M_reckon (by decide) rfl (Nat.le_of_ble_eq_true rfl) (c_M_reckon (by omega)) ?_
                        refine hy_iast (i := 134) rfl rfl (by omega) (k := z - 2) (by omega) ?_
                        refine hy_goto (i := 135) (tt := 10) rfl ?_
                        first | (exfalso; omega) | exact ih _ _ (z + 1) _ _ _ (by omega) (by omega) (by omega) (by omega) (by first | (rw [e1]; omega) | omega) (by first | exact hF | exact hF.up rfl) (by rw [← hv]; refine (mc_go hk ?_).symm; unfold mc_step; (repeat (first | rw [if_pos (by omega)] | rw [if_neg (by omega)])); try rw [hy_up_row]; try rfl) | exact ih _ _ z _ _ _ (by omega) (by omega) (by omega) (by omega) (by first | (rw [e1]; omega) | omega) (by first | exact hF | exact hF.up rfl) (by rw [← hv]; refine (mc_go hk ?_).symm; unfold mc_step; (repeat (first | rw [if_pos (by omega)] | rw [if_neg (by omega)])); try rw [hy_up_row]; try rfl) | exact ih _ _ (z - 1) _ _ _ (by omega) (by omega) (by omega) (by omega) (by first | (rw [e1]; omega) | omega) (by first | exact hF | exact hF.up rfl) (by rw [← hv]; refine (mc_go hk ?_).symm; unfold mc_step; (repeat (first | rw [if_pos (by omega)] | rw [if_neg (by omega)])); try rw [hy_up_row]; try rfl)
                      · refine hy_const (i := 115) rfl (by decide) ?_
                        refine hy_ireturn (i := 116) rfl rfl ?_
                        first | (exfalso; omega) | (refine ⟨congrArg some ?_, hF⟩; rw [← hv]; rw [mc_no hk (by unfold mc_step; repeat (first | rw [if_pos (by omega)] | rw [if_neg (by omega)]))])
                    · refine hy_iload (i := 107) rfl rfl ?_
                      refine hy_const (i := 108) rfl (by decide) ?_
                      refine hy_ic_ne (i := 109) (tt := 117) rfl (fun zc8 => ?_) (fun zc8 => ?_)
                      · refine hy_aload (i := 117) rfl rfl ?_
                        refine hy_getr (i := 118) rfl rfl ?_
                        refine hy_iload (i := 119) rfl rfl ?_
                        refine hy_const (i := 120) rfl (by decide) ?_
                        refine hy_isub (i := 121) rfl (by omega) ?_
                        refine hy_iload (i := 122) rfl rfl ?_
                        refine hy_aload (i := 123) rfl rfl ?_
                        refine hy_getr (i := 124) rfl rfl ?_
                        refine hy_iload (i := 125) rfl rfl ?_
                        refine hy_const (i := 126) rfl (by decide) ?_
                        refine hy_isub (i := 127) rfl (by omega) ?_
                        refine hy_iald (i := 128) rfl rfl (by omega) (k := z - 2) (by omega) ?_
                        refine hy_aload (i := 129) rfl rfl ?_
                        refine hy_getr (i := 130) rfl rfl ?_
                        refine hy_iload (i := 131) rfl rfl ?_
                        refine hy_iald (i := 132) rfl rfl (by omega) (k := z - 1) (by omega) ?_
                        refine hy_cS3e (i := 133) rfl (by decide) mj_M_reckon (by decide) rfl (Nat.le_of_ble_eq_true rfl) (c_M_reckon (by omega)) ?_
                        refine hy_iast (i := 134) rfl rfl (by omega) (k := z - 2) (by omega) ?_
                        refine hy_goto (i := 135) (tt := 10) rfl ?_
                        first | (exfalso; omega) | exact ih _ _ (z + 1) _ _ _ (by omega) (by omega) (by omega) (by omega) (by first | (rw [e1]; omega) | omega) (by first | exact hF | exact hF.up rfl) (by rw [← hv]; refine (mc_go hk ?_).symm; unfold mc_step; (repeat (first | rw [if_pos (by omega)] | rw [if_neg (by omega)])); try rw [hy_up_row]; try rfl) | exact ih _ _ z _ _ _ (by omega) (by omega) (by omega) (by omega) (by first | (rw [e1]; omega) | omega) (by first | exact hF | exact hF.up rfl) (by rw [← hv]; refine (mc_go hk ?_).symm; unfold mc_step; (repeat (first | rw [if_pos (by omega)] | rw [if_neg (by omega)])); try rw [hy_up_row]; try rfl) | exact ih _ _ (z - 1) _ _ _ (by omega) (by omega) (by omega) (by omega) (by first | (rw [e1]; omega) | omega) (by first | exact hF | exact hF.up rfl) (by rw [← hv]; refine (mc_go hk ?_).symm; unfold mc_step; (repeat (first | rw [if_pos (by omega)] | rw [if_neg (by omega)])); try rw [hy_up_row]; try rfl)
                      · refine hy_aload (i := 110) rfl rfl ?_
                        refine hy_getr (i := 111) rfl rfl ?_
                        refine hy_iload (i := 112) rfl rfl ?_
                        refine hy_iald (i := 113) rfl rfl (by omega) (k := z - 1) (by omega) ?_
                        refine hy_if_ne (i := 114) (tt := 117) rfl (fun zc9 => ?_) (fun zc9 => ?_)
                        · refine hy_aload (i := 117) rfl rfl ?_
                          refine hy_getr (i := 118) rfl rfl ?_
                          refine hy_iload (i := 119) rfl rfl ?_
                          refine hy_const (i := 120) rfl (by decide) ?_
                          refine hy_isub (i := 121) rfl (by omega) ?_
                          refine hy_iload (i := 122) rfl rfl ?_
                          refine hy_aload (i := 123) rfl rfl ?_
                          refine hy_getr (i := 124) rfl rfl ?_
                          refine hy_iload (i := 125) rfl rfl ?_
                          refine hy_const (i := 126) rfl (by decide) ?_
                          refine hy_isub (i := 127) rfl (by omega) ?_
                          refine hy_iald (i := 128) rfl rfl (by omega) (k := z - 2) (by omega) ?_
                          refine hy_aload (i := 129) rfl rfl ?_
                          refine hy_getr (i := 130) rfl rfl ?_
                          refine hy_iload (i := 131) rfl rfl ?_
                          refine hy_iald (i := 132) rfl rfl (by omega) (k := z - 1) (by omega) ?_
                          refine hy_cS3e (i := 133) rfl (by decide) mj_M_reckon (by decide) rfl (Nat.le_of_ble_eq_true rfl) (c_M_reckon (by omega)) ?_
                          refine hy_iast (i := 134) rfl rfl (by omega) (k := z - 2) (by omega) ?_
                          refine hy_goto (i := 135) (tt := 10) rfl ?_
                          first | (exfalso; omega) | exact ih _ _ (z + 1) _ _ _ (by omega) (by omega) (by omega) (by omega) (by first | (rw [e1]; omega) | omega) (by first | exact hF | exact hF.up rfl) (by rw [← hv]; refine (mc_go hk ?_).symm; unfold mc_step; (repeat (first | rw [if_pos (by omega)] | rw [if_neg (by omega)])); try rw [hy_up_row]; try rfl) | exact ih _ _ z _ _ _ (by omega) (by omega) (by omega) (by omega) (by first | (rw [e1]; omega) | omega) (by first | exact hF | exact hF.up rfl) (by rw [← hv]; refine (mc_go hk ?_).symm; unfold mc_step; (repeat (first | rw [if_pos (by omega)] | rw [if_neg (by omega)])); try rw [hy_up_row]; try rfl) | exact ih _ _ (z - 1) _ _ _ (by omega) (by omega) (by omega) (by omega) (by first | (rw [e1]; omega) | omega) (by first | exact hF | exact hF.up rfl) (by rw [← hv]; refine (mc_go hk ?_).symm; unfold mc_step; (repeat (first | rw [if_pos (by omega)] | rw [if_neg (by omega)])); try rw [hy_up_row]; try rfl)
                        · refine hy_const (i := 115) rfl (by decide) ?_
                          refine hy_ireturn (i := 116) rfl rfl ?_
                          first | (exfalso; omega) | (refine ⟨congrArg some ?_, hF⟩; rw [← hv]; rw [mc_no hk (by unfold mc_step; repeat (first | rw [if_pos (by omega)] | rw [if_neg (by omega)]))])
                  · refine hy_aload (i := 77) rfl rfl ?_
                    refine hy_getr (i := 78) rfl rfl ?_
                    refine hy_iload (i := 79) rfl rfl ?_
                    refine hy_const (i := 80) rfl (by decide) ?_
                    refine hy_isub (i := 81) rfl (by omega) ?_
                    refine hy_iald (i := 82) rfl rfl (by omega) (k := z - 1) (by omega) ?_
                    refine hy_iload (i := 83) rfl rfl ?_
                    refine hy_const (i := 84) rfl (by decide) ?_
                    refine hy_ic_ne (i := 85) (tt := 88) rfl (fun zc7 => ?_) (fun zc7 => ?_)
                    · refine hy_const (i := 88) rfl (by decide) ?_
                      refine hy_ic_ne (i := 89) (tt := 95) rfl (fun zc8 => ?_) (fun zc8 => ?_)
                      · refine hy_iload (i := 95) rfl rfl ?_
                        refine hy_const (i := 96) rfl (by decide) ?_
                        refine hy_isub (i := 97) rfl (by omega) ?_
                        refine hy_istore (i := 98) rfl ?_
                        refine hy_goto (i := 99) (tt := 135) rfl ?_
                        refine hy_goto (i := 135) (tt := 10) rfl ?_
                        first | (exfalso; omega) | exact ih _ _ (z + 1) _ _ _ (by omega) (by omega) (by omega) (by omega) (by first | (rw [e1]; omega) | omega) (by first | exact hF | exact hF.up rfl) (by rw [← hv]; refine (mc_go hk ?_).symm; unfold mc_step; (repeat (first | rw [if_pos (by omega)] | rw [if_neg (by omega)])); try rw [hy_up_row]; try rfl) | exact ih _ _ z _ _ _ (by omega) (by omega) (by omega) (by omega) (by first | (rw [e1]; omega) | omega) (by first | exact hF | exact hF.up rfl) (by rw [← hv]; refine (mc_go hk ?_).symm; unfold mc_step; (repeat (first | rw [if_pos (by omega)] | rw [if_neg (by omega)])); try rw [hy_up_row]; try rfl) | exact ih _ _ (z - 1) _ _ _ (by omega) (by omega) (by omega) (by omega) (by first | (rw [e1]; omega) | omega) (by first | exact hF | exact hF.up rfl) (by rw [← hv]; refine (mc_go hk ?_).symm; unfold mc_step; (repeat (first | rw [if_pos (by omega)] | rw [if_neg (by omega)])); try rw [hy_up_row]; try rfl)
                      · refine hy_iload (i := 90) rfl rfl ?_
                        refine hy_iload (i := 91) rfl rfl ?_
                        refine hy_iadd (i := 92) rfl (by omega) ?_
                        rw [Int.zero_add]
                        refine hy_istore (i := 93) rfl ?_
                        refine hy_goto (i := 94) (tt := 135) rfl ?_
                        refine hy_goto (i := 135) (tt := 10) rfl ?_
                        first | (exfalso; omega) | exact ih _ _ (z + 1) _ _ _ (by omega) (by omega) (by omega) (by omega) (by first | (rw [e1]; omega) | omega) (by first | exact hF | exact hF.up rfl) (by rw [← hv]; refine (mc_go hk ?_).symm; unfold mc_step; (repeat (first | rw [if_pos (by omega)] | rw [if_neg (by omega)])); try rw [hy_up_row]; try rfl) | exact ih _ _ z _ _ _ (by omega) (by omega) (by omega) (by omega) (by first | (rw [e1]; omega) | omega) (by first | exact hF | exact hF.up rfl) (by rw [← hv]; refine (mc_go hk ?_).symm; unfold mc_step; (repeat (first | rw [if_pos (by omega)] | rw [if_neg (by omega)])); try rw [hy_up_row]; try rfl) | exact ih _ _ (z - 1) _ _ _ (by omega) (by omega) (by omega) (by omega) (by first | (rw [e1]; omega) | omega) (by first | exact hF | exact hF.up rfl) (by rw [← hv]; refine (mc_go hk ?_).symm; unfold mc_step; (repeat (first | rw [if_pos (by omega)] | rw [if_neg (by omega)])); try rw [hy_up_row]; try rfl)
                    · refine hy_const (i := 86) rfl (by decide) ?_
                      refine hy_goto (i := 87) (tt := 89) rfl ?_
                      refine hy_ic_ne (i := 89) (tt := 95) rfl (fun zc8 => ?_) (fun zc8 => ?_)
                      · refine hy_iload (i := 95) rfl rfl ?_
                        refine hy_const (i := 96) rfl (by decide) ?_
                        refine hy_isub (i := 97) rfl (by omega) ?_
                        refine hy_istore (i := 98) rfl ?_
                        refine hy_goto (i := 99) (tt := 135) rfl ?_
                        refine hy_goto (i := 135) (tt := 10) rfl ?_
                        first | (exfalso; omega) | exact ih _ _ (z + 1) _ _ _ (by omega) (by omega) (by omega) (by omega) (by first | (rw [e1]; omega) | omega) (by first | exact hF | exact hF.up rfl) (by rw [← hv]; refine (mc_go hk ?_).symm; unfold mc_step; (repeat (first | rw [if_pos (by omega)] | rw [if_neg (by omega)])); try rw [hy_up_row]; try rfl) | exact ih _ _ z _ _ _ (by omega) (by omega) (by omega) (by omega) (by first | (rw [e1]; omega) | omega) (by first | exact hF | exact hF.up rfl) (by rw [← hv]; refine (mc_go hk ?_).symm; unfold mc_step; (repeat (first | rw [if_pos (by omega)] | rw [if_neg (by omega)])); try rw [hy_up_row]; try rfl) | exact ih _ _ (z - 1) _ _ _ (by omega) (by omega) (by omega) (by omega) (by first | (rw [e1]; omega) | omega) (by first | exact hF | exact hF.up rfl) (by rw [← hv]; refine (mc_go hk ?_).symm; unfold mc_step; (repeat (first | rw [if_pos (by omega)] | rw [if_neg (by omega)])); try rw [hy_up_row]; try rfl)
                      · refine hy_iload (i := 90) rfl rfl ?_
                        refine hy_iload (i := 91) rfl rfl ?_
                        refine hy_iadd (i := 92) rfl (by omega) ?_
                        rw [Int.zero_add]
                        refine hy_istore (i := 93) rfl ?_
                        refine hy_goto (i := 94) (tt := 135) rfl ?_
                        refine hy_goto (i := 135) (tt := 10) rfl ?_
                        first | (exfalso; omega) | exact ih _ _ (z + 1) _ _ _ (by omega) (by omega) (by omega) (by omega) (by first | (rw [e1]; omega) | omega) (by first | exact hF | exact hF.up rfl) (by rw [← hv]; refine (mc_go hk ?_).symm; unfold mc_step; (repeat (first | rw [if_pos (by omega)] | rw [if_neg (by omega)])); try rw [hy_up_row]; try rfl) | exact ih _ _ z _ _ _ (by omega) (by omega) (by omega) (by omega) (by first | (rw [e1]; omega) | omega) (by first | exact hF | exact hF.up rfl) (by rw [← hv]; refine (mc_go hk ?_).symm; unfold mc_step; (repeat (first | rw [if_pos (by omega)] | rw [if_neg (by omega)])); try rw [hy_up_row]; try rfl) | exact ih _ _ (z - 1) _ _ _ (by omega) (by omega) (by omega) (by omega) (by first | (rw [e1]; omega) | omega) (by first | exact hF | exact hF.up rfl) (by rw [← hv]; refine (mc_go hk ?_).symm; unfold mc_step; (repeat (first | rw [if_pos (by omega)] | rw [if_neg (by omega)])); try rw [hy_up_row]; try rfl)
              · refine hy_aload (i := 56) rfl rfl ?_
                refine hy_getr (i := 57) rfl rfl ?_
                refine hy_iload (i := 58) rfl rfl ?_
                refine hy_const (i := 59) rfl (by decide) ?_
                refine hy_isub (i := 60) rfl (by omega) ?_
                refine hy_const (i := 61) rfl (by decide) ?_
                refine hy_aload (i := 62) rfl rfl ?_
                refine hy_getr (i := 63) rfl rfl ?_
                refine hy_iload (i := 64) rfl rfl ?_
                refine hy_const (i := 65) rfl (by decide) ?_
                refine hy_isub (i := 66) rfl (by omega) ?_
                refine hy_iald (i := 67) rfl rfl (by omega) (k := z - 1) (by omega) ?_
                refine hy_isubw (i := 68) rfl ?_
                refine hy_iast (i := 69) rfl rfl (by omega) (k := z - 1) (by omega) ?_
                refine hy_goto (i := 70) (tt := 135) rfl ?_
                refine hy_goto (i := 135) (tt := 10) rfl ?_
                first | (exfalso; omega) | exact ih _ _ (z + 1) _ _ _ (by omega) (by omega) (by omega) (by omega) (by first | (rw [e1]; omega) | omega) (by first | exact hF | exact hF.up rfl) (by rw [← hv]; refine (mc_go hk ?_).symm; unfold mc_step; (repeat (first | rw [if_pos (by omega)] | rw [if_neg (by omega)])); try rw [hy_up_row]; try rfl) | exact ih _ _ z _ _ _ (by omega) (by omega) (by omega) (by omega) (by first | (rw [e1]; omega) | omega) (by first | exact hF | exact hF.up rfl) (by rw [← hv]; refine (mc_go hk ?_).symm; unfold mc_step; (repeat (first | rw [if_pos (by omega)] | rw [if_neg (by omega)])); try rw [hy_up_row]; try rfl) | exact ih _ _ (z - 1) _ _ _ (by omega) (by omega) (by omega) (by omega) (by first | (rw [e1]; omega) | omega) (by first | exact hF | exact hF.up rfl) (by rw [← hv]; refine (mc_go hk ?_).symm; unfold mc_step; (repeat (first | rw [if_pos (by omega)] | rw [if_neg (by omega)])); try rw [hy_up_row]; try rfl)
            · refine hy_aload (i := 36) rfl rfl ?_
              refine hy_getr (i := 37) rfl rfl ?_
              refine hy_iload (i := 38) rfl rfl ?_
              refine hy_iload (i := 39) rfl rfl ?_
              refine hy_if_ne (i := 40) (tt := 43) rfl (fun zc4 => ?_) (fun zc4 => ?_)
              · refine hy_aload (i := 43) rfl rfl ?_
                refine hy_getr (i := 44) rfl rfl ?_
                refine hy_iload (i := 45) rfl rfl ?_
                refine hy_iald (i := 46) rfl rfl (by omega) rfl ?_
                try rw [o3]
                refine hy_iast (i := 47) rfl rfl (by omega) (k := z) (by omega) ?_
                refine hy_iload (i := 48) rfl rfl ?_
                refine hy_const (i := 49) rfl (by decide) ?_
                refine hy_iadd (i := 50) rfl (by omega) ?_
                refine hy_istore (i := 51) rfl ?_
                refine hy_goto (i := 52) (tt := 135) rfl ?_
                refine hy_goto (i := 135) (tt := 10) rfl ?_
                first | (exfalso; omega) | exact ih _ _ (z + 1) _ _ _ (by omega) (by omega) (by omega) (by omega) (by first | (rw [e1]; omega) | omega) (by first | exact hF | exact hF.up rfl) (by rw [← hv]; refine (mc_go hk ?_).symm; unfold mc_step; (repeat (first | rw [if_pos (by omega)] | rw [if_neg (by omega)])); try rw [hy_up_row]; try rfl) | exact ih _ _ z _ _ _ (by omega) (by omega) (by omega) (by omega) (by first | (rw [e1]; omega) | omega) (by first | exact hF | exact hF.up rfl) (by rw [← hv]; refine (mc_go hk ?_).symm; unfold mc_step; (repeat (first | rw [if_pos (by omega)] | rw [if_neg (by omega)])); try rw [hy_up_row]; try rfl) | exact ih _ _ (z - 1) _ _ _ (by omega) (by omega) (by omega) (by omega) (by first | (rw [e1]; omega) | omega) (by first | exact hF | exact hF.up rfl) (by rw [← hv]; refine (mc_go hk ?_).symm; unfold mc_step; (repeat (first | rw [if_pos (by omega)] | rw [if_neg (by omega)])); try rw [hy_up_row]; try rfl)
              · refine hy_iload (i := 41) rfl rfl ?_
                refine hy_goto (i := 42) (tt := 47) rfl ?_
                try rw [o3]
                refine hy_iast (i := 47) rfl rfl (by omega) (k := z) (by omega) ?_
                refine hy_iload (i := 48) rfl rfl ?_
                refine hy_const (i := 49) rfl (by decide) ?_
                refine hy_iadd (i := 50) rfl (by omega) ?_
                refine hy_istore (i := 51) rfl ?_
                refine hy_goto (i := 52) (tt := 135) rfl ?_
                refine hy_goto (i := 135) (tt := 10) rfl ?_
                first | (exfalso; omega) | exact ih _ _ (z + 1) _ _ _ (by omega) (by omega) (by omega) (by omega) (by first | (rw [e1]; omega) | omega) (by first | exact hF | exact hF.up rfl) (by rw [← hv]; refine (mc_go hk ?_).symm; unfold mc_step; (repeat (first | rw [if_pos (by omega)] | rw [if_neg (by omega)])); try rw [hy_up_row]; try rfl) | exact ih _ _ z _ _ _ (by omega) (by omega) (by omega) (by omega) (by first | (rw [e1]; omega) | omega) (by first | exact hF | exact hF.up rfl) (by rw [← hv]; refine (mc_go hk ?_).symm; unfold mc_step; (repeat (first | rw [if_pos (by omega)] | rw [if_neg (by omega)])); try rw [hy_up_row]; try rfl) | exact ih _ _ (z - 1) _ _ _ (by omega) (by omega) (by omega) (by omega) (by first | (rw [e1]; omega) | omega) (by first | exact hF | exact hF.up rfl) (by rw [← hv]; refine (mc_go hk ?_).symm; unfold mc_step; (repeat (first | rw [if_pos (by omega)] | rw [if_neg (by omega)])); try rw [hy_up_row]; try rfl)
      · rw [mc_stop hk] at hv
        refine hy_iload (i := 10) rfl rfl ?_
        refine hy_iload (i := 11) rfl rfl ?_
        refine hy_ic_ge (i := 12) (tt := 136) rfl (fun zc1 => ?_) (fun zc1 => ?_)
        · refine hy_aload (i := 136) rfl rfl ?_
          refine hy_getr (i := 137) rfl rfl ?_
          refine hy_const (i := 138) rfl (by decide) ?_
          refine hy_iald (i := 139) rfl rfl (by decide) (show _ = 0 from rfl) ?_
          refine hy_ireturn (i := 140) rfl rfl ?_
          exact ⟨congrArg some hv, hF⟩
        · omega
  have hab : a / 260 = 0 := by omega
  refine hy_const (i := 0) rfl (by decide) ?_
  refine hy_istore (i := 1) rfl ?_
  refine hy_const (i := 2) rfl (by decide) ?_
  refine hy_iload (i := 3) rfl rfl ?_
  refine hy_const (i := 4) rfl (by decide) ?_
  refine hy_idiv (i := 5) rfl (by omega) (by omega) ?_
  rw [hab]
  refine hy_imul (i := 6) rfl (by omega) ?_
  refine hy_istore (i := 7) rfl ?_
  refine hy_iload (i := 8) rfl rfl ?_
  refine hy_istore (i := 9) rfl ?_
  exact loop 260 a 0 0 t _ _ (Int.le_refl _) h0.2.1 (by omega) rfl hDa hy_F.rf (mc_eq hD (fun _ _ => rfl) 260 a 0 _ _ (fun j hj => absurd hj (by omega)) (Int.le_refl _) h0.2.1 (by omega) hDa)
end ML
/-- the model's law is well laid -/
def ml_ok (t : hy_T) : Prop := (0 ≤ t 59 18 ∧ t 59 18 ≤ 16) ∧ ∀ q : Nat, q < 16 → (q : Int) < t 59 18 → mc_wf (t 72) (t 75 q) (t 76 q) ∧ ((t 73 q = 98 ∨ t 73 q = 118) → mc_wf (t 72) (t 74 q) (t 75 q))
abbrev mlawX : Nat → Nat → Bool := fun r j => r == 72 || r == 73 || r == 74 || r == 75 || r == 76 || (r == 59 && j == 18)
theorem ml_ok_F {X : Nat → Nat → Bool} {t t1 : hy_T} (h : hy_F X t t1) (hX : ∀ r j, mlawX r j = true → X r j = false) (hk : ml_ok t) : ml_ok t1 := by
  have e : ∀ r j, mlawX r j = true → t1 r j = t r j := fun r j q => h r j (hX r j q)
  obtain ⟨h1, h2⟩ := hk
  have e72 : t1 72 = t 72 := funext fun j => e 72 j rfl
  refine ⟨by rw [e 59 18 rfl]; exact h1, fun q hq hq2 => ?_⟩
  rw [e72, e 73 q rfl, e 74 q rfl, e 75 q rfl, e 76 q rfl]
  exact h2 q hq (by rw [← e 59 18 rfl]; exact hq2)
def mb_holdsN (t : hy_T) (V : Nat → Int) (k : Int) : Nat → Nat → Bool → Bool
  | 0, _, s => s
  | n + 1, q, s => if t 73 q = k then (if mc_val (t 72) V (t 75 q) (t 76 q) = 1 then true else mb_holdsN t V k n (q + 1) false) else mb_holdsN t V k n (q + 1) s
def mb_holds (t : hy_T) (V : Nat → Int) (k : Int) (s : Bool) : Bool := mb_holdsN t V k (t 59 18).toNat 0 s
def mb_clamp (m v : Int) : Int := if v < 0 then 0 else if m < v then m else v
def mb_amtN (t : hy_T) (V : Nat → Int) (k m : Int) : Nat → Nat → Int
  | 0, _ => 0
  | n + 1, q => if t 73 q = k ∧ mc_val (t 72) V (t 75 q) (t 76 q) = 1 then mb_clamp m (mc_val (t 72) V (t 74 q) (t 75 q)) else mb_amtN t V k m n (q + 1)
def mb_amt (t : hy_T) (V : Nat → Int) (k m : Int) : Int := mb_amtN t V k m (t 59 18).toNat 0
theorem mb_clamp_in {m : Int} (hm : 0 ≤ m) (v : Int) : 0 ≤ mb_clamp m v ∧ mb_clamp m v ≤ m := by
  unfold mb_clamp
  split
  · omega
  · split <;> omega
theorem mb_amtN_in (t : hy_T) (V : Nat → Int) (k : Int) {m : Int} (hm : 0 ≤ m) : ∀ n q, 0 ≤ mb_amtN t V k m n q ∧ mb_amtN t V k m n q ≤ m
  | 0, q => ⟨Int.le_refl _, hm⟩
  | n + 1, q => by
    simp only [mb_amtN]
    split
    · exact mb_clamp_in hm _
    · exact mb_amtN_in t V k hm n (q + 1)
theorem mb_amt_in (t : hy_T) (V : Nat → Int) (k : Int) {m : Int} (hm : 0 ≤ m) : 0 ≤ mb_amt t V k m ∧ mb_amt t V k m ≤ m := mb_amtN_in t V k hm _ _
theorem mb_holdsN_V {t : hy_T} (hk : ml_ok t) {V V' : Nat → Int} (hV : ∀ j, j < 10 → V j = V' j) (k : Int) : ∀ (n q : Nat) (s : Bool), n + q = (t 59 18).toNat → mb_holdsN t V k n q s = mb_holdsN t V' k n q s
  | 0, q, s, _ => rfl
  | n + 1, q, s, h => by
    have h1 := hk.1
    simp only [mb_holdsN]
    rw [mc_val_V (hk.2 q (by omega) (by omega)).1 hV, mb_holdsN_V hk hV k n (q + 1) s (by omega), mb_holdsN_V hk hV k n (q + 1) false (by omega)]
theorem mb_holds_V {t : hy_T} (hk : ml_ok t) {V V' : Nat → Int} (hV : ∀ j, j < 10 → V j = V' j) (k : Int) (s : Bool) : mb_holds t V k s = mb_holds t V' k s := mb_holdsN_V hk hV k _ 0 s (by omega)
theorem mb_amtN_V {t : hy_T} (hk : ml_ok t) {V V' : Nat → Int} (hV : ∀ j, j < 10 → V j = V' j) {k : Int} (hk2 : k = 98 ∨ k = 118) (m : Int) : ∀ (n q : Nat), n + q = (t 59 18).toNat → mb_amtN t V k m n q = mb_amtN t V' k m n q
  | 0, q, _ => rfl
  | n + 1, q, h => by
    have h1 := hk.1
    have h2 := hk.2 q (by omega) (by omega)
    simp only [mb_amtN]
    rw [mc_val_V h2.1 hV, mb_amtN_V hk hV hk2 m n (q + 1) (by omega)]
    by_cases hc : t 73 q = k ∧ mc_val (t 72) V' (t 75 q) (t 76 q) = 1
    · rw [if_pos hc, if_pos hc, mc_val_V (h2.2 (by rw [hc.1]; exact hk2)) hV]
    · rw [if_neg hc, if_neg hc]
theorem mb_amt_V {t : hy_T} (hk : ml_ok t) {V V' : Nat → Int} (hV : ∀ j, j < 10 → V j = V' j) {k : Int} (hk2 : k = 98 ∨ k = 118) (m : Int) : mb_amt t V k m = mb_amt t V' k m := mb_amtN_V hk hV hk2 m _ 0 (by omega)
theorem mb_holds_F {X : Nat → Nat → Bool} {t t1 : hy_T} (h : hy_F X t t1) (hX : ∀ r j, mlawX r j = true → X r j = false) (V : Nat → Int) (k : Int) (s : Bool) : mb_holds t1 V k s = mb_holds t V k s := by
  have e : ∀ r j, mlawX r j = true → t1 r j = t r j := fun r j q => h r j (hX r j q)
  have e72 : t1 72 = t 72 := funext fun j => e 72 j rfl
  have h1 : ∀ n q s, mb_holdsN t1 V k n q s = mb_holdsN t V k n q s := by
    intro n
    induction n with
    | zero => intro q s; rfl
    | succ n ih => intro q s; simp only [mb_holdsN, e72, e 73 q rfl, e 75 q rfl, e 76 q rfl, ih]
  unfold mb_holds
  rw [h1, e 59 18 rfl]
theorem mb_amt_F {X : Nat → Nat → Bool} {t t1 : hy_T} (h : hy_F X t t1) (hX : ∀ r j, mlawX r j = true → X r j = false) (V : Nat → Int) (k m : Int) : mb_amt t1 V k m = mb_amt t V k m := by
  have e : ∀ r j, mlawX r j = true → t1 r j = t r j := fun r j q => h r j (hX r j q)
  have e72 : t1 72 = t 72 := funext fun j => e 72 j rfl
  have h1 : ∀ n q, mb_amtN t1 V k m n q = mb_amtN t V k m n q := by
    intro n
    induction n with
    | zero => intro q; rfl
    | succ n ih => intro q; simp only [mb_amtN, e72, e 73 q rfl, e 74 q rfl, e 75 q rfl, e 76 q rfl, ih]
  unfold mb_amt
  rw [h1, e 59 18 rfl]
section MM
variable {sc : List Int32} {t : hy_T}
theorem c_M_holds {k : Int} {s : Bool} (hk : ml_ok t) : hy_Ct sc hm_M_holds 2 [.inr (some 59), .inl k, .inl (hy_b s)] t (fun r t' => r = some (hy_b (mb_holds t (t 78) k s)) ∧ hy_F mlX t t') := by
  refine hy_mk_ct ok_M_holds ck_M_holds (Nat.le_of_ble_eq_true rfl) ?_
  have hk1 := hk.1
  have loop : ∀ (m : Nat), ∀ (q : Nat) (s1 : Bool) (t1 : hy_T), m + q = (t 59 18).toNat → hy_F mlX t t1 → mb_holdsN t (t 78) k m q s1 = mb_holds t (t 78) k s → hy_W sc hm_M_holds 2 4 [.inr (some 59), .inl k, .inl (hy_b s), .inl (hy_b s1), .inl (q : Int)] [] t1 (fun r t' => r = some (hy_b (mb_holds t (t 78) k s)) ∧ hy_F mlX t t') := by
    intro m
    induction m with
    | zero =>
      intro q s1 t1 hm hF hv
      have o1 : t1 59 18 = t 59 18 := hF 59 18 rfl
      refine hy_iload (i := 4) rfl rfl ?_
      refine hy_aload (i := 5) rfl rfl ?_
      refine hy_get (i := 6) (fk := 18) rfl rfl rfl ?_
      rw [o1]
      refine hy_ic_ge (i := 7) (tt := 33) rfl (fun zc1 => ?_) (fun zc1 => ?_)
      · refine hy_iload (i := 33) rfl rfl ?_
        refine hy_zreturn (i := 34) rfl rfl (by first | decide | exact hy_b01 _) ?_
        exact ⟨congrArg some (by rw [← hv]; rfl), hF⟩
      · omega
    | succ m ih =>
      intro q s1 t1 hm hF hv
      have o1 : t1 59 18 = t 59 18 := hF 59 18 rfl
      have o2 : t1 73 q = t 73 q := hF 73 q rfl
      have hw := (ml_ok_F hF (fun r j h => by revert h; simp [mlawX, mlX]; omega) hk).2 q (by omega) (by omega)
      have hw1 : mc_wf (t1 72) (t1 75 q) (t1 76 q) := hw.1
      have ev : mc_val (t1 72) (t1 78) (t1 75 q) (t1 76 q) = mc_val (t 72) (t 78) (t 75 q) (t 76 q) := by rw [show t1 72 = t 72 from funext fun j => hF 72 j rfl, show t1 78 = t 78 from funext fun j => hF 78 j rfl, hF 75 q rfl, hF 76 q rfl]
      simp only [mb_holdsN] at hv
      refine hy_iload (i := 4) rfl rfl ?_
      refine hy_aload (i := 5) rfl rfl ?_
      refine hy_get (i := 6) (fk := 18) rfl rfl rfl ?_
      rw [o1]
      refine hy_ic_ge (i := 7) (tt := 33) rfl (fun zc1 => ?_) (fun zc1 => ?_)
      · omega
      · refine hy_aload (i := 8) rfl rfl ?_
        refine hy_getr (i := 9) rfl rfl ?_
        refine hy_iload (i := 10) rfl rfl ?_
        refine hy_iald (i := 11) rfl rfl (by omega) (k := q) (by omega) ?_
        rw [o2]
        refine hy_iload (i := 12) rfl rfl ?_
        refine hy_ic_eq (i := 13) (tt := 15) rfl (fun zc2 => ?_) (fun zc2 => ?_)
        · refine hy_aload (i := 15) rfl rfl ?_
          refine hy_aload (i := 16) rfl rfl ?_
          refine hy_getr (i := 17) rfl rfl ?_
          refine hy_iload (i := 18) rfl rfl ?_
          refine hy_iald (i := 19) rfl rfl (by omega) (k := q) (by omega) ?_
          refine hy_aload (i := 20) rfl rfl ?_
          refine hy_getr (i := 21) rfl rfl ?_
          refine hy_iload (i := 22) rfl rfl ?_
          refine hy_iald (i := 23) rfl rfl (by omega) (k := q) (by omega) ?_
          refine hy_cV2 (i := 24) rfl mj_M_comesTo (by decide) rfl (Nat.le_of_ble_eq_true rfl) rfl rfl rfl (c_M_comesTo (by assumption)) (fun r1_ t1_ h1 => ?_)
          obtain ⟨rfl, hF1⟩ := h1
          dsimp only [hy_st, List.cons_append, List.nil_append]
          rw [ev]
          refine hy_const (i := 25) rfl (by decide) ?_
          refine hy_ic_ne (i := 26) (tt := 29) rfl (fun zc3 => ?_) (fun zc3 => ?_)
          · refine hy_const (i := 29) rfl (by decide) ?_
            refine hy_istore (i := 30) rfl ?_
            refine hy_iinc (i := 31) rfl rfl (by omega) ?_
            refine hy_goto (i := 32) (tt := 4) rfl ?_
            first | exact ih (q + 1) false _ (by omega) (hF.tr' (by assumption)) (by rw [← hv, if_pos (by assumption), if_neg (by assumption)]) | exact ih (q + 1) s1 _ (by omega) hF (by rw [← hv, if_neg (by assumption)])
          · refine hy_const (i := 27) rfl (by decide) ?_
            refine hy_zreturn (i := 28) rfl rfl (by first | decide | exact hy_b01 _) ?_
            exact ⟨congrArg some (by rw [← hv, if_pos (by assumption), if_pos (by assumption)]; rfl), hF.tr' (by assumption)⟩
        · refine hy_goto (i := 14) (tt := 31) rfl ?_
          refine hy_iinc (i := 31) rfl rfl (by omega) ?_
          refine hy_goto (i := 32) (tt := 4) rfl ?_
          first | exact ih (q + 1) false _ (by omega) (hF.tr' (by assumption)) (by rw [← hv, if_pos (by assumption), if_neg (by assumption)]) | exact ih (q + 1) s1 _ (by omega) hF (by rw [← hv, if_neg (by assumption)])
  refine hy_iload (i := 0) rfl rfl ?_
  refine hy_istore (i := 1) rfl ?_
  refine hy_const (i := 2) rfl (by decide) ?_
  refine hy_istore (i := 3) rfl ?_
  exact loop (t 59 18).toNat 0 s t (by omega) hy_F.rf rfl
theorem c_M_byLaw {k hi : Int} (hk : ml_ok t) (hk2 : k = 98 ∨ k = 118) : hy_Ct sc hm_M_byLaw 2 [.inr (some 59), .inl k, .inl hi] t (fun r t' => r = some (mb_amt t (t 78) k hi) ∧ hy_F mlX t t') := by
  refine hy_mk_ct ok_M_byLaw ck_M_byLaw (Nat.le_of_ble_eq_true rfl) ?_
  have hk1 := hk.1
  have loop : ∀ (m : Nat), ∀ (q : Nat) (t1 : hy_T) (v4 : hy_V), m + q = (t 59 18).toNat → hy_F mlX t t1 → mb_amtN t (t 78) k hi m q = mb_amt t (t 78) k hi → hy_W sc hm_M_byLaw 2 2 [.inr (some 59), .inl k, .inl hi, .inl (q : Int), v4] [] t1 (fun r t' => r = some (mb_amt t (t 78) k hi) ∧ hy_F mlX t t') := by
    intro m
    induction m with
    | zero =>
      intro q t1 v4 hm hF hv
      have o1 : t1 59 18 = t 59 18 := hF 59 18 rfl
      refine hy_iload (i := 2) rfl rfl ?_
      refine hy_aload (i := 3) rfl rfl ?_
      refine hy_get (i := 4) (fk := 18) rfl rfl rfl ?_
      rw [o1]
      refine hy_ic_ge (i := 5) (tt := 49) rfl (fun zc1 => ?_) (fun zc1 => ?_)
      · refine hy_const (i := 49) rfl (by decide) ?_
        refine hy_ireturn (i := 50) rfl rfl ?_
        exact ⟨congrArg some hv, hF⟩
      · omega
    | succ m ih =>
      intro q t1 v4 hm hF hv
      have o1 : t1 59 18 = t 59 18 := hF 59 18 rfl
      have o2 : t1 73 q = t 73 q := hF 73 q rfl
      have hw := (ml_ok_F hF (fun r j h => by revert h; simp [mlawX, mlX]; omega) hk).2 q (by omega) (by omega)
      have hw1 : mc_wf (t1 72) (t1 75 q) (t1 76 q) := hw.1
      have ev : mc_val (t1 72) (t1 78) (t1 75 q) (t1 76 q) = mc_val (t 72) (t 78) (t 75 q) (t 76 q) := by rw [show t1 72 = t 72 from funext fun j => hF 72 j rfl, show t1 78 = t 78 from funext fun j => hF 78 j rfl, hF 75 q rfl, hF 76 q rfl]
      simp only [mb_amtN] at hv
      by_cases hc : t 73 q = k
      · have hw2 : mc_wf (t1 72) (t1 74 q) (t1 75 q) := hw.2 (by rw [o2, hc]; exact hk2)
        refine hy_iload (i := 2) rfl rfl ?_
        refine hy_aload (i := 3) rfl rfl ?_
        refine hy_get (i := 4) (fk := 18) rfl rfl rfl ?_
        rw [o1]
        refine hy_ic_ge (i := 5) (tt := 49) rfl (fun zc1 => ?_) (fun zc1 => ?_)
        · omega
        · refine hy_aload (i := 6) rfl rfl ?_
          refine hy_getr (i := 7) rfl rfl ?_
          refine hy_iload (i := 8) rfl rfl ?_
          refine hy_iald (i := 9) rfl rfl (by omega) (k := q) (by omega) ?_
          rw [o2]
          refine hy_iload (i := 10) rfl rfl ?_
          refine hy_ic_ne (i := 11) (tt := 47) rfl (fun zc2 => ?_) (fun zc2 => ?_)
          · exact absurd hc (by assumption)
          · refine hy_aload (i := 12) rfl rfl ?_
            refine hy_aload (i := 13) rfl rfl ?_
            refine hy_getr (i := 14) rfl rfl ?_
            refine hy_iload (i := 15) rfl rfl ?_
            refine hy_iald (i := 16) rfl rfl (by omega) (k := q) (by omega) ?_
            refine hy_aload (i := 17) rfl rfl ?_
            refine hy_getr (i := 18) rfl rfl ?_
            refine hy_iload (i := 19) rfl rfl ?_
            refine hy_iald (i := 20) rfl rfl (by omega) (k := q) (by omega) ?_
            refine hy_cV2 (i := 21) rfl mj_M_comesTo (by decide) rfl (Nat.le_of_ble_eq_true rfl) rfl rfl rfl (c_M_comesTo (by assumption)) (fun r1_ t1_ h1 => ?_)
            obtain ⟨rfl, hF1⟩ := h1
            dsimp only [hy_st, List.cons_append, List.nil_append]
            rw [ev]
            refine hy_const (i := 22) rfl (by decide) ?_
            refine hy_ic_eq (i := 23) (tt := 25) rfl (fun zc3 => ?_) (fun zc3 => ?_)
            · refine hy_aload (i := 25) rfl rfl ?_
              refine hy_aload (i := 26) rfl rfl ?_
              refine hy_getr (i := 27) rfl rfl ?_
              refine hy_iload (i := 28) rfl rfl ?_
              refine hy_iald (i := 29) rfl rfl (by omega) (k := q) (by omega) ?_
              refine hy_aload (i := 30) rfl rfl ?_
              refine hy_getr (i := 31) rfl rfl ?_
              refine hy_iload (i := 32) rfl rfl ?_
              refine hy_iald (i := 33) rfl rfl (by omega) (k := q) (by omega) ?_
              have g74 : t1_ 74 q = t 74 q := ((hF.tr' hF1) 74 q rfl)
              have g75 : t1_ 75 q = t 75 q := ((hF.tr' hF1) 75 q rfl)
              have g72 : t1_ 72 = t 72 := funext fun j => (hF.tr' hF1) 72 j rfl
              have g78 : t1_ 78 = t 78 := funext fun j => (hF.tr' hF1) 78 j rfl
              have hw3 : mc_wf (t1_ 72) (t1_ 74 q) (t1_ 75 q) := by rw [g72, g74, g75]; rw [show t1 72 = t 72 from funext fun j => hF 72 j rfl, hF 74 q rfl, hF 75 q rfl] at hw2; exact hw2
              refine hy_cV2 (i := 34) rfl mj_M_comesTo (by decide) rfl (Nat.le_of_ble_eq_true rfl) rfl rfl rfl (c_M_comesTo (by assumption)) (fun r2_ t2_ h2 => ?_)
              obtain ⟨rfl, hF2⟩ := h2
              dsimp only [hy_st, List.cons_append, List.nil_append]
              rw [g72, g74, g75, g78]
              refine hy_istore (i := 35) rfl ?_
              refine hy_iload (i := 36) rfl rfl ?_
              refine hy_if_ge (i := 37) (tt := 40) rfl (fun zc4 => ?_) (fun zc4 => ?_)
              · refine hy_iload (i := 40) rfl rfl ?_
                refine hy_iload (i := 41) rfl rfl ?_
                refine hy_ic_le (i := 42) (tt := 45) rfl (fun zc5 => ?_) (fun zc5 => ?_)
                · refine hy_iload (i := 45) rfl rfl ?_
                  refine hy_ireturn (i := 46) rfl rfl ?_
                  refine ⟨congrArg some ?_, (hF.tr' hF1).tr' hF2⟩
                  rw [← hv, if_pos ⟨hc, by assumption⟩]
                  unfold mb_clamp
                  (repeat (first | rw [if_pos (by omega)] | rw [if_neg (by omega)]))
                · refine hy_iload (i := 43) rfl rfl ?_
                  refine hy_goto (i := 44) (tt := 46) rfl ?_
                  refine hy_ireturn (i := 46) rfl rfl ?_
                  refine ⟨congrArg some ?_, (hF.tr' hF1).tr' hF2⟩
                  rw [← hv, if_pos ⟨hc, by assumption⟩]
                  unfold mb_clamp
                  (repeat (first | rw [if_pos (by omega)] | rw [if_neg (by omega)]))
              · refine hy_const (i := 38) rfl (by decide) ?_
                refine hy_goto (i := 39) (tt := 46) rfl ?_
                refine hy_ireturn (i := 46) rfl rfl ?_
                refine ⟨congrArg some ?_, (hF.tr' hF1).tr' hF2⟩
                rw [← hv, if_pos ⟨hc, by assumption⟩]
                unfold mb_clamp
                (repeat (first | rw [if_pos (by omega)] | rw [if_neg (by omega)]))
            · refine hy_goto (i := 24) (tt := 47) rfl ?_
              refine hy_iinc (i := 47) rfl rfl (by omega) ?_
              refine hy_goto (i := 48) (tt := 2) rfl ?_
              exact ih (q + 1) _ _ (by omega) (hF.tr' hF1) (by rw [← hv, if_neg (fun w => absurd w.2 (by assumption))])
      · skip
        refine hy_iload (i := 2) rfl rfl ?_
        refine hy_aload (i := 3) rfl rfl ?_
        refine hy_get (i := 4) (fk := 18) rfl rfl rfl ?_
        rw [o1]
        refine hy_ic_ge (i := 5) (tt := 49) rfl (fun zc1 => ?_) (fun zc1 => ?_)
        · omega
        · refine hy_aload (i := 6) rfl rfl ?_
          refine hy_getr (i := 7) rfl rfl ?_
          refine hy_iload (i := 8) rfl rfl ?_
          refine hy_iald (i := 9) rfl rfl (by omega) (k := q) (by omega) ?_
          rw [o2]
          refine hy_iload (i := 10) rfl rfl ?_
          refine hy_ic_ne (i := 11) (tt := 47) rfl (fun zc2 => ?_) (fun zc2 => ?_)
          · refine hy_iinc (i := 47) rfl rfl (by omega) ?_
            refine hy_goto (i := 48) (tt := 2) rfl ?_
            exact ih (q + 1) _ _ (by omega) hF (by rw [← hv, if_neg (fun w => hc w.1)])
          · exact absurd (by assumption) hc
  refine hy_const (i := 0) rfl (by decide) ?_
  refine hy_istore (i := 1) rfl ?_
  exact loop (t 59 18).toNat 0 t _ (by omega) hy_F.rf rfl
end MM
/-! the model's eyes -/
theorem bb_abs {p : Bool} {P : Prop} (h1 : p = true) (h2 : p = false) : P := by rw [h1] at h2; cases h2
theorem hy_up_ne {t : hy_T} {r j r' j' : Nat} {v : Int} (h : r' ≠ r) : hy_up t r j v r' j' = t r' j' := by
  unfold hy_up
  rw [if_neg (fun q => h q.1)]
theorem hy_up_up {t : hy_T} {r j : Nat} {v w : Int} : hy_up (hy_up t r j v) r j w = hy_up t r j w := by
  funext r' j'
  unfold hy_up
  split
  · rfl
  · rfl
def mq_V (t : hy_T) (e c q a b n o : Int) : Nat → Int := LV e c q (t 59 2) (hy_b (mf_mixed t c)) a b n (if mf_mixed t c = true then 0 else mf_bitsN (t 62 (4 * c + q).toNat) 12) o
def mq_isSeen (t : hy_T) (e c q s : Int) : Bool :=
  if mf_mixed t c = true then mb_holds t (mq_V t e c q (hy_b (hz_b s (t 60 c.toNat))) (hy_b (hz_b s (t 61 c.toNat))) 0 0) 115 (hz_b s (t 60 c.toNat) && hz_b s (t 61 c.toNat))
  else (sp_told (t 59 0) c && decide (t 60 c.toNat = -1)) && hz_b (t 62 (4 * c + q).toNat) e
def mq_seenN (t : hy_T) (e q : Int) : Nat → Int
  | 0 => 0
  | n + 1 => if mq_isSeen t e n q (mq_seenN t e q n) = true then hz_ior (mq_seenN t e q n) (hz_ishl 1 n) else mq_seenN t e q n
def mq_asR (t : hy_T) (s : Int) : Nat → Nat → Int
  | 0 => fun _ => 12
  | n + 1 => su (mq_asR t s n) n (if hz_b s n = true then (n : Int) else if mf_mixed t n = true then (if mq_asR t s n (t 60 n).toNat = 12 then mq_asR t s n (t 61 n).toNat else mq_asR t s n (t 60 n).toNat) else 12)
def mq_as (t : hy_T) (e q : Int) : Nat → Int := mq_asR t (mq_seenN t e q 12) 12
/-- the model's colours are mixed of lower ones -/
def me_pal (t : hy_T) : Prop := ∀ j : Nat, j < 12 → ((-1 ≤ t 60 j ∧ t 60 j < 12) ∧ -1 ≤ t 61 j ∧ t 61 j < 12) ∧ (mf_mixed t j = true → (0 ≤ t 60 j ∧ t 60 j < j) ∧ 0 ≤ t 61 j ∧ t 61 j < j)
abbrev meX : Nat → Nat → Bool := fun r _ => r == 77 || r == 78 || r == 79
/-- what is seen rests on these -/
abbrev meqX : Nat → Nat → Bool := fun r j => mlawX r j || r == 60 || r == 61 || r == 62 || (r == 59 && (j == 0 || j == 2))
theorem mf_mixed_F {X : Nat → Nat → Bool} {t t1 : hy_T} (h : hy_F X t t1) (h0 : X 59 0 = false) (h6 : ∀ j, X 60 j = false) (c : Int) : mf_mixed t1 c = mf_mixed t c := by
  unfold mf_mixed
  rw [h 59 0 h0, h 60 _ (h6 _)]
theorem me_pal_F {X : Nat → Nat → Bool} {t t1 : hy_T} (h : hy_F X t t1) (h0 : X 59 0 = false) (h6 : ∀ j, X 60 j = false) (h61 : ∀ j, X 61 j = false) (hk : me_pal t) : me_pal t1 := fun j hj => by
  rw [mf_mixed_F h h0 h6, h 60 j (h6 j), h 61 j (h61 j)]
  exact hk j hj
theorem meq_law {X : Nat → Nat → Bool} (hX : ∀ r j, meqX r j = true → X r j = false) : ∀ r j, mlawX r j = true → X r j = false := fun r j h => hX r j (by simp only [meqX, h, Bool.true_or])
theorem mq_V_F {X : Nat → Nat → Bool} {t t1 : hy_T} (h : hy_F X t t1) (hX : ∀ r j, meqX r j = true → X r j = false) (e c q a b n o : Int) : mq_V t1 e c q a b n o = mq_V t e c q a b n o := by
  unfold mq_V
  rw [mf_mixed_F h (hX 59 0 rfl) (fun j => hX 60 j rfl), h 59 2 (hX 59 2 rfl), h 62 _ (hX 62 _ rfl)]
theorem mq_isSeen_F {X : Nat → Nat → Bool} {t t1 : hy_T} (h : hy_F X t t1) (hX : ∀ r j, meqX r j = true → X r j = false) (e c q s : Int) : mq_isSeen t1 e c q s = mq_isSeen t e c q s := by
  unfold mq_isSeen
  rw [mf_mixed_F h (hX 59 0 rfl) (fun j => hX 60 j rfl), mq_V_F h hX, mb_holds_F h (meq_law hX), h 60 _ (hX 60 _ rfl), h 61 _ (hX 61 _ rfl), h 62 _ (hX 62 _ rfl), h 59 0 (hX 59 0 rfl)]
theorem mq_seenN_F {X : Nat → Nat → Bool} {t t1 : hy_T} (h : hy_F X t t1) (hX : ∀ r j, meqX r j = true → X r j = false) (e q : Int) : ∀ n, mq_seenN t1 e q n = mq_seenN t e q n
  | 0 => rfl
  | n + 1 => by simp only [mq_seenN, mq_seenN_F h hX e q n, mq_isSeen_F h hX]
theorem mq_asR_F {X : Nat → Nat → Bool} {t t1 : hy_T} (h : hy_F X t t1) (hX : ∀ r j, meqX r j = true → X r j = false) (s : Int) : ∀ n, mq_asR t1 s n = mq_asR t s n
  | 0 => rfl
  | n + 1 => by simp only [mq_asR, mq_asR_F h hX s n, mf_mixed_F h (hX 59 0 rfl) (fun j => hX 60 j rfl), h 60 _ (hX 60 _ rfl), h 61 _ (hX 61 _ rfl)]
theorem mq_as_F {X : Nat → Nat → Bool} {t t1 : hy_T} (h : hy_F X t t1) (hX : ∀ r j, meqX r j = true → X r j = false) (e q : Int) : mq_as t1 e q = mq_as t e q := by
  unfold mq_as
  rw [mq_seenN_F h hX, mq_asR_F h hX]
theorem mvX_meq : ∀ r j, meqX r j = true → mvX r j = false := fun r j h => by revert h; simp [meqX, mlawX, mvX]; omega
theorem meX_meq : ∀ r j, meqX r j = true → meX r j = false := fun r j h => by revert h; simp [meqX, mlawX, meX]; omega
theorem mv_me {t t1 : hy_T} (h : hy_F mvX t t1) : hy_F meX t t1 := h.w (fun r j q => by revert q; simp [mvX, meX]; omega)
theorem ml_mv {t t1 : hy_T} (h : hy_F mlX t t1) : hy_F mvX t t1 := h.w (fun r j q => by revert q; simp [mlX, mvX]; omega)
theorem mv_78 {t t1 : hy_T} (h : hy_F (fun r _ => r == 78) t t1) : hy_F mvX t t1 := h.w (fun r j q => by revert q; simp [mvX])
theorem mq_asR_in (t : hy_T) (s : Int) : ∀ (n : Nat) (j : Nat), n ≤ 12 → 0 ≤ mq_asR t s n j ∧ mq_asR t s n j ≤ 12
  | 0, j, _ => by simp [mq_asR]
  | n + 1, j, hn => by
    have ih := fun j => mq_asR_in t s n j (by omega)
    simp only [mq_asR, su]
    split
    · split
      · omega
      · split
        · split
          · exact ih _
          · exact ih _
        · decide
    · exact ih j
theorem mq_as_in (t : hy_T) (e q : Int) (j : Nat) : 0 ≤ mq_as t e q j ∧ mq_as t e q j ≤ 12 := mq_asR_in t _ 12 j (Nat.le_refl _)
theorem mq_c10 {j : Nat} (h : j < 10) : j = 0 ∨ j = 1 ∨ j = 2 ∨ j = 3 ∨ j = 4 ∨ j = 5 ∨ j = 6 ∨ j = 7 ∨ j = 8 ∨ j = 9 := by omega
theorem mq_tell {t t2 : hy_T} {e c q : Int} (hk : ml_ok t) (hF : hy_F (fun r _ => r == 78) t t2) (hV : ∀ j, j < 10 → t2 78 j = mq_V t e c q 0 0 0 0 j) (a b k : Int) (s : Bool) : mb_holds (hy_up (hy_up t2 78 5 a) 78 6 b) ((hy_up (hy_up t2 78 5 a) 78 6 b) 78) k s = mb_holds t (mq_V t e c q a b 0 0) k s := by
  rw [mb_holds_F ((hF.up (r := 78) (j := 5) (v := a) rfl).up (r := 78) (j := 6) (v := b) rfl) (fun r j h => by revert h; simp [mlawX]; omega)]
  refine mb_holds_V hk (fun j hj => ?_) k s
  have h := hV j hj
  rcases mq_c10 hj with rfl | rfl | rfl | rfl | rfl | rfl | rfl | rfl | rfl | rfl
  · exact h
  · exact h
  · exact h
  · exact h
  · exact h
  · rfl
  · rfl
  · exact h
  · exact h
  · exact h
theorem mq_tellN {t t2 : hy_T} {e c q : Int} (hk : ml_ok t) (hF : hy_F (fun r _ => r == 78) t t2) (hV : ∀ j, j < 10 → t2 78 j = mq_V t e c q 0 0 0 0 j) (n k m : Int) (hk2 : k = 98 ∨ k = 118) : mb_amt (hy_up t2 78 7 n) ((hy_up t2 78 7 n) 78) k m = mb_amt t (mq_V t e c q 0 0 n 0) k m := by
  rw [mb_amt_F (hF.up (r := 78) (j := 7) (v := n) rfl) (fun r j h => by revert h; simp [mlawX]; omega)]
  refine mb_amt_V hk (fun j hj => ?_) hk2 m
  have h := hV j hj
  rcases mq_c10 hj with rfl | rfl | rfl | rfl | rfl | rfl | rfl | rfl | rfl | rfl
  · exact h
  · exact h
  · exact h
  · exact h
  · exact h
  · exact h
  · exact h
  · rfl
  · exact h
  · exact h
theorem mq_tellO {t t2 : hy_T} {e c q : Int} (hk : ml_ok t) (hF : hy_F (fun r _ => r == 78) t t2) (hV : ∀ j, j < 10 → t2 78 j = mq_V t e c q 0 0 0 0 j) (o k m : Int) (hk2 : k = 98 ∨ k = 118) : mb_amt (hy_up t2 78 9 o) ((hy_up t2 78 9 o) 78) k m = mb_amt t (mq_V t e c q 0 0 0 o) k m := by
  rw [mb_amt_F (hF.up (r := 78) (j := 9) (v := o) rfl) (fun r j h => by revert h; simp [mlawX]; omega)]
  refine mb_amt_V hk (fun j hj => ?_) hk2 m
  have h := hV j hj
  rcases mq_c10 hj with rfl | rfl | rfl | rfl | rfl | rfl | rfl | rfl | rfl | rfl
  · exact h
  · exact h
  · exact h
  · exact h
  · exact h
  · exact h
  · exact h
  · exact h
  · exact h
  · rfl
theorem mq_as_st {t t2 : hy_T} {s : Int} {k : Nat} (hk : k < 12) (hi : ∀ j : Nat, j < k ∨ j = 12 → t2 79 j = mq_asR t s k j) {x : Int} (hx : x = if hz_b s k = true then (k : Int) else if mf_mixed t k = true then (if mq_asR t s k (t 60 k).toNat = 12 then mq_asR t s k (t 61 k).toNat else mq_asR t s k (t 60 k).toNat) else 12) : ∀ j : Nat, j < k + 1 ∨ j = 12 → hy_up t2 79 k x 79 j = mq_asR t s (k + 1) j := fun j hj => by
  simp only [hy_up, mq_asR, su]
  by_cases h : j = k
  · rw [if_pos ⟨trivial, h⟩, if_pos h, hx]
  · rw [if_neg (fun q => h q.2), if_neg h]
    exact hi j (by omega)
section MQ
variable {sc : List Int32} {t : hy_T}
theorem c_M_isMixed_as {t0 : hy_T} {c : Int} (h0 : t 59 0 = t0 59 0) (h6 : t 60 = t0 60) : hy_Ct sc hm_M_isMixed 2 [.inr (some 59), .inl c] t (hy_e (some (hy_b (mf_mixed t0 c))) t) := by
  have h := c_M_isMixed (sc := sc) (t := t) (c := c)
  rw [h0, h6] at h
  exact h
theorem c_M_holdsI {k s : Int} (hs : s = 0 ∨ s = 1) (hk : ml_ok t) : hy_Ct sc hm_M_holds 2 [.inr (some 59), .inl k, .inl s] t (fun r t' => r = some (hy_b (mb_holds t (t 78) k (decide (s = 1)))) ∧ hy_F mlX t t') := by
  rcases hs with rfl | rfl
  · exact c_M_holds (s := false) hk
  · exact c_M_holds (s := true) hk
theorem c_M_feels {e c q : Int} (hc : 0 ≤ c ∧ c < 12) (hq : 0 ≤ q ∧ q < 4) : hy_Ct sc hm_M_feels 3 [.inr (some 59), .inl e, .inl c, .inl q] t (fun r t' => r = none ∧ hy_F (fun r _ => r == 78) t t' ∧ ∀ j, j < 10 → t' 78 j = mq_V t e c q 0 0 0 0 j) := by
  refine hy_mk_ct ok_M_feels ck_M_feels (Nat.le_of_ble_eq_true rfl) ?_
  have fin : ∀ (t1 : hy_T) (v4 : hy_V), hy_F (fun r _ => r == 78) t t1 → (∀ j, j < 10 → t1 78 j = 0) → hy_W sc hm_M_feels 3 12 [.inr (some 59), .inl e, .inl c, .inl q, v4] [] t1 (fun r t' => r = none ∧ hy_F (fun r _ => r == 78) t t' ∧ ∀ j, j < 10 → t' 78 j = mq_V t e c q 0 0 0 0 j) := by
    intro t1 v4 hF hz
    have e0 : t1 59 0 = t 59 0 := hF 59 0 rfl
    have e2 : t1 59 2 = t 59 2 := hF 59 2 rfl
    have e6 : t1 60 = t 60 := funext fun j => hF 60 j rfl
    have e62 : t1 62 (4 * c + q).toNat = t 62 (4 * c + q).toNat := hF 62 _ rfl
    by_cases hm : mf_mixed t c = true
    · skip
      refine hy_aload (i := 12) rfl rfl ?_
      refine hy_getr (i := 13) rfl rfl ?_
      refine hy_const (i := 14) rfl (by decide) ?_
      refine hy_iload (i := 15) rfl rfl ?_
      refine hy_iast (i := 16) rfl rfl (by omega) (show _ = 0 from rfl) ?_
      refine hy_aload (i := 17) rfl rfl ?_
      refine hy_getr (i := 18) rfl rfl ?_
      refine hy_const (i := 19) rfl (by decide) ?_
      refine hy_iload (i := 20) rfl rfl ?_
      refine hy_iast (i := 21) rfl rfl (by omega) (show _ = 1 from rfl) ?_
      refine hy_aload (i := 22) rfl rfl ?_
      refine hy_getr (i := 23) rfl rfl ?_
      refine hy_const (i := 24) rfl (by decide) ?_
      refine hy_iload (i := 25) rfl rfl ?_
      refine hy_iast (i := 26) rfl rfl (by omega) (show _ = 2 from rfl) ?_
      refine hy_aload (i := 27) rfl rfl ?_
      refine hy_getr (i := 28) rfl rfl ?_
      refine hy_const (i := 29) rfl (by decide) ?_
      refine hy_aload (i := 30) rfl rfl ?_
      refine hy_get (i := 31) (fk := 2) rfl rfl rfl ?_
      refine hy_iast (i := 32) rfl rfl (by omega) (show _ = 3 from rfl) ?_
      refine hy_aload (i := 33) rfl rfl ?_
      refine hy_getr (i := 34) rfl rfl ?_
      refine hy_const (i := 35) rfl (by decide) ?_
      refine hy_aload (i := 36) rfl rfl ?_
      refine hy_iload (i := 37) rfl rfl ?_
      refine hy_cV1e (i := 38) rfl mj_M_isMixed (by decide) rfl (Nat.le_of_ble_eq_true rfl) rfl rfl rfl (c_M_isMixed_as (t0 := t) (by exact e0) (by exact e6)) ?_
      refine hy_ib_eq (i := 39) (tt := 42) rfl (fun zc1 => ?_) (fun zc1 => ?_)
      · exact absurd (hm.symm.trans zc1) (by decide)
      · refine hy_const (i := 40) rfl (by decide) ?_
        refine hy_goto (i := 41) (tt := 43) rfl ?_
        refine hy_iast (i := 43) rfl rfl (by omega) (show _ = 4 from rfl) ?_
        refine hy_aload (i := 44) rfl rfl ?_
        refine hy_getr (i := 45) rfl rfl ?_
        refine hy_const (i := 46) rfl (by decide) ?_
        refine hy_aload (i := 47) rfl rfl ?_
        refine hy_iload (i := 48) rfl rfl ?_
        refine hy_cV1e (i := 49) rfl mj_M_isMixed (by decide) rfl (Nat.le_of_ble_eq_true rfl) rfl rfl rfl (c_M_isMixed_as (t0 := t) (by exact e0) (by exact e6)) ?_
        refine hy_ib_eq (i := 50) (tt := 53) rfl (fun zc2 => ?_) (fun zc2 => ?_)
        · exact absurd (hm.symm.trans zc2) (by decide)
        · refine hy_const (i := 51) rfl (by decide) ?_
          refine hy_goto (i := 52) (tt := 62) rfl ?_
          refine hy_iast (i := 62) rfl rfl (by omega) (show _ = 8 from rfl) ?_
          refine hy_return (i := 63) rfl rfl ?_
          refine ⟨rfl, (((((hF.up rfl).up rfl).up rfl).up rfl).up rfl).up rfl, fun j hj => ?_⟩
          have h := hz j hj
          unfold mq_V
          rw [if_pos hm, hm]
          rcases mq_c10 hj with rfl | rfl | rfl | rfl | rfl | rfl | rfl | rfl | rfl | rfl
          · rfl
          · rfl
          · rfl
          · exact e2
          · rfl
          · exact h
          · exact h
          · exact h
          · rfl
          · exact h
    · skip
      refine hy_aload (i := 12) rfl rfl ?_
      refine hy_getr (i := 13) rfl rfl ?_
      refine hy_const (i := 14) rfl (by decide) ?_
      refine hy_iload (i := 15) rfl rfl ?_
      refine hy_iast (i := 16) rfl rfl (by omega) (show _ = 0 from rfl) ?_
      refine hy_aload (i := 17) rfl rfl ?_
      refine hy_getr (i := 18) rfl rfl ?_
      refine hy_const (i := 19) rfl (by decide) ?_
      refine hy_iload (i := 20) rfl rfl ?_
      refine hy_iast (i := 21) rfl rfl (by omega) (show _ = 1 from rfl) ?_
      refine hy_aload (i := 22) rfl rfl ?_
      refine hy_getr (i := 23) rfl rfl ?_
      refine hy_const (i := 24) rfl (by decide) ?_
      refine hy_iload (i := 25) rfl rfl ?_
      refine hy_iast (i := 26) rfl rfl (by omega) (show _ = 2 from rfl) ?_
      refine hy_aload (i := 27) rfl rfl ?_
      refine hy_getr (i := 28) rfl rfl ?_
      refine hy_const (i := 29) rfl (by decide) ?_
      refine hy_aload (i := 30) rfl rfl ?_
      refine hy_get (i := 31) (fk := 2) rfl rfl rfl ?_
      refine hy_iast (i := 32) rfl rfl (by omega) (show _ = 3 from rfl) ?_
      refine hy_aload (i := 33) rfl rfl ?_
      refine hy_getr (i := 34) rfl rfl ?_
      refine hy_const (i := 35) rfl (by decide) ?_
      refine hy_aload (i := 36) rfl rfl ?_
      refine hy_iload (i := 37) rfl rfl ?_
      refine hy_cV1e (i := 38) rfl mj_M_isMixed (by decide) rfl (Nat.le_of_ble_eq_true rfl) rfl rfl rfl (c_M_isMixed_as (t0 := t) (by exact e0) (by exact e6)) ?_
      refine hy_ib_eq (i := 39) (tt := 42) rfl (fun zc1 => ?_) (fun zc1 => ?_)
      · refine hy_const (i := 42) rfl (by decide) ?_
        refine hy_iast (i := 43) rfl rfl (by omega) (show _ = 4 from rfl) ?_
        refine hy_aload (i := 44) rfl rfl ?_
        refine hy_getr (i := 45) rfl rfl ?_
        refine hy_const (i := 46) rfl (by decide) ?_
        refine hy_aload (i := 47) rfl rfl ?_
        refine hy_iload (i := 48) rfl rfl ?_
        refine hy_cV1e (i := 49) rfl mj_M_isMixed (by decide) rfl (Nat.le_of_ble_eq_true rfl) rfl rfl rfl (c_M_isMixed_as (t0 := t) (by exact e0) (by exact e6)) ?_
        refine hy_ib_eq (i := 50) (tt := 53) rfl (fun zc2 => ?_) (fun zc2 => ?_)
        · refine hy_aload (i := 53) rfl rfl ?_
          refine hy_getr (i := 54) rfl rfl ?_
          refine hy_const (i := 55) rfl (by decide) ?_
          refine hy_iload (i := 56) rfl rfl ?_
          refine hy_imul (i := 57) rfl (by omega) ?_
          refine hy_iload (i := 58) rfl rfl ?_
          refine hy_iadd (i := 59) rfl (by omega) ?_
          refine hy_iald (i := 60) rfl rfl (by omega) rfl ?_
          refine hy_cS1e (i := 61) rfl (by decide) mj_M_bits (by decide) rfl (Nat.le_of_ble_eq_true rfl) (c_M_bits) ?_
          refine hy_iast (i := 62) rfl rfl (by omega) (show _ = 8 from rfl) ?_
          refine hy_return (i := 63) rfl rfl ?_
          refine ⟨rfl, (((((hF.up rfl).up rfl).up rfl).up rfl).up rfl).up rfl, fun j hj => ?_⟩
          have h := hz j hj
          have hm2 : mf_mixed t c = false := by cases hx : mf_mixed t c; rfl; exact absurd hx hm
          unfold mq_V
          rw [if_neg hm, hm2]
          rcases mq_c10 hj with rfl | rfl | rfl | rfl | rfl | rfl | rfl | rfl | rfl | rfl
          · rfl
          · rfl
          · rfl
          · exact e2
          · rfl
          · exact h
          · exact h
          · exact h
          · exact congrArg (fun x => mf_bitsN x 12) e62
          · exact h
        · exact absurd zc2 hm
      · exact absurd zc1 hm
  have loop : ∀ (m : Nat), ∀ (k : Nat) (t1 : hy_T), m + k = 10 → hy_F (fun r _ => r == 78) t t1 → (∀ j, j < k → t1 78 j = 0) → hy_W sc hm_M_feels 3 2 [.inr (some 59), .inl e, .inl c, .inl q, .inl (k : Int)] [] t1 (fun r t' => r = none ∧ hy_F (fun r _ => r == 78) t t' ∧ ∀ j, j < 10 → t' 78 j = mq_V t e c q 0 0 0 0 j) := by
    intro m
    induction m with
    | zero =>
      intro k t1 hm hF hz
      refine hy_iload (i := 2) rfl rfl ?_
      refine hy_const (i := 3) rfl (by decide) ?_
      refine hy_ic_ge (i := 4) (tt := 12) rfl (fun zc1 => ?_) (fun zc1 => ?_)
      · exact fin t1 _ hF (fun j hj => hz j (by omega))
      · omega
    | succ m ih =>
      intro k t1 hm hF hz
      refine hy_iload (i := 2) rfl rfl ?_
      refine hy_const (i := 3) rfl (by decide) ?_
      refine hy_ic_ge (i := 4) (tt := 12) rfl (fun zc1 => ?_) (fun zc1 => ?_)
      · omega
      · refine hy_aload (i := 5) rfl rfl ?_
        refine hy_getr (i := 6) rfl rfl ?_
        refine hy_iload (i := 7) rfl rfl ?_
        refine hy_const (i := 8) rfl (by decide) ?_
        refine hy_iast (i := 9) rfl rfl (by omega) (k := k) (by omega) ?_
        refine hy_iinc (i := 10) rfl rfl (by omega) ?_
        refine hy_goto (i := 11) (tt := 2) rfl ?_
        refine ih (k + 1) _ (by omega) (hF.up rfl) (fun j hj => ?_)
        by_cases hjk : j = k
        · simp [hy_up, hjk]
        · rw [show hy_up t1 78 k 0 78 j = t1 78 j by simp [hy_up, hjk]]; exact hz j (by omega)
  refine hy_const (i := 0) rfl (by decide) ?_
  refine hy_istore (i := 1) rfl ?_
  exact loop 10 0 t rfl hy_F.rf (fun j hj => absurd hj (by omega))
theorem c_M_isSeen {e c q s : Int} (hk : ml_ok t) (hc : 0 ≤ c ∧ c < 12) (hq : 0 ≤ q ∧ q < 4) : hy_Ct sc hm_M_isSeen 4 [.inr (some 59), .inl e, .inl c, .inl q, .inl s] t (fun r t' => r = some (hy_b (mq_isSeen t e c q s)) ∧ hy_F mvX t t') := by
  refine hy_mk_ct ok_M_isSeen ck_M_isSeen (Nat.le_of_ble_eq_true rfl) ?_
  by_cases hm : mf_mixed t c = true
  · have e1 : mq_isSeen t e c q s = mb_holds t (mq_V t e c q (hy_b (hz_b s (t 60 c.toNat))) (hy_b (hz_b s (t 61 c.toNat))) 0 0) 115 (hz_b s (t 60 c.toNat) && hz_b s (t 61 c.toNat)) := by unfold mq_isSeen; rw [if_pos hm]
    rw [e1]
    refine hy_aload (i := 0) rfl rfl ?_
    refine hy_iload (i := 1) rfl rfl ?_
    refine hy_cV1e (i := 2) rfl mj_M_isMixed (by decide) rfl (Nat.le_of_ble_eq_true rfl) rfl rfl rfl (c_M_isMixed) ?_
    refine hy_ib_ne (i := 3) (tt := 23) rfl (fun zc1 => ?_) (fun zc1 => ?_)
    · refine hy_aload (i := 23) rfl rfl ?_
      refine hy_iload (i := 24) rfl rfl ?_
      refine hy_iload (i := 25) rfl rfl ?_
      refine hy_iload (i := 26) rfl rfl ?_
      refine hy_cV3 (i := 27) rfl mj_M_feels (by decide) rfl (Nat.le_of_ble_eq_true rfl) rfl rfl rfl (c_M_feels (by omega) (by omega)) (fun r2_ t2_ h2 => ?_)
      obtain ⟨rfl, hF2, hV2⟩ := h2
      dsimp only [hy_st, List.nil_append]
      have g60 : t2_ 60 c.toNat = t 60 c.toNat := hF2 60 _ rfl
      have g61 : t2_ 61 c.toNat = t 61 c.toNat := hF2 61 _ rfl
      have hk2 := fun a b => ml_ok_F ((hF2.up (r := 78) (j := 5) (v := a) rfl).up (r := 78) (j := 6) (v := b) rfl) (fun r j h => by revert h; simp [mlawX]; omega) hk
      refine hy_aload (i := 28) rfl rfl ?_
      refine hy_getr (i := 29) rfl rfl ?_
      refine hy_const (i := 30) rfl (by decide) ?_
      refine hy_iload (i := 31) rfl rfl ?_
      refine hy_aload (i := 32) rfl rfl ?_
      refine hy_getr (i := 33) rfl rfl ?_
      refine hy_iload (i := 34) rfl rfl ?_
      refine hy_iald (i := 35) rfl rfl (by omega) rfl ?_
      rw [g60]
      refine hy_cS2e (i := 36) rfl (by decide) mj_M_has (by decide) rfl (Nat.le_of_ble_eq_true rfl) (c_M_has) ?_
      refine hy_ib_eq (i := 37) (tt := 40) rfl (fun zc2 => ?_) (fun zc2 => ?_)
      · refine hy_const (i := 40) rfl (by decide) ?_
        refine hy_iast (i := 41) rfl rfl (by omega) (show _ = 5 from rfl) ?_
        refine hy_aload (i := 42) rfl rfl ?_
        refine hy_getr (i := 43) rfl rfl ?_
        refine hy_const (i := 44) rfl (by decide) ?_
        refine hy_iload (i := 45) rfl rfl ?_
        refine hy_aload (i := 46) rfl rfl ?_
        refine hy_getr (i := 47) rfl rfl ?_
        refine hy_iload (i := 48) rfl rfl ?_
        refine hy_iald (i := 49) rfl rfl (by omega) rfl ?_
        rw [hy_up_ne (by decide), g61]
        refine hy_cS2e (i := 50) rfl (by decide) mj_M_has (by decide) rfl (Nat.le_of_ble_eq_true rfl) (c_M_has) ?_
        refine hy_ib_eq (i := 51) (tt := 54) rfl (fun zc3 => ?_) (fun zc3 => ?_)
        · refine hy_const (i := 54) rfl (by decide) ?_
          refine hy_iast (i := 55) rfl rfl (by omega) (show _ = 6 from rfl) ?_
          refine hy_aload (i := 56) rfl rfl ?_
          refine hy_const (i := 57) rfl (by decide) ?_
          refine hy_iload (i := 58) rfl rfl ?_
          refine hy_aload (i := 59) rfl rfl ?_
          refine hy_getr (i := 60) rfl rfl ?_
          refine hy_iload (i := 61) rfl rfl ?_
          refine hy_iald (i := 62) rfl rfl (by omega) rfl ?_
          rw [hy_up_ne (by decide), hy_up_ne (by decide), g60]
          refine hy_cS2e (i := 63) rfl (by decide) mj_M_has (by decide) rfl (Nat.le_of_ble_eq_true rfl) (c_M_has) ?_
          refine hy_ib_eq (i := 64) (tt := 74) rfl (fun zc4 => ?_) (fun zc4 => ?_)
          · refine hy_const (i := 74) rfl (by decide) ?_
            refine hy_cV2 (i := 75) rfl mj_M_holds (by decide) rfl (Nat.le_of_ble_eq_true rfl) rfl rfl rfl (c_M_holdsI (by first | exact .inr rfl | exact .inl rfl) (hk2 _ _)) (fun r6_ t6_ h6 => ?_)
            obtain ⟨rfl, hF6⟩ := h6
            dsimp only [hy_st, List.cons_append, List.nil_append]
            refine hy_zreturn (i := 76) rfl rfl (by first | decide | exact hy_b01 _) ?_
            refine ⟨congrArg (fun b => some (hy_b b)) ?_, mv_78 ((hF2.up rfl).up rfl) |>.tr' (ml_mv (by assumption))⟩
            rw [mq_tell hk hF2 hV2]
            first | exact bb_abs (p := hz_b s (t 60 c.toNat)) (by assumption) (by assumption) | exact bb_abs (p := hz_b s (t 61 c.toNat)) (by assumption) (by assumption) | (rw [show hz_b s (t 60 c.toNat) = _ by assumption, show hz_b s (t 61 c.toNat) = _ by assumption]; rfl)
          · refine hy_iload (i := 65) rfl rfl ?_
            refine hy_aload (i := 66) rfl rfl ?_
            refine hy_getr (i := 67) rfl rfl ?_
            refine hy_iload (i := 68) rfl rfl ?_
            refine hy_iald (i := 69) rfl rfl (by omega) rfl ?_
            rw [hy_up_ne (by decide), hy_up_ne (by decide), g61]
            refine hy_cS2e (i := 70) rfl (by decide) mj_M_has (by decide) rfl (Nat.le_of_ble_eq_true rfl) (c_M_has) ?_
            refine hy_ib_eq (i := 71) (tt := 74) rfl (fun zc5 => ?_) (fun zc5 => ?_)
            · refine hy_const (i := 74) rfl (by decide) ?_
              refine hy_cV2 (i := 75) rfl mj_M_holds (by decide) rfl (Nat.le_of_ble_eq_true rfl) rfl rfl rfl (c_M_holdsI (by first | exact .inr rfl | exact .inl rfl) (hk2 _ _)) (fun r7_ t7_ h7 => ?_)
              obtain ⟨rfl, hF7⟩ := h7
              dsimp only [hy_st, List.cons_append, List.nil_append]
              refine hy_zreturn (i := 76) rfl rfl (by first | decide | exact hy_b01 _) ?_
              refine ⟨congrArg (fun b => some (hy_b b)) ?_, mv_78 ((hF2.up rfl).up rfl) |>.tr' (ml_mv (by assumption))⟩
              rw [mq_tell hk hF2 hV2]
              first | exact bb_abs (p := hz_b s (t 60 c.toNat)) (by assumption) (by assumption) | exact bb_abs (p := hz_b s (t 61 c.toNat)) (by assumption) (by assumption) | (rw [show hz_b s (t 60 c.toNat) = _ by assumption, show hz_b s (t 61 c.toNat) = _ by assumption]; rfl)
            · refine hy_const (i := 72) rfl (by decide) ?_
              refine hy_goto (i := 73) (tt := 75) rfl ?_
              refine hy_cV2 (i := 75) rfl mj_M_holds (by decide) rfl (Nat.le_of_ble_eq_true rfl) rfl rfl rfl (c_M_holdsI (by first | exact .inr rfl | exact .inl rfl) (hk2 _ _)) (fun r7_ t7_ h7 => ?_)
              obtain ⟨rfl, hF7⟩ := h7
              dsimp only [hy_st, List.cons_append, List.nil_append]
              refine hy_zreturn (i := 76) rfl rfl (by first | decide | exact hy_b01 _) ?_
              refine ⟨congrArg (fun b => some (hy_b b)) ?_, mv_78 ((hF2.up rfl).up rfl) |>.tr' (ml_mv (by assumption))⟩
              rw [mq_tell hk hF2 hV2]
              first | exact bb_abs (p := hz_b s (t 60 c.toNat)) (by assumption) (by assumption) | exact bb_abs (p := hz_b s (t 61 c.toNat)) (by assumption) (by assumption) | (rw [show hz_b s (t 60 c.toNat) = _ by assumption, show hz_b s (t 61 c.toNat) = _ by assumption]; rfl)
        · refine hy_const (i := 52) rfl (by decide) ?_
          refine hy_goto (i := 53) (tt := 55) rfl ?_
          refine hy_iast (i := 55) rfl rfl (by omega) (show _ = 6 from rfl) ?_
          refine hy_aload (i := 56) rfl rfl ?_
          refine hy_const (i := 57) rfl (by decide) ?_
          refine hy_iload (i := 58) rfl rfl ?_
          refine hy_aload (i := 59) rfl rfl ?_
          refine hy_getr (i := 60) rfl rfl ?_
          refine hy_iload (i := 61) rfl rfl ?_
          refine hy_iald (i := 62) rfl rfl (by omega) rfl ?_
          rw [hy_up_ne (by decide), hy_up_ne (by decide), g60]
          refine hy_cS2e (i := 63) rfl (by decide) mj_M_has (by decide) rfl (Nat.le_of_ble_eq_true rfl) (c_M_has) ?_
          refine hy_ib_eq (i := 64) (tt := 74) rfl (fun zc4 => ?_) (fun zc4 => ?_)
          · refine hy_const (i := 74) rfl (by decide) ?_
            refine hy_cV2 (i := 75) rfl mj_M_holds (by decide) rfl (Nat.le_of_ble_eq_true rfl) rfl rfl rfl (c_M_holdsI (by first | exact .inr rfl | exact .inl rfl) (hk2 _ _)) (fun r6_ t6_ h6 => ?_)
            obtain ⟨rfl, hF6⟩ := h6
            dsimp only [hy_st, List.cons_append, List.nil_append]
            refine hy_zreturn (i := 76) rfl rfl (by first | decide | exact hy_b01 _) ?_
            refine ⟨congrArg (fun b => some (hy_b b)) ?_, mv_78 ((hF2.up rfl).up rfl) |>.tr' (ml_mv (by assumption))⟩
            rw [mq_tell hk hF2 hV2]
            first | exact bb_abs (p := hz_b s (t 60 c.toNat)) (by assumption) (by assumption) | exact bb_abs (p := hz_b s (t 61 c.toNat)) (by assumption) (by assumption) | (rw [show hz_b s (t 60 c.toNat) = _ by assumption, show hz_b s (t 61 c.toNat) = _ by assumption]; rfl)
          · refine hy_iload (i := 65) rfl rfl ?_
            refine hy_aload (i := 66) rfl rfl ?_
            refine hy_getr (i := 67) rfl rfl ?_
            refine hy_iload (i := 68) rfl rfl ?_
            refine hy_iald (i := 69) rfl rfl (by omega) rfl ?_
            rw [hy_up_ne (by decide), hy_up_ne (by decide), g61]
            refine hy_cS2e (i := 70) rfl (by decide) mj_M_has (by decide) rfl (Nat.le_of_ble_eq_true rfl) (c_M_has) ?_
            refine hy_ib_eq (i := 71) (tt := 74) rfl (fun zc5 => ?_) (fun zc5 => ?_)
            · refine hy_const (i := 74) rfl (by decide) ?_
              refine hy_cV2 (i := 75) rfl mj_M_holds (by decide) rfl (Nat.le_of_ble_eq_true rfl) rfl rfl rfl (c_M_holdsI (by first | exact .inr rfl | exact .inl rfl) (hk2 _ _)) (fun r7_ t7_ h7 => ?_)
              obtain ⟨rfl, hF7⟩ := h7
              dsimp only [hy_st, List.cons_append, List.nil_append]
              refine hy_zreturn (i := 76) rfl rfl (by first | decide | exact hy_b01 _) ?_
              refine ⟨congrArg (fun b => some (hy_b b)) ?_, mv_78 ((hF2.up rfl).up rfl) |>.tr' (ml_mv (by assumption))⟩
              rw [mq_tell hk hF2 hV2]
              first | exact bb_abs (p := hz_b s (t 60 c.toNat)) (by assumption) (by assumption) | exact bb_abs (p := hz_b s (t 61 c.toNat)) (by assumption) (by assumption) | (rw [show hz_b s (t 60 c.toNat) = _ by assumption, show hz_b s (t 61 c.toNat) = _ by assumption]; rfl)
            · refine hy_const (i := 72) rfl (by decide) ?_
              refine hy_goto (i := 73) (tt := 75) rfl ?_
              refine hy_cV2 (i := 75) rfl mj_M_holds (by decide) rfl (Nat.le_of_ble_eq_true rfl) rfl rfl rfl (c_M_holdsI (by first | exact .inr rfl | exact .inl rfl) (hk2 _ _)) (fun r7_ t7_ h7 => ?_)
              obtain ⟨rfl, hF7⟩ := h7
              dsimp only [hy_st, List.cons_append, List.nil_append]
              refine hy_zreturn (i := 76) rfl rfl (by first | decide | exact hy_b01 _) ?_
              refine ⟨congrArg (fun b => some (hy_b b)) ?_, mv_78 ((hF2.up rfl).up rfl) |>.tr' (ml_mv (by assumption))⟩
              rw [mq_tell hk hF2 hV2]
              first | exact bb_abs (p := hz_b s (t 60 c.toNat)) (by assumption) (by assumption) | exact bb_abs (p := hz_b s (t 61 c.toNat)) (by assumption) (by assumption) | (rw [show hz_b s (t 60 c.toNat) = _ by assumption, show hz_b s (t 61 c.toNat) = _ by assumption]; rfl)
      · refine hy_const (i := 38) rfl (by decide) ?_
        refine hy_goto (i := 39) (tt := 41) rfl ?_
        refine hy_iast (i := 41) rfl rfl (by omega) (show _ = 5 from rfl) ?_
        refine hy_aload (i := 42) rfl rfl ?_
        refine hy_getr (i := 43) rfl rfl ?_
        refine hy_const (i := 44) rfl (by decide) ?_
        refine hy_iload (i := 45) rfl rfl ?_
        refine hy_aload (i := 46) rfl rfl ?_
        refine hy_getr (i := 47) rfl rfl ?_
        refine hy_iload (i := 48) rfl rfl ?_
        refine hy_iald (i := 49) rfl rfl (by omega) rfl ?_
        rw [hy_up_ne (by decide), g61]
        refine hy_cS2e (i := 50) rfl (by decide) mj_M_has (by decide) rfl (Nat.le_of_ble_eq_true rfl) (c_M_has) ?_
        refine hy_ib_eq (i := 51) (tt := 54) rfl (fun zc3 => ?_) (fun zc3 => ?_)
        · refine hy_const (i := 54) rfl (by decide) ?_
          refine hy_iast (i := 55) rfl rfl (by omega) (show _ = 6 from rfl) ?_
          refine hy_aload (i := 56) rfl rfl ?_
          refine hy_const (i := 57) rfl (by decide) ?_
          refine hy_iload (i := 58) rfl rfl ?_
          refine hy_aload (i := 59) rfl rfl ?_
          refine hy_getr (i := 60) rfl rfl ?_
          refine hy_iload (i := 61) rfl rfl ?_
          refine hy_iald (i := 62) rfl rfl (by omega) rfl ?_
          rw [hy_up_ne (by decide), hy_up_ne (by decide), g60]
          refine hy_cS2e (i := 63) rfl (by decide) mj_M_has (by decide) rfl (Nat.le_of_ble_eq_true rfl) (c_M_has) ?_
          refine hy_ib_eq (i := 64) (tt := 74) rfl (fun zc4 => ?_) (fun zc4 => ?_)
          · refine hy_const (i := 74) rfl (by decide) ?_
            refine hy_cV2 (i := 75) rfl mj_M_holds (by decide) rfl (Nat.le_of_ble_eq_true rfl) rfl rfl rfl (c_M_holdsI (by first | exact .inr rfl | exact .inl rfl) (hk2 _ _)) (fun r6_ t6_ h6 => ?_)
            obtain ⟨rfl, hF6⟩ := h6
            dsimp only [hy_st, List.cons_append, List.nil_append]
            refine hy_zreturn (i := 76) rfl rfl (by first | decide | exact hy_b01 _) ?_
            refine ⟨congrArg (fun b => some (hy_b b)) ?_, mv_78 ((hF2.up rfl).up rfl) |>.tr' (ml_mv (by assumption))⟩
            rw [mq_tell hk hF2 hV2]
            first | exact bb_abs (p := hz_b s (t 60 c.toNat)) (by assumption) (by assumption) | exact bb_abs (p := hz_b s (t 61 c.toNat)) (by assumption) (by assumption) | (rw [show hz_b s (t 60 c.toNat) = _ by assumption, show hz_b s (t 61 c.toNat) = _ by assumption]; rfl)
          · refine hy_iload (i := 65) rfl rfl ?_
            refine hy_aload (i := 66) rfl rfl ?_
            refine hy_getr (i := 67) rfl rfl ?_
            refine hy_iload (i := 68) rfl rfl ?_
            refine hy_iald (i := 69) rfl rfl (by omega) rfl ?_
            rw [hy_up_ne (by decide), hy_up_ne (by decide), g61]
            refine hy_cS2e (i := 70) rfl (by decide) mj_M_has (by decide) rfl (Nat.le_of_ble_eq_true rfl) (c_M_has) ?_
            refine hy_ib_eq (i := 71) (tt := 74) rfl (fun zc5 => ?_) (fun zc5 => ?_)
            · refine hy_const (i := 74) rfl (by decide) ?_
              refine hy_cV2 (i := 75) rfl mj_M_holds (by decide) rfl (Nat.le_of_ble_eq_true rfl) rfl rfl rfl (c_M_holdsI (by first | exact .inr rfl | exact .inl rfl) (hk2 _ _)) (fun r7_ t7_ h7 => ?_)
              obtain ⟨rfl, hF7⟩ := h7
              dsimp only [hy_st, List.cons_append, List.nil_append]
              refine hy_zreturn (i := 76) rfl rfl (by first | decide | exact hy_b01 _) ?_
              refine ⟨congrArg (fun b => some (hy_b b)) ?_, mv_78 ((hF2.up rfl).up rfl) |>.tr' (ml_mv (by assumption))⟩
              rw [mq_tell hk hF2 hV2]
              first | exact bb_abs (p := hz_b s (t 60 c.toNat)) (by assumption) (by assumption) | exact bb_abs (p := hz_b s (t 61 c.toNat)) (by assumption) (by assumption) | (rw [show hz_b s (t 60 c.toNat) = _ by assumption, show hz_b s (t 61 c.toNat) = _ by assumption]; rfl)
            · refine hy_const (i := 72) rfl (by decide) ?_
              refine hy_goto (i := 73) (tt := 75) rfl ?_
              refine hy_cV2 (i := 75) rfl mj_M_holds (by decide) rfl (Nat.le_of_ble_eq_true rfl) rfl rfl rfl (c_M_holdsI (by first | exact .inr rfl | exact .inl rfl) (hk2 _ _)) (fun r7_ t7_ h7 => ?_)
              obtain ⟨rfl, hF7⟩ := h7
              dsimp only [hy_st, List.cons_append, List.nil_append]
              refine hy_zreturn (i := 76) rfl rfl (by first | decide | exact hy_b01 _) ?_
              refine ⟨congrArg (fun b => some (hy_b b)) ?_, mv_78 ((hF2.up rfl).up rfl) |>.tr' (ml_mv (by assumption))⟩
              rw [mq_tell hk hF2 hV2]
              first | exact bb_abs (p := hz_b s (t 60 c.toNat)) (by assumption) (by assumption) | exact bb_abs (p := hz_b s (t 61 c.toNat)) (by assumption) (by assumption) | (rw [show hz_b s (t 60 c.toNat) = _ by assumption, show hz_b s (t 61 c.toNat) = _ by assumption]; rfl)
        · refine hy_const (i := 52) rfl (by decide) ?_
          refine hy_goto (i := 53) (tt := 55) rfl ?_
          refine hy_iast (i := 55) rfl rfl (by omega) (show _ = 6 from rfl) ?_
          refine hy_aload (i := 56) rfl rfl ?_
          refine hy_const (i := 57) rfl (by decide) ?_
          refine hy_iload (i := 58) rfl rfl ?_
          refine hy_aload (i := 59) rfl rfl ?_
          refine hy_getr (i := 60) rfl rfl ?_
          refine hy_iload (i := 61) rfl rfl ?_
          refine hy_iald (i := 62) rfl rfl (by omega) rfl ?_
          rw [hy_up_ne (by decide), hy_up_ne (by decide), g60]
          refine hy_cS2e (i := 63) rfl (by decide) mj_M_has (by decide) rfl (Nat.le_of_ble_eq_true rfl) (c_M_has) ?_
          refine hy_ib_eq (i := 64) (tt := 74) rfl (fun zc4 => ?_) (fun zc4 => ?_)
          · refine hy_const (i := 74) rfl (by decide) ?_
            refine hy_cV2 (i := 75) rfl mj_M_holds (by decide) rfl (Nat.le_of_ble_eq_true rfl) rfl rfl rfl (c_M_holdsI (by first | exact .inr rfl | exact .inl rfl) (hk2 _ _)) (fun r6_ t6_ h6 => ?_)
            obtain ⟨rfl, hF6⟩ := h6
            dsimp only [hy_st, List.cons_append, List.nil_append]
            refine hy_zreturn (i := 76) rfl rfl (by first | decide | exact hy_b01 _) ?_
            refine ⟨congrArg (fun b => some (hy_b b)) ?_, mv_78 ((hF2.up rfl).up rfl) |>.tr' (ml_mv (by assumption))⟩
            rw [mq_tell hk hF2 hV2]
            first | exact bb_abs (p := hz_b s (t 60 c.toNat)) (by assumption) (by assumption) | exact bb_abs (p := hz_b s (t 61 c.toNat)) (by assumption) (by assumption) | (rw [show hz_b s (t 60 c.toNat) = _ by assumption, show hz_b s (t 61 c.toNat) = _ by assumption]; rfl)
          · refine hy_iload (i := 65) rfl rfl ?_
            refine hy_aload (i := 66) rfl rfl ?_
            refine hy_getr (i := 67) rfl rfl ?_
            refine hy_iload (i := 68) rfl rfl ?_
            refine hy_iald (i := 69) rfl rfl (by omega) rfl ?_
            rw [hy_up_ne (by decide), hy_up_ne (by decide), g61]
            refine hy_cS2e (i := 70) rfl (by decide) mj_M_has (by decide) rfl (Nat.le_of_ble_eq_true rfl) (c_M_has) ?_
            refine hy_ib_eq (i := 71) (tt := 74) rfl (fun zc5 => ?_) (fun zc5 => ?_)
            · refine hy_const (i := 74) rfl (by decide) ?_
              refine hy_cV2 (i := 75) rfl mj_M_holds (by decide) rfl (Nat.le_of_ble_eq_true rfl) rfl rfl rfl (c_M_holdsI (by first | exact .inr rfl | exact .inl rfl) (hk2 _ _)) (fun r7_ t7_ h7 => ?_)
              obtain ⟨rfl, hF7⟩ := h7
              dsimp only [hy_st, List.cons_append, List.nil_append]
              refine hy_zreturn (i := 76) rfl rfl (by first | decide | exact hy_b01 _) ?_
              refine ⟨congrArg (fun b => some (hy_b b)) ?_, mv_78 ((hF2.up rfl).up rfl) |>.tr' (ml_mv (by assumption))⟩
              rw [mq_tell hk hF2 hV2]
              first | exact bb_abs (p := hz_b s (t 60 c.toNat)) (by assumption) (by assumption) | exact bb_abs (p := hz_b s (t 61 c.toNat)) (by assumption) (by assumption) | (rw [show hz_b s (t 60 c.toNat) = _ by assumption, show hz_b s (t 61 c.toNat) = _ by assumption]; rfl)
            · refine hy_const (i := 72) rfl (by decide) ?_
              refine hy_goto (i := 73) (tt := 75) rfl ?_
              refine hy_cV2 (i := 75) rfl mj_M_holds (by decide) rfl (Nat.le_of_ble_eq_true rfl) rfl rfl rfl (c_M_holdsI (by first | exact .inr rfl | exact .inl rfl) (hk2 _ _)) (fun r7_ t7_ h7 => ?_)
              obtain ⟨rfl, hF7⟩ := h7
              dsimp only [hy_st, List.cons_append, List.nil_append]
              refine hy_zreturn (i := 76) rfl rfl (by first | decide | exact hy_b01 _) ?_
              refine ⟨congrArg (fun b => some (hy_b b)) ?_, mv_78 ((hF2.up rfl).up rfl) |>.tr' (ml_mv (by assumption))⟩
              rw [mq_tell hk hF2 hV2]
              first | exact bb_abs (p := hz_b s (t 60 c.toNat)) (by assumption) (by assumption) | exact bb_abs (p := hz_b s (t 61 c.toNat)) (by assumption) (by assumption) | (rw [show hz_b s (t 60 c.toNat) = _ by assumption, show hz_b s (t 61 c.toNat) = _ by assumption]; rfl)
    · exact absurd (hm.symm.trans zc1) (by decide)
  · have e1 : mq_isSeen t e c q s = ((sp_told (t 59 0) c && decide (t 60 c.toNat = -1)) && hz_b (t 62 (4 * c + q).toNat) e) := by unfold mq_isSeen; rw [if_neg hm]
    rw [e1]
    refine hy_aload (i := 0) rfl rfl ?_
    refine hy_iload (i := 1) rfl rfl ?_
    refine hy_cV1e (i := 2) rfl mj_M_isMixed (by decide) rfl (Nat.le_of_ble_eq_true rfl) rfl rfl rfl (c_M_isMixed) ?_
    refine hy_ib_ne (i := 3) (tt := 23) rfl (fun zc1 => ?_) (fun zc1 => ?_)
    · exact absurd zc1 hm
    · refine hy_aload (i := 4) rfl rfl ?_
      refine hy_iload (i := 5) rfl rfl ?_
      refine hy_cV1e (i := 6) rfl mj_M_isPlain (by decide) rfl (Nat.le_of_ble_eq_true rfl) rfl rfl rfl (c_M_isPlain) ?_
      refine hy_ib_eq (i := 7) (tt := 21) rfl (fun zc2 => ?_) (fun zc2 => ?_)
      · refine hy_const (i := 21) rfl (by decide) ?_
        refine hy_zreturn (i := 22) rfl rfl (by first | decide | exact hy_b01 _) ?_
        refine ⟨congrArg some ?_, hy_F.rf⟩
        first | (rw [show (sp_told (t 59 0) c && decide (t 60 c.toNat = -1)) = true by assumption, show hz_b (t 62 (4 * c + q).toNat) e = true by assumption]; rfl) | (rw [show (sp_told (t 59 0) c && decide (t 60 c.toNat = -1)) = true by assumption, show hz_b (t 62 (4 * c + q).toNat) e = false by assumption]; rfl) | (rw [show (sp_told (t 59 0) c && decide (t 60 c.toNat = -1)) = false by assumption]; rfl)
      · refine hy_aload (i := 8) rfl rfl ?_
        refine hy_getr (i := 9) rfl rfl ?_
        refine hy_const (i := 10) rfl (by decide) ?_
        refine hy_iload (i := 11) rfl rfl ?_
        refine hy_imul (i := 12) rfl (by omega) ?_
        refine hy_iload (i := 13) rfl rfl ?_
        refine hy_iadd (i := 14) rfl (by omega) ?_
        refine hy_iald (i := 15) rfl rfl (by omega) rfl ?_
        refine hy_iload (i := 16) rfl rfl ?_
        refine hy_cS2e (i := 17) rfl (by decide) mj_M_has (by decide) rfl (Nat.le_of_ble_eq_true rfl) (c_M_has) ?_
        refine hy_ib_eq (i := 18) (tt := 21) rfl (fun zc3 => ?_) (fun zc3 => ?_)
        · refine hy_const (i := 21) rfl (by decide) ?_
          refine hy_zreturn (i := 22) rfl rfl (by first | decide | exact hy_b01 _) ?_
          refine ⟨congrArg some ?_, hy_F.rf⟩
          first | (rw [show (sp_told (t 59 0) c && decide (t 60 c.toNat = -1)) = true by assumption, show hz_b (t 62 (4 * c + q).toNat) e = true by assumption]; rfl) | (rw [show (sp_told (t 59 0) c && decide (t 60 c.toNat = -1)) = true by assumption, show hz_b (t 62 (4 * c + q).toNat) e = false by assumption]; rfl) | (rw [show (sp_told (t 59 0) c && decide (t 60 c.toNat = -1)) = false by assumption]; rfl)
        · refine hy_const (i := 19) rfl (by decide) ?_
          refine hy_goto (i := 20) (tt := 22) rfl ?_
          refine hy_zreturn (i := 22) rfl rfl (by first | decide | exact hy_b01 _) ?_
          refine ⟨congrArg some ?_, hy_F.rf⟩
          first | (rw [show (sp_told (t 59 0) c && decide (t 60 c.toNat = -1)) = true by assumption, show hz_b (t 62 (4 * c + q).toNat) e = true by assumption]; rfl) | (rw [show (sp_told (t 59 0) c && decide (t 60 c.toNat = -1)) = true by assumption, show hz_b (t 62 (4 * c + q).toNat) e = false by assumption]; rfl) | (rw [show (sp_told (t 59 0) c && decide (t 60 c.toNat = -1)) = false by assumption]; rfl)
theorem c_M_seenBy {e q : Int} (hk : ml_ok t) (hq : 0 ≤ q ∧ q < 4) : hy_Ct sc hm_M_seenBy 5 [.inr (some 59), .inl e, .inl q] t (fun r t' => r = some (mq_seenN t e q 12) ∧ hy_F mvX t t') := by
  refine hy_mk_ct ok_M_seenBy ck_M_seenBy (Nat.le_of_ble_eq_true rfl) ?_
  have loop : ∀ (m : Nat), ∀ (k : Nat) (t1 : hy_T), m + k = 12 → hy_F mvX t t1 → hy_W sc hm_M_seenBy 5 4 [.inr (some 59), .inl e, .inl q, .inl (mq_seenN t e q k), .inl (k : Int)] [] t1 (fun r t' => r = some (mq_seenN t e q 12) ∧ hy_F mvX t t') := by
    intro m
    induction m with
    | zero =>
      intro k t1 hm hF
      obtain rfl : k = 12 := by omega
      refine hy_iload (i := 4) rfl rfl ?_
      refine hy_const (i := 5) rfl (by decide) ?_
      refine hy_ic_ge (i := 6) (tt := 22) rfl (fun zc1 => ?_) (fun zc1 => ?_)
      · refine hy_iload (i := 22) rfl rfl ?_
        refine hy_ireturn (i := 23) rfl rfl ?_
        exact ⟨rfl, hF⟩
      · omega
    | succ m ih =>
      intro k t1 hm hF
      have hk1 := ml_ok_F hF (meq_law mvX_meq) hk
      have e1 : mq_seenN t e q (k + 1) = if mq_isSeen t e k q (mq_seenN t e q k) = true then hz_ior (mq_seenN t e q k) (hz_ishl 1 k) else mq_seenN t e q k := rfl
      refine hy_iload (i := 4) rfl rfl ?_
      refine hy_const (i := 5) rfl (by decide) ?_
      refine hy_ic_ge (i := 6) (tt := 22) rfl (fun zc1 => ?_) (fun zc1 => ?_)
      · omega
      · refine hy_aload (i := 7) rfl rfl ?_
        refine hy_iload (i := 8) rfl rfl ?_
        refine hy_iload (i := 9) rfl rfl ?_
        refine hy_iload (i := 10) rfl rfl ?_
        refine hy_iload (i := 11) rfl rfl ?_
        refine hy_cV4 (i := 12) rfl mj_M_isSeen (by decide) rfl (Nat.le_of_ble_eq_true rfl) rfl rfl rfl (c_M_isSeen (by assumption) (by omega) (by omega)) (fun r1_ t1_ h1 => ?_)
        obtain ⟨rfl, hF1⟩ := h1
        dsimp only [hy_st, List.cons_append, List.nil_append]
        rw [mq_isSeen_F hF mvX_meq]
        refine hy_ib_eq (i := 13) (tt := 20) rfl (fun zc2 => ?_) (fun zc2 => ?_)
        · refine hy_iinc (i := 20) rfl rfl (by omega) ?_
          refine hy_goto (i := 21) (tt := 4) rfl ?_
          first | (rw [if_pos (show mq_isSeen t e k q (mq_seenN t e q k) = true by assumption)] at e1; rw [← e1]; exact ih (k + 1) _ (by omega) (hF.tr' hF1)) | (rw [if_neg (by rw [show mq_isSeen t e k q (mq_seenN t e q k) = false by assumption]; decide)] at e1; rw [← e1]; exact ih (k + 1) _ (by omega) (hF.tr' hF1))
        · refine hy_iload (i := 14) rfl rfl ?_
          refine hy_const (i := 15) rfl (by decide) ?_
          refine hy_iload (i := 16) rfl rfl ?_
          refine hy_ishl (i := 17) rfl ?_
          refine hy_ior (i := 18) rfl ?_
          refine hy_istore (i := 19) rfl ?_
          refine hy_iinc (i := 20) rfl rfl (by omega) ?_
          refine hy_goto (i := 21) (tt := 4) rfl ?_
          first | (rw [if_pos (show mq_isSeen t e k q (mq_seenN t e q k) = true by assumption)] at e1; rw [← e1]; exact ih (k + 1) _ (by omega) (hF.tr' hF1)) | (rw [if_neg (by rw [show mq_isSeen t e k q (mq_seenN t e q k) = false by assumption]; decide)] at e1; rw [← e1]; exact ih (k + 1) _ (by omega) (hF.tr' hF1))
  refine hy_const (i := 0) rfl (by decide) ?_
  refine hy_istore (i := 1) rfl ?_
  refine hy_const (i := 2) rfl (by decide) ?_
  refine hy_istore (i := 3) rfl ?_
  exact loop 12 0 t rfl hy_F.rf
theorem c_M_laysAs {e q : Int} (hk : ml_ok t) (hp : me_pal t) (hq : 0 ≤ q ∧ q < 4) : hy_Ct sc hm_M_laysAs 6 [.inr (some 59), .inl e, .inl q] t (fun r t' => r = none ∧ hy_F meX t t' ∧ ∀ j : Nat, j ≤ 12 → t' 79 j = mq_as t e q j) := by
  refine hy_mk_ct ok_M_laysAs ck_M_laysAs (Nat.le_of_ble_eq_true rfl) ?_
  have loop : ∀ (s : Int), s = mq_seenN t e q 12 → ∀ (m : Nat), ∀ (k : Nat) (t2 : hy_T), m + k = 12 → hy_F meX t t2 → (∀ j : Nat, j < k ∨ j = 12 → t2 79 j = mq_asR t s k j) → hy_W sc hm_M_laysAs 6 12 [.inr (some 59), .inl e, .inl q, .inl s, .inl (k : Int)] [] t2 (fun r t' => r = none ∧ hy_F meX t t' ∧ ∀ j : Nat, j ≤ 12 → t' 79 j = mq_as t e q j) := by
    intro s hs m
    induction m with
    | zero =>
      intro k t2 hm hF hi
      obtain rfl : k = 12 := by omega
      refine hy_iload (i := 12) rfl rfl ?_
      refine hy_const (i := 13) rfl (by decide) ?_
      refine hy_ic_ge (i := 14) (tt := 65) rfl (fun zc1 => ?_) (fun zc1 => ?_)
      · refine hy_return (i := 65) rfl rfl ?_
        exact ⟨rfl, hF, fun j hj => by rw [hi j (by omega), hs]; rfl⟩
      · omega
    | succ m ih =>
      intro k t2 hm hF hi
      have hpk := hp k (by omega)
      have e0 : t2 59 0 = t 59 0 := hF 59 0 rfl
      have e6 : t2 60 = t 60 := funext fun j => hF 60 j rfl
      have g60 : t2 60 k = t 60 k := hF 60 k rfl
      have g61 : t2 61 k = t 61 k := hF 61 k rfl
      by_cases hb : hz_b s k = true
      · skip
        refine hy_iload (i := 12) rfl rfl ?_
        refine hy_const (i := 13) rfl (by decide) ?_
        refine hy_ic_ge (i := 14) (tt := 65) rfl (fun zc1 => ?_) (fun zc1 => ?_)
        · omega
        · refine hy_aload (i := 15) rfl rfl ?_
          refine hy_getr (i := 16) rfl rfl ?_
          refine hy_iload (i := 17) rfl rfl ?_
          refine hy_iload (i := 18) rfl rfl ?_
          refine hy_iload (i := 19) rfl rfl ?_
          refine hy_cS2e (i := 20) rfl (by decide) mj_M_has (by decide) rfl (Nat.le_of_ble_eq_true rfl) (c_M_has) ?_
          refine hy_ib_eq (i := 21) (tt := 24) rfl (fun zc2 => ?_) (fun zc2 => ?_)
          · exact absurd (hb.symm.trans (by assumption)) (by decide)
          · refine hy_iload (i := 22) rfl rfl ?_
            refine hy_goto (i := 23) (tt := 25) rfl ?_
            refine hy_iast (i := 25) rfl rfl (by omega) (k := k) (by omega) ?_
            refine hy_iload (i := 26) rfl rfl ?_
            refine hy_iload (i := 27) rfl rfl ?_
            refine hy_cS2e (i := 28) rfl (by decide) mj_M_has (by decide) rfl (Nat.le_of_ble_eq_true rfl) (c_M_has) ?_
            refine hy_ib_ne (i := 29) (tt := 63) rfl (fun zc3 => ?_) (fun zc3 => ?_)
            · refine hy_iinc (i := 63) rfl rfl (by omega) ?_
              refine hy_goto (i := 64) (tt := 12) rfl ?_
              exact ih (k + 1) _ (by omega) (hF.up rfl) (mq_as_st (by omega) hi (by rw [if_pos hb]))
            · exact absurd (hb.symm.trans (by assumption)) (by decide)
      · by_cases hx : mf_mixed t k = true
        · obtain ⟨p1, p2⟩ := hpk.2 hx
          have v1 : hy_up t2 79 k 12 79 (t 60 k).toNat = mq_asR t s k (t 60 k).toNat := by
            simp only [hy_up]
            rw [if_neg (by omega)]
            exact hi _ (by omega)
          have v2 : hy_up t2 79 k 12 79 (t 61 k).toNat = mq_asR t s k (t 61 k).toNat := by
            simp only [hy_up]
            rw [if_neg (by omega)]
            exact hi _ (by omega)
          refine hy_iload (i := 12) rfl rfl ?_
          refine hy_const (i := 13) rfl (by decide) ?_
          refine hy_ic_ge (i := 14) (tt := 65) rfl (fun zc1 => ?_) (fun zc1 => ?_)
          · omega
          · refine hy_aload (i := 15) rfl rfl ?_
            refine hy_getr (i := 16) rfl rfl ?_
            refine hy_iload (i := 17) rfl rfl ?_
            refine hy_iload (i := 18) rfl rfl ?_
            refine hy_iload (i := 19) rfl rfl ?_
            refine hy_cS2e (i := 20) rfl (by decide) mj_M_has (by decide) rfl (Nat.le_of_ble_eq_true rfl) (c_M_has) ?_
            refine hy_ib_eq (i := 21) (tt := 24) rfl (fun zc2 => ?_) (fun zc2 => ?_)
            · refine hy_const (i := 24) rfl (by decide) ?_
              refine hy_iast (i := 25) rfl rfl (by omega) (k := k) (by omega) ?_
              refine hy_iload (i := 26) rfl rfl ?_
              refine hy_iload (i := 27) rfl rfl ?_
              refine hy_cS2e (i := 28) rfl (by decide) mj_M_has (by decide) rfl (Nat.le_of_ble_eq_true rfl) (c_M_has) ?_
              refine hy_ib_ne (i := 29) (tt := 63) rfl (fun zc3 => ?_) (fun zc3 => ?_)
              · exact absurd (by assumption) hb
              · refine hy_aload (i := 30) rfl rfl ?_
                refine hy_iload (i := 31) rfl rfl ?_
                refine hy_cV1e (i := 32) rfl mj_M_isMixed (by decide) rfl (Nat.le_of_ble_eq_true rfl) rfl rfl rfl (c_M_isMixed_as (t0 := t) (by exact e0) (by exact e6)) ?_
                refine hy_ib_ne (i := 33) (tt := 35) rfl (fun zc4 => ?_) (fun zc4 => ?_)
                · refine hy_aload (i := 35) rfl rfl ?_
                  refine hy_getr (i := 36) rfl rfl ?_
                  refine hy_iload (i := 37) rfl rfl ?_
                  refine hy_aload (i := 38) rfl rfl ?_
                  refine hy_getr (i := 39) rfl rfl ?_
                  refine hy_aload (i := 40) rfl rfl ?_
                  refine hy_getr (i := 41) rfl rfl ?_
                  refine hy_iload (i := 42) rfl rfl ?_
                  refine hy_iald (i := 43) rfl rfl (by omega) (k := k) (by omega) ?_
                  rw [hy_up_ne (by decide), g60]
                  refine hy_iald (i := 44) rfl rfl (by omega) rfl ?_
                  rw [v1]
                  refine hy_const (i := 45) rfl (by decide) ?_
                  refine hy_ic_eq (i := 46) (tt := 55) rfl (fun zc5 => ?_) (fun zc5 => ?_)
                  · refine hy_aload (i := 55) rfl rfl ?_
                    refine hy_getr (i := 56) rfl rfl ?_
                    refine hy_aload (i := 57) rfl rfl ?_
                    refine hy_getr (i := 58) rfl rfl ?_
                    refine hy_iload (i := 59) rfl rfl ?_
                    refine hy_iald (i := 60) rfl rfl (by omega) (k := k) (by omega) ?_
                    rw [hy_up_ne (by decide), g61]
                    refine hy_iald (i := 61) rfl rfl (by omega) rfl ?_
                    refine hy_iast (i := 62) rfl rfl (by omega) (k := k) (by omega) ?_
                    refine hy_iinc (i := 63) rfl rfl (by omega) ?_
                    refine hy_goto (i := 64) (tt := 12) rfl ?_
                    first | (rw [v2, hy_up_up]; exact ih (k + 1) _ (by omega) (hF.up rfl) (mq_as_st (by omega) hi (by rw [if_neg hb, if_pos hx, if_pos (by assumption)]))) | (rw [hy_up_up]; exact ih (k + 1) _ (by omega) (hF.up rfl) (mq_as_st (by omega) hi (by rw [if_neg hb, if_pos hx, if_neg (by assumption)])))
                  · refine hy_aload (i := 47) rfl rfl ?_
                    refine hy_getr (i := 48) rfl rfl ?_
                    refine hy_aload (i := 49) rfl rfl ?_
                    refine hy_getr (i := 50) rfl rfl ?_
                    refine hy_iload (i := 51) rfl rfl ?_
                    refine hy_iald (i := 52) rfl rfl (by omega) (k := k) (by omega) ?_
                    rw [hy_up_ne (by decide), g60]
                    refine hy_iald (i := 53) rfl rfl (by omega) rfl ?_
                    rw [v1]
                    refine hy_goto (i := 54) (tt := 62) rfl ?_
                    refine hy_iast (i := 62) rfl rfl (by omega) (k := k) (by omega) ?_
                    refine hy_iinc (i := 63) rfl rfl (by omega) ?_
                    refine hy_goto (i := 64) (tt := 12) rfl ?_
                    first | (rw [v2, hy_up_up]; exact ih (k + 1) _ (by omega) (hF.up rfl) (mq_as_st (by omega) hi (by rw [if_neg hb, if_pos hx, if_pos (by assumption)]))) | (rw [hy_up_up]; exact ih (k + 1) _ (by omega) (hF.up rfl) (mq_as_st (by omega) hi (by rw [if_neg hb, if_pos hx, if_neg (by assumption)])))
                · exact absurd (hx.symm.trans (by assumption)) (by decide)
            · exact absurd (by assumption) hb
        · skip
          refine hy_iload (i := 12) rfl rfl ?_
          refine hy_const (i := 13) rfl (by decide) ?_
          refine hy_ic_ge (i := 14) (tt := 65) rfl (fun zc1 => ?_) (fun zc1 => ?_)
          · omega
          · refine hy_aload (i := 15) rfl rfl ?_
            refine hy_getr (i := 16) rfl rfl ?_
            refine hy_iload (i := 17) rfl rfl ?_
            refine hy_iload (i := 18) rfl rfl ?_
            refine hy_iload (i := 19) rfl rfl ?_
            refine hy_cS2e (i := 20) rfl (by decide) mj_M_has (by decide) rfl (Nat.le_of_ble_eq_true rfl) (c_M_has) ?_
            refine hy_ib_eq (i := 21) (tt := 24) rfl (fun zc2 => ?_) (fun zc2 => ?_)
            · refine hy_const (i := 24) rfl (by decide) ?_
              refine hy_iast (i := 25) rfl rfl (by omega) (k := k) (by omega) ?_
              refine hy_iload (i := 26) rfl rfl ?_
              refine hy_iload (i := 27) rfl rfl ?_
              refine hy_cS2e (i := 28) rfl (by decide) mj_M_has (by decide) rfl (Nat.le_of_ble_eq_true rfl) (c_M_has) ?_
              refine hy_ib_ne (i := 29) (tt := 63) rfl (fun zc3 => ?_) (fun zc3 => ?_)
              · exact absurd (by assumption) hb
              · refine hy_aload (i := 30) rfl rfl ?_
                refine hy_iload (i := 31) rfl rfl ?_
                refine hy_cV1e (i := 32) rfl mj_M_isMixed (by decide) rfl (Nat.le_of_ble_eq_true rfl) rfl rfl rfl (c_M_isMixed_as (t0 := t) (by exact e0) (by exact e6)) ?_
                refine hy_ib_ne (i := 33) (tt := 35) rfl (fun zc4 => ?_) (fun zc4 => ?_)
                · exact absurd (by assumption) hx
                · refine hy_goto (i := 34) (tt := 63) rfl ?_
                  refine hy_iinc (i := 63) rfl rfl (by omega) ?_
                  refine hy_goto (i := 64) (tt := 12) rfl ?_
                  exact ih (k + 1) _ (by omega) (hF.up rfl) (mq_as_st (by omega) hi (by rw [if_neg hb, if_neg hx]))
            · exact absurd (by assumption) hb
  refine hy_aload (i := 0) rfl rfl ?_
  refine hy_iload (i := 1) rfl rfl ?_
  refine hy_iload (i := 2) rfl rfl ?_
  refine hy_cV2 (i := 3) rfl mj_M_seenBy (by decide) rfl (Nat.le_of_ble_eq_true rfl) rfl rfl rfl (c_M_seenBy (by assumption) (by omega)) (fun r1_ t1_ h1 => ?_)
  obtain ⟨rfl, hF1⟩ := h1
  dsimp only [hy_st, List.cons_append, List.nil_append]
  refine hy_istore (i := 4) rfl ?_
  refine hy_aload (i := 5) rfl rfl ?_
  refine hy_getr (i := 6) rfl rfl ?_
  refine hy_const (i := 7) rfl (by decide) ?_
  refine hy_const (i := 8) rfl (by decide) ?_
  refine hy_iast (i := 9) rfl rfl (by omega) (show _ = 12 from rfl) ?_
  refine hy_const (i := 10) rfl (by decide) ?_
  refine hy_istore (i := 11) rfl ?_
  exact loop _ rfl 12 0 _ rfl ((mv_me hF1).up rfl) (fun j hj => by obtain rfl : j = 12 := (by omega); rfl)
abbrev mq_ecq (t : hy_T) (e c q : Int) : Prop := (0 ≤ e ∧ e < 6) ∧ sp_told (t 59 0) c = true ∧ 0 ≤ q ∧ q < 4
theorem c_M_sees {e c q : Int} (hk : ml_ok t) : hy_Ct sc hm_M_sees 6 [.inr (some 59), .inl e, .inl c, .inl q] t (fun r t' => r = some (if mq_ecq t e c q then hy_b (hz_b (mq_seenN t e q 12) c) else -1) ∧ hy_F mvX t t') := by
  refine hy_mk_ct ok_M_sees ck_M_sees (Nat.le_of_ble_eq_true rfl) ?_
  by_cases hq : mq_ecq t e c q
  · rw [if_pos hq]
    refine hy_iload (i := 0) rfl rfl ?_
    refine hy_cS1e (i := 1) rfl (by decide) mj_M_isEmpire (by decide) rfl (Nat.le_of_ble_eq_true rfl) (c_M_isEmpire) ?_
    refine hy_ib_eq (i := 2) (tt := 10) rfl (fun zc1 => ?_) (fun zc1 => ?_)
    · simp only [decide_eq_false_iff_not] at zc1; omega
    · refine hy_aload (i := 3) rfl rfl ?_
      refine hy_iload (i := 4) rfl rfl ?_
      refine hy_cV1e (i := 5) rfl mj_M_isColour (by decide) rfl (Nat.le_of_ble_eq_true rfl) rfl rfl rfl (c_M_isColour) ?_
      refine hy_ib_eq (i := 6) (tt := 10) rfl (fun zc2 => ?_) (fun zc2 => ?_)
      · exact absurd (hq.2.1.symm.trans zc2) (by decide)
      · refine hy_iload (i := 7) rfl rfl ?_
        refine hy_cS1e (i := 8) rfl (by decide) mj_M_isQuarter (by decide) rfl (Nat.le_of_ble_eq_true rfl) (c_M_isQuarter) ?_
        refine hy_ib_ne (i := 9) (tt := 12) rfl (fun zc3 => ?_) (fun zc3 => ?_)
        · refine hy_aload (i := 12) rfl rfl ?_
          refine hy_iload (i := 13) rfl rfl ?_
          refine hy_iload (i := 14) rfl rfl ?_
          refine hy_cV2 (i := 15) rfl mj_M_seenBy (by decide) rfl (Nat.le_of_ble_eq_true rfl) rfl rfl rfl (c_M_seenBy (by assumption) (by omega)) (fun r4_ t4_ h4 => ?_)
          obtain ⟨rfl, hF4⟩ := h4
          dsimp only [hy_st, List.cons_append, List.nil_append]
          refine hy_iload (i := 16) rfl rfl ?_
          refine hy_cS2e (i := 17) rfl (by decide) mj_M_has (by decide) rfl (Nat.le_of_ble_eq_true rfl) (c_M_has) ?_
          refine hy_ib_eq (i := 18) (tt := 21) rfl (fun zc4 => ?_) (fun zc4 => ?_)
          · refine hy_const (i := 21) rfl (by decide) ?_
            refine hy_ireturn (i := 22) rfl rfl ?_
            exact ⟨congrArg some (by rw [show hz_b (mq_seenN t e q 12) c = _ by assumption]; rfl), hF4⟩
          · refine hy_const (i := 19) rfl (by decide) ?_
            refine hy_goto (i := 20) (tt := 22) rfl ?_
            refine hy_ireturn (i := 22) rfl rfl ?_
            exact ⟨congrArg some (by rw [show hz_b (mq_seenN t e q 12) c = _ by assumption]; rfl), hF4⟩
        · simp only [decide_eq_false_iff_not] at zc3; omega
  · rw [if_neg hq]
    refine hy_iload (i := 0) rfl rfl ?_
    refine hy_cS1e (i := 1) rfl (by decide) mj_M_isEmpire (by decide) rfl (Nat.le_of_ble_eq_true rfl) (c_M_isEmpire) ?_
    refine hy_ib_eq (i := 2) (tt := 10) rfl (fun zc1 => ?_) (fun zc1 => ?_)
    · refine hy_const (i := 10) rfl (by decide) ?_
      refine hy_ireturn (i := 11) rfl rfl ?_
      exact ⟨rfl, hy_F.rf⟩
    · refine hy_aload (i := 3) rfl rfl ?_
      refine hy_iload (i := 4) rfl rfl ?_
      refine hy_cV1e (i := 5) rfl mj_M_isColour (by decide) rfl (Nat.le_of_ble_eq_true rfl) rfl rfl rfl (c_M_isColour) ?_
      refine hy_ib_eq (i := 6) (tt := 10) rfl (fun zc2 => ?_) (fun zc2 => ?_)
      · refine hy_const (i := 10) rfl (by decide) ?_
        refine hy_ireturn (i := 11) rfl rfl ?_
        exact ⟨rfl, hy_F.rf⟩
      · refine hy_iload (i := 7) rfl rfl ?_
        refine hy_cS1e (i := 8) rfl (by decide) mj_M_isQuarter (by decide) rfl (Nat.le_of_ble_eq_true rfl) (c_M_isQuarter) ?_
        refine hy_ib_ne (i := 9) (tt := 12) rfl (fun zc3 => ?_) (fun zc3 => ?_)
        · exfalso; simp only [decide_eq_true_eq] at *; exact hq ⟨by assumption, by assumption, by assumption⟩
        · refine hy_const (i := 10) rfl (by decide) ?_
          refine hy_ireturn (i := 11) rfl rfl ?_
          exact ⟨rfl, hy_F.rf⟩
theorem c_M_appears {e c q : Int} (hk : ml_ok t) (hp : me_pal t) : hy_Ct sc hm_M_appears 7 [.inr (some 59), .inl e, .inl c, .inl q] t (fun r t' => r = some (if (0 ≤ e ∧ e < 6) ∧ (c = 12 ∨ sp_told (t 59 0) c = true) ∧ 0 ≤ q ∧ q < 4 then mq_as t e q c.toNat else -1) ∧ hy_F meX t t') := by
  refine hy_mk_ct ok_M_appears ck_M_appears (Nat.le_of_ble_eq_true rfl) ?_
  by_cases hq : (0 ≤ e ∧ e < 6) ∧ (c = 12 ∨ sp_told (t 59 0) c = true) ∧ 0 ≤ q ∧ q < 4
  · rw [if_pos hq]
    have hc : 0 ≤ c ∧ c ≤ 12 := by
      rcases hq.2.1 with h | h
      · omega
      · have := sp_told_in h; omega
    refine hy_iload (i := 0) rfl rfl ?_
    refine hy_cS1e (i := 1) rfl (by decide) mj_M_isEmpire (by decide) rfl (Nat.le_of_ble_eq_true rfl) (c_M_isEmpire) ?_
    refine hy_ib_eq (i := 2) (tt := 13) rfl (fun zc1 => ?_) (fun zc1 => ?_)
    · simp only [decide_eq_false_iff_not] at zc1; omega
    · refine hy_iload (i := 3) rfl rfl ?_
      refine hy_const (i := 4) rfl (by decide) ?_
      refine hy_ic_eq (i := 5) (tt := 10) rfl (fun zc2 => ?_) (fun zc2 => ?_)
      · refine hy_iload (i := 10) rfl rfl ?_
        refine hy_cS1e (i := 11) rfl (by decide) mj_M_isQuarter (by decide) rfl (Nat.le_of_ble_eq_true rfl) (c_M_isQuarter) ?_
        refine hy_ib_ne (i := 12) (tt := 15) rfl (fun zc3 => ?_) (fun zc3 => ?_)
        · refine hy_aload (i := 15) rfl rfl ?_
          refine hy_iload (i := 16) rfl rfl ?_
          refine hy_iload (i := 17) rfl rfl ?_
          refine hy_cV2 (i := 18) rfl mj_M_laysAs (by decide) rfl (Nat.le_of_ble_eq_true rfl) rfl rfl rfl (c_M_laysAs (by assumption) (by assumption) (by omega)) (fun r3_ t3_ h3 => ?_)
          obtain ⟨rfl, hF3, hA3⟩ := h3
          dsimp only [hy_st, List.nil_append]
          refine hy_aload (i := 19) rfl rfl ?_
          refine hy_getr (i := 20) rfl rfl ?_
          refine hy_iload (i := 21) rfl rfl ?_
          refine hy_iald (i := 22) rfl rfl (by omega) rfl ?_
          refine hy_ireturn (i := 23) rfl rfl ?_
          exact ⟨congrArg some ((show ∀ j : Nat, j ≤ 12 → _ = mq_as t e q j by assumption) _ (by omega)), by assumption⟩
        · simp only [decide_eq_false_iff_not] at *; omega
      · refine hy_aload (i := 6) rfl rfl ?_
        refine hy_iload (i := 7) rfl rfl ?_
        refine hy_cV1e (i := 8) rfl mj_M_isColour (by decide) rfl (Nat.le_of_ble_eq_true rfl) rfl rfl rfl (c_M_isColour) ?_
        refine hy_ib_eq (i := 9) (tt := 13) rfl (fun zc3 => ?_) (fun zc3 => ?_)
        · rcases hq.2.1 with h | h
          · omega
          · exact absurd (h.symm.trans zc3) (by decide)
        · refine hy_iload (i := 10) rfl rfl ?_
          refine hy_cS1e (i := 11) rfl (by decide) mj_M_isQuarter (by decide) rfl (Nat.le_of_ble_eq_true rfl) (c_M_isQuarter) ?_
          refine hy_ib_ne (i := 12) (tt := 15) rfl (fun zc4 => ?_) (fun zc4 => ?_)
          · refine hy_aload (i := 15) rfl rfl ?_
            refine hy_iload (i := 16) rfl rfl ?_
            refine hy_iload (i := 17) rfl rfl ?_
            refine hy_cV2 (i := 18) rfl mj_M_laysAs (by decide) rfl (Nat.le_of_ble_eq_true rfl) rfl rfl rfl (c_M_laysAs (by assumption) (by assumption) (by omega)) (fun r4_ t4_ h4 => ?_)
            obtain ⟨rfl, hF4, hA4⟩ := h4
            dsimp only [hy_st, List.nil_append]
            refine hy_aload (i := 19) rfl rfl ?_
            refine hy_getr (i := 20) rfl rfl ?_
            refine hy_iload (i := 21) rfl rfl ?_
            refine hy_iald (i := 22) rfl rfl (by omega) rfl ?_
            refine hy_ireturn (i := 23) rfl rfl ?_
            exact ⟨congrArg some ((show ∀ j : Nat, j ≤ 12 → _ = mq_as t e q j by assumption) _ (by omega)), by assumption⟩
          · simp only [decide_eq_false_iff_not] at *; omega
  · rw [if_neg hq]
    refine hy_iload (i := 0) rfl rfl ?_
    refine hy_cS1e (i := 1) rfl (by decide) mj_M_isEmpire (by decide) rfl (Nat.le_of_ble_eq_true rfl) (c_M_isEmpire) ?_
    refine hy_ib_eq (i := 2) (tt := 13) rfl (fun zc1 => ?_) (fun zc1 => ?_)
    · refine hy_const (i := 13) rfl (by decide) ?_
      refine hy_ireturn (i := 14) rfl rfl ?_
      exact ⟨rfl, hy_F.rf⟩
    · refine hy_iload (i := 3) rfl rfl ?_
      refine hy_const (i := 4) rfl (by decide) ?_
      refine hy_ic_eq (i := 5) (tt := 10) rfl (fun zc2 => ?_) (fun zc2 => ?_)
      · refine hy_iload (i := 10) rfl rfl ?_
        refine hy_cS1e (i := 11) rfl (by decide) mj_M_isQuarter (by decide) rfl (Nat.le_of_ble_eq_true rfl) (c_M_isQuarter) ?_
        refine hy_ib_ne (i := 12) (tt := 15) rfl (fun zc3 => ?_) (fun zc3 => ?_)
        · exfalso; simp only [decide_eq_true_eq] at *; first | exact hq ⟨by assumption, .inl (by assumption), by assumption⟩ | exact hq ⟨by assumption, .inr (by assumption), by assumption⟩
        · refine hy_const (i := 13) rfl (by decide) ?_
          refine hy_ireturn (i := 14) rfl rfl ?_
          exact ⟨rfl, hy_F.rf⟩
      · refine hy_aload (i := 6) rfl rfl ?_
        refine hy_iload (i := 7) rfl rfl ?_
        refine hy_cV1e (i := 8) rfl mj_M_isColour (by decide) rfl (Nat.le_of_ble_eq_true rfl) rfl rfl rfl (c_M_isColour) ?_
        refine hy_ib_eq (i := 9) (tt := 13) rfl (fun zc3 => ?_) (fun zc3 => ?_)
        · refine hy_const (i := 13) rfl (by decide) ?_
          refine hy_ireturn (i := 14) rfl rfl ?_
          exact ⟨rfl, hy_F.rf⟩
        · refine hy_iload (i := 10) rfl rfl ?_
          refine hy_cS1e (i := 11) rfl (by decide) mj_M_isQuarter (by decide) rfl (Nat.le_of_ble_eq_true rfl) (c_M_isQuarter) ?_
          refine hy_ib_ne (i := 12) (tt := 15) rfl (fun zc4 => ?_) (fun zc4 => ?_)
          · exfalso; simp only [decide_eq_true_eq] at *; first | exact hq ⟨by assumption, .inl (by assumption), by assumption⟩ | exact hq ⟨by assumption, .inr (by assumption), by assumption⟩
          · refine hy_const (i := 13) rfl (by decide) ?_
            refine hy_ireturn (i := 14) rfl rfl ?_
            exact ⟨rfl, hy_F.rf⟩
def mq_child (t : hy_T) (a b c q : Int) : Bool :=
  mb_holds t (mq_V t a c q (hy_b (hz_b (mq_seenN t a q 12) c)) (hy_b (hz_b (mq_seenN t b q 12) c)) 0 0) 107 (hz_b (mq_seenN t a q 12) c || hz_b (mq_seenN t b q 12) c)
theorem c_M_child {a b c q : Int} (hk : ml_ok t) : hy_Ct sc hm_M_child 6 [.inr (some 59), .inl a, .inl b, .inl c, .inl q] t (fun r t' => r = some (if (0 ≤ a ∧ a < 6) ∧ mq_ecq t b c q then hy_b (mq_child t a b c q) else -1) ∧ hy_F mvX t t') := by
  refine hy_mk_ct ok_M_child ck_M_child (Nat.le_of_ble_eq_true rfl) ?_
  by_cases hq : (0 ≤ a ∧ a < 6) ∧ mq_ecq t b c q
  · rw [if_pos hq]
    have hc := sp_told_in hq.2.2.1
    have hk1 : ∀ t1, hy_F mvX t t1 → ml_ok t1 := fun t1 h => ml_ok_F h (meq_law mvX_meq) hk
    have fin : ∀ (t2 t3 : hy_T), hy_F mvX t t2 → hy_F (fun r _ => r == 78) t2 t3 → (∀ j, j < 10 → t3 78 j = mq_V t2 a c q 0 0 0 0 j) → hy_W sc hm_M_child 6 34 [.inr (some 59), .inl a, .inl b, .inl c, .inl q, .inl (hy_b (hz_b (mq_seenN t a q 12) c)), .inl (hy_b (hz_b (mq_seenN t b q 12) c))] [] t3 (fun r t' => r = some (hy_b (mq_child t a b c q)) ∧ hy_F mvX t t') := by
      intro t2 t3 h2 h3 hV
      have hk3 := fun a b => ml_ok_F ((h3.up (r := 78) (j := 5) (v := a) rfl).up (r := 78) (j := 6) (v := b) rfl) (fun r j h => by revert h; simp [mlawX]; omega) (hk1 t2 h2)
      have ev : ∀ (x y : Int) (s : Bool), mb_holds (hy_up (hy_up t3 78 5 x) 78 6 y) ((hy_up (hy_up t3 78 5 x) 78 6 y) 78) 107 s = mb_holds t (mq_V t a c q x y 0 0) 107 s := fun x y s => by rw [mq_tell (hk1 t2 h2) h3 hV, mq_V_F h2 mvX_meq, mb_holds_F h2 (meq_law mvX_meq)]
      unfold mq_child
      generalize hz_b (mq_seenN t a q 12) c = x1
      generalize hz_b (mq_seenN t b q 12) c = x2
      refine hy_aload (i := 34) rfl rfl ?_
      refine hy_getr (i := 35) rfl rfl ?_
      refine hy_const (i := 36) rfl (by decide) ?_
      refine hy_iload (i := 37) rfl rfl ?_
      refine hy_ib_eq (i := 38) (tt := 41) rfl (fun zc1 => ?_) (fun zc1 => ?_)
      · refine hy_const (i := 41) rfl (by decide) ?_
        refine hy_iast (i := 42) rfl rfl (by omega) (show _ = 5 from rfl) ?_
        refine hy_aload (i := 43) rfl rfl ?_
        refine hy_getr (i := 44) rfl rfl ?_
        refine hy_const (i := 45) rfl (by decide) ?_
        refine hy_iload (i := 46) rfl rfl ?_
        refine hy_ib_eq (i := 47) (tt := 50) rfl (fun zc2 => ?_) (fun zc2 => ?_)
        · refine hy_const (i := 50) rfl (by decide) ?_
          refine hy_iast (i := 51) rfl rfl (by omega) (show _ = 6 from rfl) ?_
          refine hy_aload (i := 52) rfl rfl ?_
          refine hy_const (i := 53) rfl (by decide) ?_
          refine hy_iload (i := 54) rfl rfl ?_
          refine hy_ib_ne (i := 55) (tt := 58) rfl (fun zc3 => ?_) (fun zc3 => ?_)
          · refine hy_const (i := 58) rfl (by decide) ?_
            refine hy_goto (i := 59) (tt := 61) rfl ?_
            refine hy_cV2 (i := 61) rfl mj_M_holds (by decide) rfl (Nat.le_of_ble_eq_true rfl) rfl rfl rfl (c_M_holdsI (by first | exact .inr rfl | exact .inl rfl) (hk3 _ _)) (fun r1_ t1_ h1 => ?_)
            obtain ⟨rfl, hF1⟩ := h1
            dsimp only [hy_st, List.cons_append, List.nil_append]
            rw [ev]
            refine hy_ib_eq (i := 62) (tt := 65) rfl (fun zc4 => ?_) (fun zc4 => ?_)
            · refine hy_const (i := 65) rfl (by decide) ?_
              refine hy_ireturn (i := 66) rfl rfl ?_
              refine ⟨congrArg some ?_, h2.tr' ((mv_78 ((h3.up rfl).up rfl)).tr' (ml_mv (by assumption)))⟩
              first | exact bb_abs (p := x1) (by assumption) (by assumption) | exact bb_abs (p := x2) (by assumption) (by assumption) | (obtain rfl : x1 = true := (by assumption); obtain rfl : x2 = true := (by assumption); rw [show mb_holds t (mq_V t a c q (hy_b true) (hy_b true) 0 0) 107 (true || true) = _ by assumption]; rfl) | (obtain rfl : x1 = true := (by assumption); obtain rfl : x2 = false := (by assumption); rw [show mb_holds t (mq_V t a c q (hy_b true) (hy_b false) 0 0) 107 (true || false) = _ by assumption]; rfl) | (obtain rfl : x1 = false := (by assumption); obtain rfl : x2 = true := (by assumption); rw [show mb_holds t (mq_V t a c q (hy_b false) (hy_b true) 0 0) 107 (false || true) = _ by assumption]; rfl) | (obtain rfl : x1 = false := (by assumption); obtain rfl : x2 = false := (by assumption); rw [show mb_holds t (mq_V t a c q (hy_b false) (hy_b false) 0 0) 107 (false || false) = _ by assumption]; rfl)
            · refine hy_const (i := 63) rfl (by decide) ?_
              refine hy_goto (i := 64) (tt := 66) rfl ?_
              refine hy_ireturn (i := 66) rfl rfl ?_
              refine ⟨congrArg some ?_, h2.tr' ((mv_78 ((h3.up rfl).up rfl)).tr' (ml_mv (by assumption)))⟩
              first | exact bb_abs (p := x1) (by assumption) (by assumption) | exact bb_abs (p := x2) (by assumption) (by assumption) | (obtain rfl : x1 = true := (by assumption); obtain rfl : x2 = true := (by assumption); rw [show mb_holds t (mq_V t a c q (hy_b true) (hy_b true) 0 0) 107 (true || true) = _ by assumption]; rfl) | (obtain rfl : x1 = true := (by assumption); obtain rfl : x2 = false := (by assumption); rw [show mb_holds t (mq_V t a c q (hy_b true) (hy_b false) 0 0) 107 (true || false) = _ by assumption]; rfl) | (obtain rfl : x1 = false := (by assumption); obtain rfl : x2 = true := (by assumption); rw [show mb_holds t (mq_V t a c q (hy_b false) (hy_b true) 0 0) 107 (false || true) = _ by assumption]; rfl) | (obtain rfl : x1 = false := (by assumption); obtain rfl : x2 = false := (by assumption); rw [show mb_holds t (mq_V t a c q (hy_b false) (hy_b false) 0 0) 107 (false || false) = _ by assumption]; rfl)
          · refine hy_iload (i := 56) rfl rfl ?_
            refine hy_ib_eq (i := 57) (tt := 60) rfl (fun zc4 => ?_) (fun zc4 => ?_)
            · refine hy_const (i := 60) rfl (by decide) ?_
              refine hy_cV2 (i := 61) rfl mj_M_holds (by decide) rfl (Nat.le_of_ble_eq_true rfl) rfl rfl rfl (c_M_holdsI (by first | exact .inr rfl | exact .inl rfl) (hk3 _ _)) (fun r1_ t1_ h1 => ?_)
              obtain ⟨rfl, hF1⟩ := h1
              dsimp only [hy_st, List.cons_append, List.nil_append]
              rw [ev]
              refine hy_ib_eq (i := 62) (tt := 65) rfl (fun zc5 => ?_) (fun zc5 => ?_)
              · refine hy_const (i := 65) rfl (by decide) ?_
                refine hy_ireturn (i := 66) rfl rfl ?_
                refine ⟨congrArg some ?_, h2.tr' ((mv_78 ((h3.up rfl).up rfl)).tr' (ml_mv (by assumption)))⟩
                first | exact bb_abs (p := x1) (by assumption) (by assumption) | exact bb_abs (p := x2) (by assumption) (by assumption) | (obtain rfl : x1 = true := (by assumption); obtain rfl : x2 = true := (by assumption); rw [show mb_holds t (mq_V t a c q (hy_b true) (hy_b true) 0 0) 107 (true || true) = _ by assumption]; rfl) | (obtain rfl : x1 = true := (by assumption); obtain rfl : x2 = false := (by assumption); rw [show mb_holds t (mq_V t a c q (hy_b true) (hy_b false) 0 0) 107 (true || false) = _ by assumption]; rfl) | (obtain rfl : x1 = false := (by assumption); obtain rfl : x2 = true := (by assumption); rw [show mb_holds t (mq_V t a c q (hy_b false) (hy_b true) 0 0) 107 (false || true) = _ by assumption]; rfl) | (obtain rfl : x1 = false := (by assumption); obtain rfl : x2 = false := (by assumption); rw [show mb_holds t (mq_V t a c q (hy_b false) (hy_b false) 0 0) 107 (false || false) = _ by assumption]; rfl)
              · refine hy_const (i := 63) rfl (by decide) ?_
                refine hy_goto (i := 64) (tt := 66) rfl ?_
                refine hy_ireturn (i := 66) rfl rfl ?_
                refine ⟨congrArg some ?_, h2.tr' ((mv_78 ((h3.up rfl).up rfl)).tr' (ml_mv (by assumption)))⟩
                first | exact bb_abs (p := x1) (by assumption) (by assumption) | exact bb_abs (p := x2) (by assumption) (by assumption) | (obtain rfl : x1 = true := (by assumption); obtain rfl : x2 = true := (by assumption); rw [show mb_holds t (mq_V t a c q (hy_b true) (hy_b true) 0 0) 107 (true || true) = _ by assumption]; rfl) | (obtain rfl : x1 = true := (by assumption); obtain rfl : x2 = false := (by assumption); rw [show mb_holds t (mq_V t a c q (hy_b true) (hy_b false) 0 0) 107 (true || false) = _ by assumption]; rfl) | (obtain rfl : x1 = false := (by assumption); obtain rfl : x2 = true := (by assumption); rw [show mb_holds t (mq_V t a c q (hy_b false) (hy_b true) 0 0) 107 (false || true) = _ by assumption]; rfl) | (obtain rfl : x1 = false := (by assumption); obtain rfl : x2 = false := (by assumption); rw [show mb_holds t (mq_V t a c q (hy_b false) (hy_b false) 0 0) 107 (false || false) = _ by assumption]; rfl)
            · refine hy_const (i := 58) rfl (by decide) ?_
              refine hy_goto (i := 59) (tt := 61) rfl ?_
              refine hy_cV2 (i := 61) rfl mj_M_holds (by decide) rfl (Nat.le_of_ble_eq_true rfl) rfl rfl rfl (c_M_holdsI (by first | exact .inr rfl | exact .inl rfl) (hk3 _ _)) (fun r1_ t1_ h1 => ?_)
              obtain ⟨rfl, hF1⟩ := h1
              dsimp only [hy_st, List.cons_append, List.nil_append]
              rw [ev]
              refine hy_ib_eq (i := 62) (tt := 65) rfl (fun zc5 => ?_) (fun zc5 => ?_)
              · refine hy_const (i := 65) rfl (by decide) ?_
                refine hy_ireturn (i := 66) rfl rfl ?_
                refine ⟨congrArg some ?_, h2.tr' ((mv_78 ((h3.up rfl).up rfl)).tr' (ml_mv (by assumption)))⟩
                first | exact bb_abs (p := x1) (by assumption) (by assumption) | exact bb_abs (p := x2) (by assumption) (by assumption) | (obtain rfl : x1 = true := (by assumption); obtain rfl : x2 = true := (by assumption); rw [show mb_holds t (mq_V t a c q (hy_b true) (hy_b true) 0 0) 107 (true || true) = _ by assumption]; rfl) | (obtain rfl : x1 = true := (by assumption); obtain rfl : x2 = false := (by assumption); rw [show mb_holds t (mq_V t a c q (hy_b true) (hy_b false) 0 0) 107 (true || false) = _ by assumption]; rfl) | (obtain rfl : x1 = false := (by assumption); obtain rfl : x2 = true := (by assumption); rw [show mb_holds t (mq_V t a c q (hy_b false) (hy_b true) 0 0) 107 (false || true) = _ by assumption]; rfl) | (obtain rfl : x1 = false := (by assumption); obtain rfl : x2 = false := (by assumption); rw [show mb_holds t (mq_V t a c q (hy_b false) (hy_b false) 0 0) 107 (false || false) = _ by assumption]; rfl)
              · refine hy_const (i := 63) rfl (by decide) ?_
                refine hy_goto (i := 64) (tt := 66) rfl ?_
                refine hy_ireturn (i := 66) rfl rfl ?_
                refine ⟨congrArg some ?_, h2.tr' ((mv_78 ((h3.up rfl).up rfl)).tr' (ml_mv (by assumption)))⟩
                first | exact bb_abs (p := x1) (by assumption) (by assumption) | exact bb_abs (p := x2) (by assumption) (by assumption) | (obtain rfl : x1 = true := (by assumption); obtain rfl : x2 = true := (by assumption); rw [show mb_holds t (mq_V t a c q (hy_b true) (hy_b true) 0 0) 107 (true || true) = _ by assumption]; rfl) | (obtain rfl : x1 = true := (by assumption); obtain rfl : x2 = false := (by assumption); rw [show mb_holds t (mq_V t a c q (hy_b true) (hy_b false) 0 0) 107 (true || false) = _ by assumption]; rfl) | (obtain rfl : x1 = false := (by assumption); obtain rfl : x2 = true := (by assumption); rw [show mb_holds t (mq_V t a c q (hy_b false) (hy_b true) 0 0) 107 (false || true) = _ by assumption]; rfl) | (obtain rfl : x1 = false := (by assumption); obtain rfl : x2 = false := (by assumption); rw [show mb_holds t (mq_V t a c q (hy_b false) (hy_b false) 0 0) 107 (false || false) = _ by assumption]; rfl)
        · refine hy_const (i := 48) rfl (by decide) ?_
          refine hy_goto (i := 49) (tt := 51) rfl ?_
          refine hy_iast (i := 51) rfl rfl (by omega) (show _ = 6 from rfl) ?_
          refine hy_aload (i := 52) rfl rfl ?_
          refine hy_const (i := 53) rfl (by decide) ?_
          refine hy_iload (i := 54) rfl rfl ?_
          refine hy_ib_ne (i := 55) (tt := 58) rfl (fun zc3 => ?_) (fun zc3 => ?_)
          · refine hy_const (i := 58) rfl (by decide) ?_
            refine hy_goto (i := 59) (tt := 61) rfl ?_
            refine hy_cV2 (i := 61) rfl mj_M_holds (by decide) rfl (Nat.le_of_ble_eq_true rfl) rfl rfl rfl (c_M_holdsI (by first | exact .inr rfl | exact .inl rfl) (hk3 _ _)) (fun r1_ t1_ h1 => ?_)
            obtain ⟨rfl, hF1⟩ := h1
            dsimp only [hy_st, List.cons_append, List.nil_append]
            rw [ev]
            refine hy_ib_eq (i := 62) (tt := 65) rfl (fun zc4 => ?_) (fun zc4 => ?_)
            · refine hy_const (i := 65) rfl (by decide) ?_
              refine hy_ireturn (i := 66) rfl rfl ?_
              refine ⟨congrArg some ?_, h2.tr' ((mv_78 ((h3.up rfl).up rfl)).tr' (ml_mv (by assumption)))⟩
              first | exact bb_abs (p := x1) (by assumption) (by assumption) | exact bb_abs (p := x2) (by assumption) (by assumption) | (obtain rfl : x1 = true := (by assumption); obtain rfl : x2 = true := (by assumption); rw [show mb_holds t (mq_V t a c q (hy_b true) (hy_b true) 0 0) 107 (true || true) = _ by assumption]; rfl) | (obtain rfl : x1 = true := (by assumption); obtain rfl : x2 = false := (by assumption); rw [show mb_holds t (mq_V t a c q (hy_b true) (hy_b false) 0 0) 107 (true || false) = _ by assumption]; rfl) | (obtain rfl : x1 = false := (by assumption); obtain rfl : x2 = true := (by assumption); rw [show mb_holds t (mq_V t a c q (hy_b false) (hy_b true) 0 0) 107 (false || true) = _ by assumption]; rfl) | (obtain rfl : x1 = false := (by assumption); obtain rfl : x2 = false := (by assumption); rw [show mb_holds t (mq_V t a c q (hy_b false) (hy_b false) 0 0) 107 (false || false) = _ by assumption]; rfl)
            · refine hy_const (i := 63) rfl (by decide) ?_
              refine hy_goto (i := 64) (tt := 66) rfl ?_
              refine hy_ireturn (i := 66) rfl rfl ?_
              refine ⟨congrArg some ?_, h2.tr' ((mv_78 ((h3.up rfl).up rfl)).tr' (ml_mv (by assumption)))⟩
              first | exact bb_abs (p := x1) (by assumption) (by assumption) | exact bb_abs (p := x2) (by assumption) (by assumption) | (obtain rfl : x1 = true := (by assumption); obtain rfl : x2 = true := (by assumption); rw [show mb_holds t (mq_V t a c q (hy_b true) (hy_b true) 0 0) 107 (true || true) = _ by assumption]; rfl) | (obtain rfl : x1 = true := (by assumption); obtain rfl : x2 = false := (by assumption); rw [show mb_holds t (mq_V t a c q (hy_b true) (hy_b false) 0 0) 107 (true || false) = _ by assumption]; rfl) | (obtain rfl : x1 = false := (by assumption); obtain rfl : x2 = true := (by assumption); rw [show mb_holds t (mq_V t a c q (hy_b false) (hy_b true) 0 0) 107 (false || true) = _ by assumption]; rfl) | (obtain rfl : x1 = false := (by assumption); obtain rfl : x2 = false := (by assumption); rw [show mb_holds t (mq_V t a c q (hy_b false) (hy_b false) 0 0) 107 (false || false) = _ by assumption]; rfl)
          · refine hy_iload (i := 56) rfl rfl ?_
            refine hy_ib_eq (i := 57) (tt := 60) rfl (fun zc4 => ?_) (fun zc4 => ?_)
            · refine hy_const (i := 60) rfl (by decide) ?_
              refine hy_cV2 (i := 61) rfl mj_M_holds (by decide) rfl (Nat.le_of_ble_eq_true rfl) rfl rfl rfl (c_M_holdsI (by first | exact .inr rfl | exact .inl rfl) (hk3 _ _)) (fun r1_ t1_ h1 => ?_)
              obtain ⟨rfl, hF1⟩ := h1
              dsimp only [hy_st, List.cons_append, List.nil_append]
              rw [ev]
              refine hy_ib_eq (i := 62) (tt := 65) rfl (fun zc5 => ?_) (fun zc5 => ?_)
              · refine hy_const (i := 65) rfl (by decide) ?_
                refine hy_ireturn (i := 66) rfl rfl ?_
                refine ⟨congrArg some ?_, h2.tr' ((mv_78 ((h3.up rfl).up rfl)).tr' (ml_mv (by assumption)))⟩
                first | exact bb_abs (p := x1) (by assumption) (by assumption) | exact bb_abs (p := x2) (by assumption) (by assumption) | (obtain rfl : x1 = true := (by assumption); obtain rfl : x2 = true := (by assumption); rw [show mb_holds t (mq_V t a c q (hy_b true) (hy_b true) 0 0) 107 (true || true) = _ by assumption]; rfl) | (obtain rfl : x1 = true := (by assumption); obtain rfl : x2 = false := (by assumption); rw [show mb_holds t (mq_V t a c q (hy_b true) (hy_b false) 0 0) 107 (true || false) = _ by assumption]; rfl) | (obtain rfl : x1 = false := (by assumption); obtain rfl : x2 = true := (by assumption); rw [show mb_holds t (mq_V t a c q (hy_b false) (hy_b true) 0 0) 107 (false || true) = _ by assumption]; rfl) | (obtain rfl : x1 = false := (by assumption); obtain rfl : x2 = false := (by assumption); rw [show mb_holds t (mq_V t a c q (hy_b false) (hy_b false) 0 0) 107 (false || false) = _ by assumption]; rfl)
              · refine hy_const (i := 63) rfl (by decide) ?_
                refine hy_goto (i := 64) (tt := 66) rfl ?_
                refine hy_ireturn (i := 66) rfl rfl ?_
                refine ⟨congrArg some ?_, h2.tr' ((mv_78 ((h3.up rfl).up rfl)).tr' (ml_mv (by assumption)))⟩
                first | exact bb_abs (p := x1) (by assumption) (by assumption) | exact bb_abs (p := x2) (by assumption) (by assumption) | (obtain rfl : x1 = true := (by assumption); obtain rfl : x2 = true := (by assumption); rw [show mb_holds t (mq_V t a c q (hy_b true) (hy_b true) 0 0) 107 (true || true) = _ by assumption]; rfl) | (obtain rfl : x1 = true := (by assumption); obtain rfl : x2 = false := (by assumption); rw [show mb_holds t (mq_V t a c q (hy_b true) (hy_b false) 0 0) 107 (true || false) = _ by assumption]; rfl) | (obtain rfl : x1 = false := (by assumption); obtain rfl : x2 = true := (by assumption); rw [show mb_holds t (mq_V t a c q (hy_b false) (hy_b true) 0 0) 107 (false || true) = _ by assumption]; rfl) | (obtain rfl : x1 = false := (by assumption); obtain rfl : x2 = false := (by assumption); rw [show mb_holds t (mq_V t a c q (hy_b false) (hy_b false) 0 0) 107 (false || false) = _ by assumption]; rfl)
            · refine hy_const (i := 58) rfl (by decide) ?_
              refine hy_goto (i := 59) (tt := 61) rfl ?_
              refine hy_cV2 (i := 61) rfl mj_M_holds (by decide) rfl (Nat.le_of_ble_eq_true rfl) rfl rfl rfl (c_M_holdsI (by first | exact .inr rfl | exact .inl rfl) (hk3 _ _)) (fun r1_ t1_ h1 => ?_)
              obtain ⟨rfl, hF1⟩ := h1
              dsimp only [hy_st, List.cons_append, List.nil_append]
              rw [ev]
              refine hy_ib_eq (i := 62) (tt := 65) rfl (fun zc5 => ?_) (fun zc5 => ?_)
              · refine hy_const (i := 65) rfl (by decide) ?_
                refine hy_ireturn (i := 66) rfl rfl ?_
                refine ⟨congrArg some ?_, h2.tr' ((mv_78 ((h3.up rfl).up rfl)).tr' (ml_mv (by assumption)))⟩
                first | exact bb_abs (p := x1) (by assumption) (by assumption) | exact bb_abs (p := x2) (by assumption) (by assumption) | (obtain rfl : x1 = true := (by assumption); obtain rfl : x2 = true := (by assumption); rw [show mb_holds t (mq_V t a c q (hy_b true) (hy_b true) 0 0) 107 (true || true) = _ by assumption]; rfl) | (obtain rfl : x1 = true := (by assumption); obtain rfl : x2 = false := (by assumption); rw [show mb_holds t (mq_V t a c q (hy_b true) (hy_b false) 0 0) 107 (true || false) = _ by assumption]; rfl) | (obtain rfl : x1 = false := (by assumption); obtain rfl : x2 = true := (by assumption); rw [show mb_holds t (mq_V t a c q (hy_b false) (hy_b true) 0 0) 107 (false || true) = _ by assumption]; rfl) | (obtain rfl : x1 = false := (by assumption); obtain rfl : x2 = false := (by assumption); rw [show mb_holds t (mq_V t a c q (hy_b false) (hy_b false) 0 0) 107 (false || false) = _ by assumption]; rfl)
              · refine hy_const (i := 63) rfl (by decide) ?_
                refine hy_goto (i := 64) (tt := 66) rfl ?_
                refine hy_ireturn (i := 66) rfl rfl ?_
                refine ⟨congrArg some ?_, h2.tr' ((mv_78 ((h3.up rfl).up rfl)).tr' (ml_mv (by assumption)))⟩
                first | exact bb_abs (p := x1) (by assumption) (by assumption) | exact bb_abs (p := x2) (by assumption) (by assumption) | (obtain rfl : x1 = true := (by assumption); obtain rfl : x2 = true := (by assumption); rw [show mb_holds t (mq_V t a c q (hy_b true) (hy_b true) 0 0) 107 (true || true) = _ by assumption]; rfl) | (obtain rfl : x1 = true := (by assumption); obtain rfl : x2 = false := (by assumption); rw [show mb_holds t (mq_V t a c q (hy_b true) (hy_b false) 0 0) 107 (true || false) = _ by assumption]; rfl) | (obtain rfl : x1 = false := (by assumption); obtain rfl : x2 = true := (by assumption); rw [show mb_holds t (mq_V t a c q (hy_b false) (hy_b true) 0 0) 107 (false || true) = _ by assumption]; rfl) | (obtain rfl : x1 = false := (by assumption); obtain rfl : x2 = false := (by assumption); rw [show mb_holds t (mq_V t a c q (hy_b false) (hy_b false) 0 0) 107 (false || false) = _ by assumption]; rfl)
      · refine hy_const (i := 39) rfl (by decide) ?_
        refine hy_goto (i := 40) (tt := 42) rfl ?_
        refine hy_iast (i := 42) rfl rfl (by omega) (show _ = 5 from rfl) ?_
        refine hy_aload (i := 43) rfl rfl ?_
        refine hy_getr (i := 44) rfl rfl ?_
        refine hy_const (i := 45) rfl (by decide) ?_
        refine hy_iload (i := 46) rfl rfl ?_
        refine hy_ib_eq (i := 47) (tt := 50) rfl (fun zc2 => ?_) (fun zc2 => ?_)
        · refine hy_const (i := 50) rfl (by decide) ?_
          refine hy_iast (i := 51) rfl rfl (by omega) (show _ = 6 from rfl) ?_
          refine hy_aload (i := 52) rfl rfl ?_
          refine hy_const (i := 53) rfl (by decide) ?_
          refine hy_iload (i := 54) rfl rfl ?_
          refine hy_ib_ne (i := 55) (tt := 58) rfl (fun zc3 => ?_) (fun zc3 => ?_)
          · refine hy_const (i := 58) rfl (by decide) ?_
            refine hy_goto (i := 59) (tt := 61) rfl ?_
            refine hy_cV2 (i := 61) rfl mj_M_holds (by decide) rfl (Nat.le_of_ble_eq_true rfl) rfl rfl rfl (c_M_holdsI (by first | exact .inr rfl | exact .inl rfl) (hk3 _ _)) (fun r1_ t1_ h1 => ?_)
            obtain ⟨rfl, hF1⟩ := h1
            dsimp only [hy_st, List.cons_append, List.nil_append]
            rw [ev]
            refine hy_ib_eq (i := 62) (tt := 65) rfl (fun zc4 => ?_) (fun zc4 => ?_)
            · refine hy_const (i := 65) rfl (by decide) ?_
              refine hy_ireturn (i := 66) rfl rfl ?_
              refine ⟨congrArg some ?_, h2.tr' ((mv_78 ((h3.up rfl).up rfl)).tr' (ml_mv (by assumption)))⟩
              first | exact bb_abs (p := x1) (by assumption) (by assumption) | exact bb_abs (p := x2) (by assumption) (by assumption) | (obtain rfl : x1 = true := (by assumption); obtain rfl : x2 = true := (by assumption); rw [show mb_holds t (mq_V t a c q (hy_b true) (hy_b true) 0 0) 107 (true || true) = _ by assumption]; rfl) | (obtain rfl : x1 = true := (by assumption); obtain rfl : x2 = false := (by assumption); rw [show mb_holds t (mq_V t a c q (hy_b true) (hy_b false) 0 0) 107 (true || false) = _ by assumption]; rfl) | (obtain rfl : x1 = false := (by assumption); obtain rfl : x2 = true := (by assumption); rw [show mb_holds t (mq_V t a c q (hy_b false) (hy_b true) 0 0) 107 (false || true) = _ by assumption]; rfl) | (obtain rfl : x1 = false := (by assumption); obtain rfl : x2 = false := (by assumption); rw [show mb_holds t (mq_V t a c q (hy_b false) (hy_b false) 0 0) 107 (false || false) = _ by assumption]; rfl)
            · refine hy_const (i := 63) rfl (by decide) ?_
              refine hy_goto (i := 64) (tt := 66) rfl ?_
              refine hy_ireturn (i := 66) rfl rfl ?_
              refine ⟨congrArg some ?_, h2.tr' ((mv_78 ((h3.up rfl).up rfl)).tr' (ml_mv (by assumption)))⟩
              first | exact bb_abs (p := x1) (by assumption) (by assumption) | exact bb_abs (p := x2) (by assumption) (by assumption) | (obtain rfl : x1 = true := (by assumption); obtain rfl : x2 = true := (by assumption); rw [show mb_holds t (mq_V t a c q (hy_b true) (hy_b true) 0 0) 107 (true || true) = _ by assumption]; rfl) | (obtain rfl : x1 = true := (by assumption); obtain rfl : x2 = false := (by assumption); rw [show mb_holds t (mq_V t a c q (hy_b true) (hy_b false) 0 0) 107 (true || false) = _ by assumption]; rfl) | (obtain rfl : x1 = false := (by assumption); obtain rfl : x2 = true := (by assumption); rw [show mb_holds t (mq_V t a c q (hy_b false) (hy_b true) 0 0) 107 (false || true) = _ by assumption]; rfl) | (obtain rfl : x1 = false := (by assumption); obtain rfl : x2 = false := (by assumption); rw [show mb_holds t (mq_V t a c q (hy_b false) (hy_b false) 0 0) 107 (false || false) = _ by assumption]; rfl)
          · refine hy_iload (i := 56) rfl rfl ?_
            refine hy_ib_eq (i := 57) (tt := 60) rfl (fun zc4 => ?_) (fun zc4 => ?_)
            · refine hy_const (i := 60) rfl (by decide) ?_
              refine hy_cV2 (i := 61) rfl mj_M_holds (by decide) rfl (Nat.le_of_ble_eq_true rfl) rfl rfl rfl (c_M_holdsI (by first | exact .inr rfl | exact .inl rfl) (hk3 _ _)) (fun r1_ t1_ h1 => ?_)
              obtain ⟨rfl, hF1⟩ := h1
              dsimp only [hy_st, List.cons_append, List.nil_append]
              rw [ev]
              refine hy_ib_eq (i := 62) (tt := 65) rfl (fun zc5 => ?_) (fun zc5 => ?_)
              · refine hy_const (i := 65) rfl (by decide) ?_
                refine hy_ireturn (i := 66) rfl rfl ?_
                refine ⟨congrArg some ?_, h2.tr' ((mv_78 ((h3.up rfl).up rfl)).tr' (ml_mv (by assumption)))⟩
                first | exact bb_abs (p := x1) (by assumption) (by assumption) | exact bb_abs (p := x2) (by assumption) (by assumption) | (obtain rfl : x1 = true := (by assumption); obtain rfl : x2 = true := (by assumption); rw [show mb_holds t (mq_V t a c q (hy_b true) (hy_b true) 0 0) 107 (true || true) = _ by assumption]; rfl) | (obtain rfl : x1 = true := (by assumption); obtain rfl : x2 = false := (by assumption); rw [show mb_holds t (mq_V t a c q (hy_b true) (hy_b false) 0 0) 107 (true || false) = _ by assumption]; rfl) | (obtain rfl : x1 = false := (by assumption); obtain rfl : x2 = true := (by assumption); rw [show mb_holds t (mq_V t a c q (hy_b false) (hy_b true) 0 0) 107 (false || true) = _ by assumption]; rfl) | (obtain rfl : x1 = false := (by assumption); obtain rfl : x2 = false := (by assumption); rw [show mb_holds t (mq_V t a c q (hy_b false) (hy_b false) 0 0) 107 (false || false) = _ by assumption]; rfl)
              · refine hy_const (i := 63) rfl (by decide) ?_
                refine hy_goto (i := 64) (tt := 66) rfl ?_
                refine hy_ireturn (i := 66) rfl rfl ?_
                refine ⟨congrArg some ?_, h2.tr' ((mv_78 ((h3.up rfl).up rfl)).tr' (ml_mv (by assumption)))⟩
                first | exact bb_abs (p := x1) (by assumption) (by assumption) | exact bb_abs (p := x2) (by assumption) (by assumption) | (obtain rfl : x1 = true := (by assumption); obtain rfl : x2 = true := (by assumption); rw [show mb_holds t (mq_V t a c q (hy_b true) (hy_b true) 0 0) 107 (true || true) = _ by assumption]; rfl) | (obtain rfl : x1 = true := (by assumption); obtain rfl : x2 = false := (by assumption); rw [show mb_holds t (mq_V t a c q (hy_b true) (hy_b false) 0 0) 107 (true || false) = _ by assumption]; rfl) | (obtain rfl : x1 = false := (by assumption); obtain rfl : x2 = true := (by assumption); rw [show mb_holds t (mq_V t a c q (hy_b false) (hy_b true) 0 0) 107 (false || true) = _ by assumption]; rfl) | (obtain rfl : x1 = false := (by assumption); obtain rfl : x2 = false := (by assumption); rw [show mb_holds t (mq_V t a c q (hy_b false) (hy_b false) 0 0) 107 (false || false) = _ by assumption]; rfl)
            · refine hy_const (i := 58) rfl (by decide) ?_
              refine hy_goto (i := 59) (tt := 61) rfl ?_
              refine hy_cV2 (i := 61) rfl mj_M_holds (by decide) rfl (Nat.le_of_ble_eq_true rfl) rfl rfl rfl (c_M_holdsI (by first | exact .inr rfl | exact .inl rfl) (hk3 _ _)) (fun r1_ t1_ h1 => ?_)
              obtain ⟨rfl, hF1⟩ := h1
              dsimp only [hy_st, List.cons_append, List.nil_append]
              rw [ev]
              refine hy_ib_eq (i := 62) (tt := 65) rfl (fun zc5 => ?_) (fun zc5 => ?_)
              · refine hy_const (i := 65) rfl (by decide) ?_
                refine hy_ireturn (i := 66) rfl rfl ?_
                refine ⟨congrArg some ?_, h2.tr' ((mv_78 ((h3.up rfl).up rfl)).tr' (ml_mv (by assumption)))⟩
                first | exact bb_abs (p := x1) (by assumption) (by assumption) | exact bb_abs (p := x2) (by assumption) (by assumption) | (obtain rfl : x1 = true := (by assumption); obtain rfl : x2 = true := (by assumption); rw [show mb_holds t (mq_V t a c q (hy_b true) (hy_b true) 0 0) 107 (true || true) = _ by assumption]; rfl) | (obtain rfl : x1 = true := (by assumption); obtain rfl : x2 = false := (by assumption); rw [show mb_holds t (mq_V t a c q (hy_b true) (hy_b false) 0 0) 107 (true || false) = _ by assumption]; rfl) | (obtain rfl : x1 = false := (by assumption); obtain rfl : x2 = true := (by assumption); rw [show mb_holds t (mq_V t a c q (hy_b false) (hy_b true) 0 0) 107 (false || true) = _ by assumption]; rfl) | (obtain rfl : x1 = false := (by assumption); obtain rfl : x2 = false := (by assumption); rw [show mb_holds t (mq_V t a c q (hy_b false) (hy_b false) 0 0) 107 (false || false) = _ by assumption]; rfl)
              · refine hy_const (i := 63) rfl (by decide) ?_
                refine hy_goto (i := 64) (tt := 66) rfl ?_
                refine hy_ireturn (i := 66) rfl rfl ?_
                refine ⟨congrArg some ?_, h2.tr' ((mv_78 ((h3.up rfl).up rfl)).tr' (ml_mv (by assumption)))⟩
                first | exact bb_abs (p := x1) (by assumption) (by assumption) | exact bb_abs (p := x2) (by assumption) (by assumption) | (obtain rfl : x1 = true := (by assumption); obtain rfl : x2 = true := (by assumption); rw [show mb_holds t (mq_V t a c q (hy_b true) (hy_b true) 0 0) 107 (true || true) = _ by assumption]; rfl) | (obtain rfl : x1 = true := (by assumption); obtain rfl : x2 = false := (by assumption); rw [show mb_holds t (mq_V t a c q (hy_b true) (hy_b false) 0 0) 107 (true || false) = _ by assumption]; rfl) | (obtain rfl : x1 = false := (by assumption); obtain rfl : x2 = true := (by assumption); rw [show mb_holds t (mq_V t a c q (hy_b false) (hy_b true) 0 0) 107 (false || true) = _ by assumption]; rfl) | (obtain rfl : x1 = false := (by assumption); obtain rfl : x2 = false := (by assumption); rw [show mb_holds t (mq_V t a c q (hy_b false) (hy_b false) 0 0) 107 (false || false) = _ by assumption]; rfl)
        · refine hy_const (i := 48) rfl (by decide) ?_
          refine hy_goto (i := 49) (tt := 51) rfl ?_
          refine hy_iast (i := 51) rfl rfl (by omega) (show _ = 6 from rfl) ?_
          refine hy_aload (i := 52) rfl rfl ?_
          refine hy_const (i := 53) rfl (by decide) ?_
          refine hy_iload (i := 54) rfl rfl ?_
          refine hy_ib_ne (i := 55) (tt := 58) rfl (fun zc3 => ?_) (fun zc3 => ?_)
          · refine hy_const (i := 58) rfl (by decide) ?_
            refine hy_goto (i := 59) (tt := 61) rfl ?_
            refine hy_cV2 (i := 61) rfl mj_M_holds (by decide) rfl (Nat.le_of_ble_eq_true rfl) rfl rfl rfl (c_M_holdsI (by first | exact .inr rfl | exact .inl rfl) (hk3 _ _)) (fun r1_ t1_ h1 => ?_)
            obtain ⟨rfl, hF1⟩ := h1
            dsimp only [hy_st, List.cons_append, List.nil_append]
            rw [ev]
            refine hy_ib_eq (i := 62) (tt := 65) rfl (fun zc4 => ?_) (fun zc4 => ?_)
            · refine hy_const (i := 65) rfl (by decide) ?_
              refine hy_ireturn (i := 66) rfl rfl ?_
              refine ⟨congrArg some ?_, h2.tr' ((mv_78 ((h3.up rfl).up rfl)).tr' (ml_mv (by assumption)))⟩
              first | exact bb_abs (p := x1) (by assumption) (by assumption) | exact bb_abs (p := x2) (by assumption) (by assumption) | (obtain rfl : x1 = true := (by assumption); obtain rfl : x2 = true := (by assumption); rw [show mb_holds t (mq_V t a c q (hy_b true) (hy_b true) 0 0) 107 (true || true) = _ by assumption]; rfl) | (obtain rfl : x1 = true := (by assumption); obtain rfl : x2 = false := (by assumption); rw [show mb_holds t (mq_V t a c q (hy_b true) (hy_b false) 0 0) 107 (true || false) = _ by assumption]; rfl) | (obtain rfl : x1 = false := (by assumption); obtain rfl : x2 = true := (by assumption); rw [show mb_holds t (mq_V t a c q (hy_b false) (hy_b true) 0 0) 107 (false || true) = _ by assumption]; rfl) | (obtain rfl : x1 = false := (by assumption); obtain rfl : x2 = false := (by assumption); rw [show mb_holds t (mq_V t a c q (hy_b false) (hy_b false) 0 0) 107 (false || false) = _ by assumption]; rfl)
            · refine hy_const (i := 63) rfl (by decide) ?_
              refine hy_goto (i := 64) (tt := 66) rfl ?_
              refine hy_ireturn (i := 66) rfl rfl ?_
              refine ⟨congrArg some ?_, h2.tr' ((mv_78 ((h3.up rfl).up rfl)).tr' (ml_mv (by assumption)))⟩
              first | exact bb_abs (p := x1) (by assumption) (by assumption) | exact bb_abs (p := x2) (by assumption) (by assumption) | (obtain rfl : x1 = true := (by assumption); obtain rfl : x2 = true := (by assumption); rw [show mb_holds t (mq_V t a c q (hy_b true) (hy_b true) 0 0) 107 (true || true) = _ by assumption]; rfl) | (obtain rfl : x1 = true := (by assumption); obtain rfl : x2 = false := (by assumption); rw [show mb_holds t (mq_V t a c q (hy_b true) (hy_b false) 0 0) 107 (true || false) = _ by assumption]; rfl) | (obtain rfl : x1 = false := (by assumption); obtain rfl : x2 = true := (by assumption); rw [show mb_holds t (mq_V t a c q (hy_b false) (hy_b true) 0 0) 107 (false || true) = _ by assumption]; rfl) | (obtain rfl : x1 = false := (by assumption); obtain rfl : x2 = false := (by assumption); rw [show mb_holds t (mq_V t a c q (hy_b false) (hy_b false) 0 0) 107 (false || false) = _ by assumption]; rfl)
          · refine hy_iload (i := 56) rfl rfl ?_
            refine hy_ib_eq (i := 57) (tt := 60) rfl (fun zc4 => ?_) (fun zc4 => ?_)
            · refine hy_const (i := 60) rfl (by decide) ?_
              refine hy_cV2 (i := 61) rfl mj_M_holds (by decide) rfl (Nat.le_of_ble_eq_true rfl) rfl rfl rfl (c_M_holdsI (by first | exact .inr rfl | exact .inl rfl) (hk3 _ _)) (fun r1_ t1_ h1 => ?_)
              obtain ⟨rfl, hF1⟩ := h1
              dsimp only [hy_st, List.cons_append, List.nil_append]
              rw [ev]
              refine hy_ib_eq (i := 62) (tt := 65) rfl (fun zc5 => ?_) (fun zc5 => ?_)
              · refine hy_const (i := 65) rfl (by decide) ?_
                refine hy_ireturn (i := 66) rfl rfl ?_
                refine ⟨congrArg some ?_, h2.tr' ((mv_78 ((h3.up rfl).up rfl)).tr' (ml_mv (by assumption)))⟩
                first | exact bb_abs (p := x1) (by assumption) (by assumption) | exact bb_abs (p := x2) (by assumption) (by assumption) | (obtain rfl : x1 = true := (by assumption); obtain rfl : x2 = true := (by assumption); rw [show mb_holds t (mq_V t a c q (hy_b true) (hy_b true) 0 0) 107 (true || true) = _ by assumption]; rfl) | (obtain rfl : x1 = true := (by assumption); obtain rfl : x2 = false := (by assumption); rw [show mb_holds t (mq_V t a c q (hy_b true) (hy_b false) 0 0) 107 (true || false) = _ by assumption]; rfl) | (obtain rfl : x1 = false := (by assumption); obtain rfl : x2 = true := (by assumption); rw [show mb_holds t (mq_V t a c q (hy_b false) (hy_b true) 0 0) 107 (false || true) = _ by assumption]; rfl) | (obtain rfl : x1 = false := (by assumption); obtain rfl : x2 = false := (by assumption); rw [show mb_holds t (mq_V t a c q (hy_b false) (hy_b false) 0 0) 107 (false || false) = _ by assumption]; rfl)
              · refine hy_const (i := 63) rfl (by decide) ?_
                refine hy_goto (i := 64) (tt := 66) rfl ?_
                refine hy_ireturn (i := 66) rfl rfl ?_
                refine ⟨congrArg some ?_, h2.tr' ((mv_78 ((h3.up rfl).up rfl)).tr' (ml_mv (by assumption)))⟩
                first | exact bb_abs (p := x1) (by assumption) (by assumption) | exact bb_abs (p := x2) (by assumption) (by assumption) | (obtain rfl : x1 = true := (by assumption); obtain rfl : x2 = true := (by assumption); rw [show mb_holds t (mq_V t a c q (hy_b true) (hy_b true) 0 0) 107 (true || true) = _ by assumption]; rfl) | (obtain rfl : x1 = true := (by assumption); obtain rfl : x2 = false := (by assumption); rw [show mb_holds t (mq_V t a c q (hy_b true) (hy_b false) 0 0) 107 (true || false) = _ by assumption]; rfl) | (obtain rfl : x1 = false := (by assumption); obtain rfl : x2 = true := (by assumption); rw [show mb_holds t (mq_V t a c q (hy_b false) (hy_b true) 0 0) 107 (false || true) = _ by assumption]; rfl) | (obtain rfl : x1 = false := (by assumption); obtain rfl : x2 = false := (by assumption); rw [show mb_holds t (mq_V t a c q (hy_b false) (hy_b false) 0 0) 107 (false || false) = _ by assumption]; rfl)
            · refine hy_const (i := 58) rfl (by decide) ?_
              refine hy_goto (i := 59) (tt := 61) rfl ?_
              refine hy_cV2 (i := 61) rfl mj_M_holds (by decide) rfl (Nat.le_of_ble_eq_true rfl) rfl rfl rfl (c_M_holdsI (by first | exact .inr rfl | exact .inl rfl) (hk3 _ _)) (fun r1_ t1_ h1 => ?_)
              obtain ⟨rfl, hF1⟩ := h1
              dsimp only [hy_st, List.cons_append, List.nil_append]
              rw [ev]
              refine hy_ib_eq (i := 62) (tt := 65) rfl (fun zc5 => ?_) (fun zc5 => ?_)
              · refine hy_const (i := 65) rfl (by decide) ?_
                refine hy_ireturn (i := 66) rfl rfl ?_
                refine ⟨congrArg some ?_, h2.tr' ((mv_78 ((h3.up rfl).up rfl)).tr' (ml_mv (by assumption)))⟩
                first | exact bb_abs (p := x1) (by assumption) (by assumption) | exact bb_abs (p := x2) (by assumption) (by assumption) | (obtain rfl : x1 = true := (by assumption); obtain rfl : x2 = true := (by assumption); rw [show mb_holds t (mq_V t a c q (hy_b true) (hy_b true) 0 0) 107 (true || true) = _ by assumption]; rfl) | (obtain rfl : x1 = true := (by assumption); obtain rfl : x2 = false := (by assumption); rw [show mb_holds t (mq_V t a c q (hy_b true) (hy_b false) 0 0) 107 (true || false) = _ by assumption]; rfl) | (obtain rfl : x1 = false := (by assumption); obtain rfl : x2 = true := (by assumption); rw [show mb_holds t (mq_V t a c q (hy_b false) (hy_b true) 0 0) 107 (false || true) = _ by assumption]; rfl) | (obtain rfl : x1 = false := (by assumption); obtain rfl : x2 = false := (by assumption); rw [show mb_holds t (mq_V t a c q (hy_b false) (hy_b false) 0 0) 107 (false || false) = _ by assumption]; rfl)
              · refine hy_const (i := 63) rfl (by decide) ?_
                refine hy_goto (i := 64) (tt := 66) rfl ?_
                refine hy_ireturn (i := 66) rfl rfl ?_
                refine ⟨congrArg some ?_, h2.tr' ((mv_78 ((h3.up rfl).up rfl)).tr' (ml_mv (by assumption)))⟩
                first | exact bb_abs (p := x1) (by assumption) (by assumption) | exact bb_abs (p := x2) (by assumption) (by assumption) | (obtain rfl : x1 = true := (by assumption); obtain rfl : x2 = true := (by assumption); rw [show mb_holds t (mq_V t a c q (hy_b true) (hy_b true) 0 0) 107 (true || true) = _ by assumption]; rfl) | (obtain rfl : x1 = true := (by assumption); obtain rfl : x2 = false := (by assumption); rw [show mb_holds t (mq_V t a c q (hy_b true) (hy_b false) 0 0) 107 (true || false) = _ by assumption]; rfl) | (obtain rfl : x1 = false := (by assumption); obtain rfl : x2 = true := (by assumption); rw [show mb_holds t (mq_V t a c q (hy_b false) (hy_b true) 0 0) 107 (false || true) = _ by assumption]; rfl) | (obtain rfl : x1 = false := (by assumption); obtain rfl : x2 = false := (by assumption); rw [show mb_holds t (mq_V t a c q (hy_b false) (hy_b false) 0 0) 107 (false || false) = _ by assumption]; rfl)
    refine hy_iload (i := 0) rfl rfl ?_
    refine hy_cS1e (i := 1) rfl (by decide) mj_M_isEmpire (by decide) rfl (Nat.le_of_ble_eq_true rfl) (c_M_isEmpire) ?_
    refine hy_ib_eq (i := 2) (tt := 13) rfl (fun zc1 => ?_) (fun zc1 => ?_)
    · simp only [decide_eq_false_iff_not] at zc1; omega
    · refine hy_iload (i := 3) rfl rfl ?_
      refine hy_cS1e (i := 4) rfl (by decide) mj_M_isEmpire (by decide) rfl (Nat.le_of_ble_eq_true rfl) (c_M_isEmpire) ?_
      refine hy_ib_eq (i := 5) (tt := 13) rfl (fun zc2 => ?_) (fun zc2 => ?_)
      · simp only [decide_eq_false_iff_not] at zc2; omega
      · refine hy_aload (i := 6) rfl rfl ?_
        refine hy_iload (i := 7) rfl rfl ?_
        refine hy_cV1e (i := 8) rfl mj_M_isColour (by decide) rfl (Nat.le_of_ble_eq_true rfl) rfl rfl rfl (c_M_isColour) ?_
        refine hy_ib_eq (i := 9) (tt := 13) rfl (fun zc3 => ?_) (fun zc3 => ?_)
        · exact absurd (hq.2.2.1.symm.trans zc3) (by decide)
        · refine hy_iload (i := 10) rfl rfl ?_
          refine hy_cS1e (i := 11) rfl (by decide) mj_M_isQuarter (by decide) rfl (Nat.le_of_ble_eq_true rfl) (c_M_isQuarter) ?_
          refine hy_ib_ne (i := 12) (tt := 15) rfl (fun zc4 => ?_) (fun zc4 => ?_)
          · refine hy_aload (i := 15) rfl rfl ?_
            refine hy_iload (i := 16) rfl rfl ?_
            refine hy_iload (i := 17) rfl rfl ?_
            refine hy_cV2 (i := 18) rfl mj_M_seenBy (by decide) rfl (Nat.le_of_ble_eq_true rfl) rfl rfl rfl (c_M_seenBy (by assumption) (by omega)) (fun r5_ t5_ h5 => ?_)
            obtain ⟨rfl, hF5⟩ := h5
            dsimp only [hy_st, List.cons_append, List.nil_append]
            refine hy_iload (i := 19) rfl rfl ?_
            refine hy_cS2e (i := 20) rfl (by decide) mj_M_has (by decide) rfl (Nat.le_of_ble_eq_true rfl) (c_M_has) ?_
            refine hy_istore (i := 21) rfl ?_
            refine hy_aload (i := 22) rfl rfl ?_
            refine hy_iload (i := 23) rfl rfl ?_
            refine hy_iload (i := 24) rfl rfl ?_
            refine hy_cV2 (i := 25) rfl mj_M_seenBy (by decide) rfl (Nat.le_of_ble_eq_true rfl) rfl rfl rfl (c_M_seenBy (hk1 _ hF5) (by omega)) (fun r7_ t7_ h7 => ?_)
            obtain ⟨rfl, hF7⟩ := h7
            dsimp only [hy_st, List.cons_append, List.nil_append]
            rw [mq_seenN_F hF5 mvX_meq]
            refine hy_iload (i := 26) rfl rfl ?_
            refine hy_cS2e (i := 27) rfl (by decide) mj_M_has (by decide) rfl (Nat.le_of_ble_eq_true rfl) (c_M_has) ?_
            refine hy_istore (i := 28) rfl ?_
            refine hy_aload (i := 29) rfl rfl ?_
            refine hy_iload (i := 30) rfl rfl ?_
            refine hy_iload (i := 31) rfl rfl ?_
            refine hy_iload (i := 32) rfl rfl ?_
            refine hy_cV3 (i := 33) rfl mj_M_feels (by decide) rfl (Nat.le_of_ble_eq_true rfl) rfl rfl rfl (c_M_feels (by omega) (by omega)) (fun r9_ t9_ h9 => ?_)
            obtain ⟨rfl, hF9, hV9⟩ := h9
            dsimp only [hy_st, List.nil_append]
            exact fin _ _ (hF5.tr' hF7) (by assumption) (by assumption)
          · simp only [decide_eq_false_iff_not] at zc4; omega
  · rw [if_neg hq]
    refine hy_iload (i := 0) rfl rfl ?_
    refine hy_cS1e (i := 1) rfl (by decide) mj_M_isEmpire (by decide) rfl (Nat.le_of_ble_eq_true rfl) (c_M_isEmpire) ?_
    refine hy_ib_eq (i := 2) (tt := 13) rfl (fun zc1 => ?_) (fun zc1 => ?_)
    · refine hy_const (i := 13) rfl (by decide) ?_
      refine hy_ireturn (i := 14) rfl rfl ?_
      exact ⟨rfl, hy_F.rf⟩
    · refine hy_iload (i := 3) rfl rfl ?_
      refine hy_cS1e (i := 4) rfl (by decide) mj_M_isEmpire (by decide) rfl (Nat.le_of_ble_eq_true rfl) (c_M_isEmpire) ?_
      refine hy_ib_eq (i := 5) (tt := 13) rfl (fun zc2 => ?_) (fun zc2 => ?_)
      · refine hy_const (i := 13) rfl (by decide) ?_
        refine hy_ireturn (i := 14) rfl rfl ?_
        exact ⟨rfl, hy_F.rf⟩
      · refine hy_aload (i := 6) rfl rfl ?_
        refine hy_iload (i := 7) rfl rfl ?_
        refine hy_cV1e (i := 8) rfl mj_M_isColour (by decide) rfl (Nat.le_of_ble_eq_true rfl) rfl rfl rfl (c_M_isColour) ?_
        refine hy_ib_eq (i := 9) (tt := 13) rfl (fun zc3 => ?_) (fun zc3 => ?_)
        · refine hy_const (i := 13) rfl (by decide) ?_
          refine hy_ireturn (i := 14) rfl rfl ?_
          exact ⟨rfl, hy_F.rf⟩
        · refine hy_iload (i := 10) rfl rfl ?_
          refine hy_cS1e (i := 11) rfl (by decide) mj_M_isQuarter (by decide) rfl (Nat.le_of_ble_eq_true rfl) (c_M_isQuarter) ?_
          refine hy_ib_ne (i := 12) (tt := 15) rfl (fun zc4 => ?_) (fun zc4 => ?_)
          · exfalso; simp only [decide_eq_true_eq] at *; exact hq ⟨by assumption, by assumption, by assumption, by assumption⟩
          · refine hy_const (i := 13) rfl (by decide) ?_
            refine hy_ireturn (i := 14) rfl rfl ?_
            exact ⟨rfl, hy_F.rf⟩
end MQ
/-! the model: unseen, paintings, worth, gain -/
def mo_ownN (t : hy_T) (e c : Int) : Nat → Int
  | 0 => 0
  | n + 1 => mo_ownN t e c n + (if t 64 n = e ∧ t 63 n = c then 1 else 0)
theorem mo_ownN_in (t : hy_T) (e c : Int) : ∀ n : Nat, 0 ≤ mo_ownN t e c n ∧ mo_ownN t e c n ≤ n
  | 0 => by simp [mo_ownN]
  | n + 1 => by
    have h := mo_ownN_in t e c n
    simp only [mo_ownN]
    split <;> omega
def mw_one (t : hy_T) (e q s : Int) (n : Nat) : Int := if hz_b s n = true then mo_ownN t e n 64 else 0
def mw_worthN (t : hy_T) (e q s : Int) : Nat → Int
  | 0 => 0
  | n + 1 => mw_worthN t e q s n + (if mw_one t e q s n = 0 then 0 else mw_one t e q s n * mb_amt t (mq_V t e n q 0 0 (mw_one t e q s n) 0) 118 99)
def mw_worth (t : hy_T) (e q : Int) : Int := mw_worthN t e q (mq_seenN t e q 12) 12
theorem mw_one_in (t : hy_T) (e q s : Int) (n : Nat) : 0 ≤ mw_one t e q s n ∧ mw_one t e q s n ≤ 64 := by
  unfold mw_one
  split
  · exact mo_ownN_in t e n 64
  · decide
theorem mw_term (t : hy_T) (e q s : Int) (n : Nat) : 0 ≤ mw_one t e q s n * mb_amt t (mq_V t e n q 0 0 (mw_one t e q s n) 0) 118 99 ∧ mw_one t e q s n * mb_amt t (mq_V t e n q 0 0 (mw_one t e q s n) 0) 118 99 ≤ 6336 := by
  have h1 := mw_one_in t e q s n
  have h2 := mb_amt_in t (mq_V t e n q 0 0 (mw_one t e q s n) 0) 118 (m := 99) (by decide)
  refine ⟨Int.mul_nonneg h1.1 h2.1, ?_⟩
  have := Int.mul_le_mul h1.2 h2.2 h2.1 (by decide)
  omega
theorem mw_worthN_in (t : hy_T) (e q s : Int) : ∀ n : Nat, 0 ≤ mw_worthN t e q s n ∧ mw_worthN t e q s n ≤ 6336 * n
  | 0 => by simp [mw_worthN]
  | n + 1 => by
    have h := mw_worthN_in t e q s n
    have h2 := mw_term t e q s n
    simp only [mw_worthN]
    split <;> omega
theorem mw_worth_in (t : hy_T) (e q : Int) : 0 ≤ mw_worth t e q ∧ mw_worth t e q ≤ 76032 := mw_worthN_in t e q _ 12
/-- worth rests on these -/
abbrev mwX : Nat → Nat → Bool := fun r j => meqX r j || r == 63 || r == 64
theorem mwX_meq {X : Nat → Nat → Bool} (hX : ∀ r j, mwX r j = true → X r j = false) : ∀ r j, meqX r j = true → X r j = false := fun r j h => hX r j (by simp only [mwX, h, Bool.true_or])
theorem mo_ownN_F {X : Nat → Nat → Bool} {t t1 : hy_T} (h : hy_F X t t1) (hX : ∀ r j, mwX r j = true → X r j = false) (e c : Int) : ∀ n, mo_ownN t1 e c n = mo_ownN t e c n
  | 0 => rfl
  | n + 1 => by simp only [mo_ownN, mo_ownN_F h hX e c n, h 63 n (hX 63 n (by simp [mwX])), h 64 n (hX 64 n (by simp [mwX]))]
theorem mw_one_F {X : Nat → Nat → Bool} {t t1 : hy_T} (h : hy_F X t t1) (hX : ∀ r j, mwX r j = true → X r j = false) (e q s : Int) (n : Nat) : mw_one t1 e q s n = mw_one t e q s n := by
  unfold mw_one
  rw [mo_ownN_F h hX]
theorem mw_worthN_F {X : Nat → Nat → Bool} {t t1 : hy_T} (h : hy_F X t t1) (hX : ∀ r j, mwX r j = true → X r j = false) (e q s : Int) : ∀ n, mw_worthN t1 e q s n = mw_worthN t e q s n
  | 0 => rfl
  | n + 1 => by simp only [mw_worthN, mw_worthN_F h hX e q s n, mw_one_F h hX, mq_V_F h (mwX_meq hX), mb_amt_F h (meq_law (mwX_meq hX))]
theorem mw_worth_F {X : Nat → Nat → Bool} {t t1 : hy_T} (h : hy_F X t t1) (hX : ∀ r j, mwX r j = true → X r j = false) (e q : Int) : mw_worth t1 e q = mw_worth t e q := by
  unfold mw_worth
  rw [mq_seenN_F h (mwX_meq hX), mw_worthN_F h hX]
theorem mvX_mw : ∀ r j, mwX r j = true → mvX r j = false := fun r j h => by revert h; simp [mwX, meqX, mlawX, mvX]; omega
abbrev mg_ok (t : hy_T) : Prop := ∀ f : Nat, f < 64 → 0 ≤ t 63 f ∧ t 63 f ≤ 12
def mq_ptN (t : hy_T) (cs : Int) : Nat → Int × Int
  | 0 => (0, -1)
  | n + 1 => if hz_iand cs (hz_ixor (mq_seenN t ((n : Int) / 4) ((n : Int) % 4) 12) (-1)) = 0 then ((mq_ptN t cs n).1 + 1, if (mq_ptN t cs n).2 = -1 then (n : Int) else (mq_ptN t cs n).2) else mq_ptN t cs n
theorem mq_ptN_in (t : hy_T) (cs : Int) : ∀ n : Nat, (0 ≤ (mq_ptN t cs n).1 ∧ (mq_ptN t cs n).1 ≤ n) ∧ -1 ≤ (mq_ptN t cs n).2 ∧ (mq_ptN t cs n).2 ≤ n
  | 0 => by simp [mq_ptN]
  | n + 1 => by
    have h := mq_ptN_in t cs n
    simp only [mq_ptN]
    split
    · dsimp only
      split <;> omega
    · omega
def mq_ptA (p : Int × Int) (w : Int) : Int := if w = 0 then p.1 else if p.2 = -1 then -2 else if w = 1 then p.2 / 4 else p.2 % 4
section MW
variable {sc : List Int32} {t : hy_T}
theorem c_M_isUnseen {f u : Int} (hf : 0 ≤ f ∧ f < 64) (hu : 0 ≤ u ∧ u < 13) (hg : 0 ≤ t 63 f.toNat ∧ t 63 f.toNat ≤ 12) : hy_Ct sc hm_M_isUnseen 0 [.inr (some 59), .inl f, .inl u] t (hy_e (some (hy_b (decide (t 79 (t 63 f.toNat).toNat = t 79 u.toNat)))) t) := by
  refine hy_mk_ct ok_M_isUnseen ck_M_isUnseen (Nat.le_of_ble_eq_true rfl) ?_
  refine hy_aload (i := 0) rfl rfl ?_
  refine hy_getr (i := 1) rfl rfl ?_
  refine hy_aload (i := 2) rfl rfl ?_
  refine hy_getr (i := 3) rfl rfl ?_
  refine hy_iload (i := 4) rfl rfl ?_
  refine hy_iald (i := 5) rfl rfl (by omega) rfl ?_
  refine hy_iald (i := 6) rfl rfl (by omega) rfl ?_
  refine hy_aload (i := 7) rfl rfl ?_
  refine hy_getr (i := 8) rfl rfl ?_
  refine hy_iload (i := 9) rfl rfl ?_
  refine hy_iald (i := 10) rfl rfl (by omega) rfl ?_
  refine hy_ic_ne (i := 11) (tt := 14) rfl (fun zc1 => ?_) (fun zc1 => ?_)
  · refine hy_const (i := 14) rfl (by decide) ?_
    refine hy_zreturn (i := 15) rfl rfl (by first | decide | exact hy_b01 _) ?_
    exact ⟨congrArg some (by first | (rw [decide_eq_true (by assumption)]; rfl) | (rw [decide_eq_false (by assumption)]; rfl)), rfl⟩
  · refine hy_const (i := 12) rfl (by decide) ?_
    refine hy_goto (i := 13) (tt := 15) rfl ?_
    refine hy_zreturn (i := 15) rfl rfl (by first | decide | exact hy_b01 _) ?_
    exact ⟨congrArg some (by first | (rw [decide_eq_true (by assumption)]; rfl) | (rw [decide_eq_false (by assumption)]; rfl)), rfl⟩
theorem c_M_unseen {x y u e q : Int} (hk : ml_ok t) (hp : me_pal t) (hg : mg_ok t) : hy_Ct sc hm_M_unseen 7 [.inr (some 59), .inl x, .inl y, .inl u, .inl e, .inl q] t (fun r t' => r = some (if ((0 ≤ x ∧ x < 8) ∧ 0 ≤ y ∧ y < 8) ∧ mq_ecq t e u q then hy_b (decide (mq_as t e q (t 63 (8 * y + x).toNat).toNat = mq_as t e q u.toNat)) else -1) ∧ hy_F meX t t') := by
  refine hy_mk_ct ok_M_unseen ck_M_unseen (Nat.le_of_ble_eq_true rfl) ?_
  by_cases hq : ((0 ≤ x ∧ x < 8) ∧ 0 ≤ y ∧ y < 8) ∧ mq_ecq t e u q
  · rw [if_pos hq]
    have hc := sp_told_in hq.2.2.1
    have hgf := hg (8 * y + x).toNat (by omega)
    refine hy_iload (i := 0) rfl rfl ?_
    refine hy_const (i := 1) rfl (by decide) ?_
    refine hy_const (i := 2) rfl (by decide) ?_
    refine hy_cS3e (i := 3) rfl (by decide) mj_M_in (by decide) rfl (Nat.le_of_ble_eq_true rfl) (c_M_in) ?_
    refine hy_ib_eq (i := 4) (tt := 20) rfl (fun zc1 => ?_) (fun zc1 => ?_)
    · simp only [decide_eq_false_iff_not] at zc1; omega
    · refine hy_iload (i := 5) rfl rfl ?_
      refine hy_const (i := 6) rfl (by decide) ?_
      refine hy_const (i := 7) rfl (by decide) ?_
      refine hy_cS3e (i := 8) rfl (by decide) mj_M_in (by decide) rfl (Nat.le_of_ble_eq_true rfl) (c_M_in) ?_
      refine hy_ib_eq (i := 9) (tt := 20) rfl (fun zc2 => ?_) (fun zc2 => ?_)
      · simp only [decide_eq_false_iff_not] at zc2; omega
      · refine hy_aload (i := 10) rfl rfl ?_
        refine hy_iload (i := 11) rfl rfl ?_
        refine hy_cV1e (i := 12) rfl mj_M_isColour (by decide) rfl (Nat.le_of_ble_eq_true rfl) rfl rfl rfl (c_M_isColour) ?_
        refine hy_ib_eq (i := 13) (tt := 20) rfl (fun zc3 => ?_) (fun zc3 => ?_)
        · exact absurd (hq.2.2.1.symm.trans zc3) (by decide)
        · refine hy_iload (i := 14) rfl rfl ?_
          refine hy_cS1e (i := 15) rfl (by decide) mj_M_isEmpire (by decide) rfl (Nat.le_of_ble_eq_true rfl) (c_M_isEmpire) ?_
          refine hy_ib_eq (i := 16) (tt := 20) rfl (fun zc4 => ?_) (fun zc4 => ?_)
          · simp only [decide_eq_false_iff_not] at zc4; omega
          · refine hy_iload (i := 17) rfl rfl ?_
            refine hy_cS1e (i := 18) rfl (by decide) mj_M_isQuarter (by decide) rfl (Nat.le_of_ble_eq_true rfl) (c_M_isQuarter) ?_
            refine hy_ib_ne (i := 19) (tt := 22) rfl (fun zc5 => ?_) (fun zc5 => ?_)
            · refine hy_aload (i := 22) rfl rfl ?_
              refine hy_iload (i := 23) rfl rfl ?_
              refine hy_iload (i := 24) rfl rfl ?_
              refine hy_cV2 (i := 25) rfl mj_M_laysAs (by decide) rfl (Nat.le_of_ble_eq_true rfl) rfl rfl rfl (c_M_laysAs (by assumption) (by assumption) (by omega)) (fun r6_ t6_ h6 => ?_)
              obtain ⟨rfl, hF6, hA6⟩ := h6
              dsimp only [hy_st, List.nil_append]
              have g63 : t6_ 63 (8 * y + x).toNat = t 63 (8 * y + x).toNat := hF6 63 _ rfl
              have hg6 : 0 ≤ t6_ 63 (8 * y + x).toNat ∧ t6_ 63 (8 * y + x).toNat ≤ 12 := by rw [g63]; exact hgf
              refine hy_aload (i := 26) rfl rfl ?_
              refine hy_const (i := 27) rfl (by decide) ?_
              refine hy_iload (i := 28) rfl rfl ?_
              refine hy_imul (i := 29) rfl (by omega) ?_
              refine hy_iload (i := 30) rfl rfl ?_
              refine hy_iadd (i := 31) rfl (by omega) ?_
              refine hy_iload (i := 32) rfl rfl ?_
              refine hy_cV2e (i := 33) rfl mj_M_isUnseen (by decide) rfl (Nat.le_of_ble_eq_true rfl) rfl rfl rfl (c_M_isUnseen (by omega) (by omega) (by first | assumption | omega)) ?_
              refine hy_ib_eq (i := 34) (tt := 37) rfl (fun zc6 => ?_) (fun zc6 => ?_)
              · refine hy_const (i := 37) rfl (by decide) ?_
                refine hy_ireturn (i := 38) rfl rfl ?_
                first | (have q1 := of_decide_eq_true (show decide (_ = _) = true by assumption); rw [g63, hA6 _ (by omega), hA6 _ (by omega)] at q1; exact ⟨congrArg some (by rw [decide_eq_true q1]; rfl), hF6⟩) | (have q1 := of_decide_eq_false (show decide (_ = _) = false by assumption); rw [g63, hA6 _ (by omega), hA6 _ (by omega)] at q1; exact ⟨congrArg some (by rw [decide_eq_false q1]; rfl), hF6⟩)
              · refine hy_const (i := 35) rfl (by decide) ?_
                refine hy_goto (i := 36) (tt := 38) rfl ?_
                refine hy_ireturn (i := 38) rfl rfl ?_
                first | (have q1 := of_decide_eq_true (show decide (_ = _) = true by assumption); rw [g63, hA6 _ (by omega), hA6 _ (by omega)] at q1; exact ⟨congrArg some (by rw [decide_eq_true q1]; rfl), hF6⟩) | (have q1 := of_decide_eq_false (show decide (_ = _) = false by assumption); rw [g63, hA6 _ (by omega), hA6 _ (by omega)] at q1; exact ⟨congrArg some (by rw [decide_eq_false q1]; rfl), hF6⟩)
            · simp only [decide_eq_false_iff_not] at zc5; omega
  · rw [if_neg hq]
    refine hy_iload (i := 0) rfl rfl ?_
    refine hy_const (i := 1) rfl (by decide) ?_
    refine hy_const (i := 2) rfl (by decide) ?_
    refine hy_cS3e (i := 3) rfl (by decide) mj_M_in (by decide) rfl (Nat.le_of_ble_eq_true rfl) (c_M_in) ?_
    refine hy_ib_eq (i := 4) (tt := 20) rfl (fun zc1 => ?_) (fun zc1 => ?_)
    · refine hy_const (i := 20) rfl (by decide) ?_
      refine hy_ireturn (i := 21) rfl rfl ?_
      exact ⟨rfl, hy_F.rf⟩
    · refine hy_iload (i := 5) rfl rfl ?_
      refine hy_const (i := 6) rfl (by decide) ?_
      refine hy_const (i := 7) rfl (by decide) ?_
      refine hy_cS3e (i := 8) rfl (by decide) mj_M_in (by decide) rfl (Nat.le_of_ble_eq_true rfl) (c_M_in) ?_
      refine hy_ib_eq (i := 9) (tt := 20) rfl (fun zc2 => ?_) (fun zc2 => ?_)
      · refine hy_const (i := 20) rfl (by decide) ?_
        refine hy_ireturn (i := 21) rfl rfl ?_
        exact ⟨rfl, hy_F.rf⟩
      · refine hy_aload (i := 10) rfl rfl ?_
        refine hy_iload (i := 11) rfl rfl ?_
        refine hy_cV1e (i := 12) rfl mj_M_isColour (by decide) rfl (Nat.le_of_ble_eq_true rfl) rfl rfl rfl (c_M_isColour) ?_
        refine hy_ib_eq (i := 13) (tt := 20) rfl (fun zc3 => ?_) (fun zc3 => ?_)
        · refine hy_const (i := 20) rfl (by decide) ?_
          refine hy_ireturn (i := 21) rfl rfl ?_
          exact ⟨rfl, hy_F.rf⟩
        · refine hy_iload (i := 14) rfl rfl ?_
          refine hy_cS1e (i := 15) rfl (by decide) mj_M_isEmpire (by decide) rfl (Nat.le_of_ble_eq_true rfl) (c_M_isEmpire) ?_
          refine hy_ib_eq (i := 16) (tt := 20) rfl (fun zc4 => ?_) (fun zc4 => ?_)
          · refine hy_const (i := 20) rfl (by decide) ?_
            refine hy_ireturn (i := 21) rfl rfl ?_
            exact ⟨rfl, hy_F.rf⟩
          · refine hy_iload (i := 17) rfl rfl ?_
            refine hy_cS1e (i := 18) rfl (by decide) mj_M_isQuarter (by decide) rfl (Nat.le_of_ble_eq_true rfl) (c_M_isQuarter) ?_
            refine hy_ib_ne (i := 19) (tt := 22) rfl (fun zc5 => ?_) (fun zc5 => ?_)
            · exfalso; simp only [decide_eq_true_eq] at *; exact hq ⟨⟨by omega, by omega⟩, by assumption, by assumption, by assumption⟩
            · refine hy_const (i := 20) rfl (by decide) ?_
              refine hy_ireturn (i := 21) rfl rfl ?_
              exact ⟨rfl, hy_F.rf⟩
theorem c_M_painting {cs w : Int} (hk : ml_ok t) : hy_Ct sc hm_M_painting 6 [.inr (some 59), .inl cs, .inl w] t (fun r t' => r = some (if (0 ≤ cs ∧ cs ≤ 4095) ∧ hz_iand cs (hz_ixor (t 59 0) (-1)) = 0 ∧ 0 ≤ w ∧ w ≤ 2 then mq_ptA (mq_ptN t cs 24) w else -1) ∧ hy_F mvX t t') := by
  refine hy_mk_ct ok_M_painting ck_M_painting (Nat.le_of_ble_eq_true rfl) ?_
  by_cases hq : (0 ≤ cs ∧ cs ≤ 4095) ∧ hz_iand cs (hz_ixor (t 59 0) (-1)) = 0 ∧ 0 ≤ w ∧ w ≤ 2
  · rw [if_pos hq]
    have loop : ∀ (m : Nat), ∀ (k : Nat) (t1 : hy_T), m + k = 24 → hy_F mvX t t1 → hy_W sc hm_M_painting 6 25 [.inr (some 59), .inl cs, .inl w, .inl (mq_ptN t cs k).1, .inl (mq_ptN t cs k).2, .inl (k : Int)] [] t1 (fun r t' => r = some (mq_ptA (mq_ptN t cs 24) w) ∧ hy_F mvX t t') := by
      intro m
      induction m with
      | zero =>
        intro k t1 hm hF
        obtain rfl : k = 24 := by omega
        have hin := mq_ptN_in t cs 24
        refine hy_iload (i := 25) rfl rfl ?_
        refine hy_const (i := 26) rfl (by decide) ?_
        refine hy_ic_ge (i := 27) (tt := 55) rfl (fun zc1 => ?_) (fun zc1 => ?_)
        · refine hy_iload (i := 55) rfl rfl ?_
          refine hy_if_ne (i := 56) (tt := 59) rfl (fun zc2 => ?_) (fun zc2 => ?_)
          · refine hy_iload (i := 59) rfl rfl ?_
            refine hy_const (i := 60) rfl (by decide) ?_
            refine hy_ic_ne (i := 61) (tt := 64) rfl (fun zc3 => ?_) (fun zc3 => ?_)
            · refine hy_iload (i := 64) rfl rfl ?_
              refine hy_const (i := 65) rfl (by decide) ?_
              refine hy_ic_ne (i := 66) (tt := 71) rfl (fun zc4 => ?_) (fun zc4 => ?_)
              · refine hy_iload (i := 71) rfl rfl ?_
                refine hy_const (i := 72) rfl (by decide) ?_
                refine hy_irem (i := 73) rfl (by omega) (by omega) ?_
                refine hy_ireturn (i := 74) rfl rfl ?_
                refine ⟨congrArg some ?_, hF⟩
                unfold mq_ptA
                (repeat (first | rw [if_pos (by omega)] | rw [if_neg (by omega)]))
              · refine hy_iload (i := 67) rfl rfl ?_
                refine hy_const (i := 68) rfl (by decide) ?_
                refine hy_idiv (i := 69) rfl (by omega) (by omega) ?_
                refine hy_goto (i := 70) (tt := 74) rfl ?_
                refine hy_ireturn (i := 74) rfl rfl ?_
                refine ⟨congrArg some ?_, hF⟩
                unfold mq_ptA
                (repeat (first | rw [if_pos (by omega)] | rw [if_neg (by omega)]))
            · refine hy_const (i := 62) rfl (by decide) ?_
              refine hy_goto (i := 63) (tt := 74) rfl ?_
              refine hy_ireturn (i := 74) rfl rfl ?_
              refine ⟨congrArg some ?_, hF⟩
              unfold mq_ptA
              (repeat (first | rw [if_pos (by omega)] | rw [if_neg (by omega)]))
          · refine hy_iload (i := 57) rfl rfl ?_
            refine hy_goto (i := 58) (tt := 74) rfl ?_
            refine hy_ireturn (i := 74) rfl rfl ?_
            refine ⟨congrArg some ?_, hF⟩
            unfold mq_ptA
            (repeat (first | rw [if_pos (by omega)] | rw [if_neg (by omega)]))
        · omega
      | succ m ih =>
        intro k t1 hm hF
        have hin := mq_ptN_in t cs k
        have hk1 := ml_ok_F hF (meq_law mvX_meq) hk
        have e1 : mq_ptN t cs (k + 1) = if hz_iand cs (hz_ixor (mq_seenN t ((k : Int) / 4) ((k : Int) % 4) 12) (-1)) = 0 then ((mq_ptN t cs k).1 + 1, if (mq_ptN t cs k).2 = -1 then (k : Int) else (mq_ptN t cs k).2) else mq_ptN t cs k := rfl
        have ih' := ih (k + 1)
        rw [e1] at ih'
        refine hy_iload (i := 25) rfl rfl ?_
        refine hy_const (i := 26) rfl (by decide) ?_
        refine hy_ic_ge (i := 27) (tt := 55) rfl (fun zc1 => ?_) (fun zc1 => ?_)
        · omega
        · refine hy_iload (i := 28) rfl rfl ?_
          refine hy_aload (i := 29) rfl rfl ?_
          refine hy_iload (i := 30) rfl rfl ?_
          refine hy_const (i := 31) rfl (by decide) ?_
          refine hy_idiv (i := 32) rfl (by omega) (by omega) ?_
          refine hy_iload (i := 33) rfl rfl ?_
          refine hy_const (i := 34) rfl (by decide) ?_
          refine hy_irem (i := 35) rfl (by omega) (by omega) ?_
          refine hy_cV2 (i := 36) rfl mj_M_seenBy (by decide) rfl (Nat.le_of_ble_eq_true rfl) rfl rfl rfl (c_M_seenBy (by assumption) (by omega)) (fun r1_ t1_ h1 => ?_)
          obtain ⟨rfl, hF1⟩ := h1
          dsimp only [hy_st, List.cons_append, List.nil_append]
          rw [mq_seenN_F hF mvX_meq]
          refine hy_const (i := 37) rfl (by decide) ?_
          refine hy_ixor (i := 38) rfl ?_
          refine hy_iand (i := 39) rfl ?_
          refine hy_if_eq (i := 40) (tt := 42) rfl (fun zc2 => ?_) (fun zc2 => ?_)
          · refine hy_iload (i := 42) rfl rfl ?_
            refine hy_const (i := 43) rfl (by decide) ?_
            refine hy_ic_ne (i := 44) (tt := 47) rfl (fun zc3 => ?_) (fun zc3 => ?_)
            · refine hy_iload (i := 47) rfl rfl ?_
              refine hy_istore (i := 48) rfl ?_
              refine hy_iload (i := 49) rfl rfl ?_
              refine hy_const (i := 50) rfl (by decide) ?_
              refine hy_iadd (i := 51) rfl (by omega) ?_
              refine hy_istore (i := 52) rfl ?_
              refine hy_iinc (i := 53) rfl rfl (by omega) ?_
              refine hy_goto (i := 54) (tt := 25) rfl ?_
              first | (rw [if_pos (by assumption)] at ih'; dsimp only at ih'; first | (rw [if_pos (by assumption)] at ih'; exact ih' _ (by omega) (hF.tr' hF1)) | (rw [if_neg (by assumption)] at ih'; exact ih' _ (by omega) (hF.tr' hF1))) | (rw [if_neg (by assumption)] at ih'; exact ih' _ (by omega) (hF.tr' hF1))
            · refine hy_iload (i := 45) rfl rfl ?_
              refine hy_goto (i := 46) (tt := 48) rfl ?_
              refine hy_istore (i := 48) rfl ?_
              refine hy_iload (i := 49) rfl rfl ?_
              refine hy_const (i := 50) rfl (by decide) ?_
              refine hy_iadd (i := 51) rfl (by omega) ?_
              refine hy_istore (i := 52) rfl ?_
              refine hy_iinc (i := 53) rfl rfl (by omega) ?_
              refine hy_goto (i := 54) (tt := 25) rfl ?_
              first | (rw [if_pos (by assumption)] at ih'; dsimp only at ih'; first | (rw [if_pos (by assumption)] at ih'; exact ih' _ (by omega) (hF.tr' hF1)) | (rw [if_neg (by assumption)] at ih'; exact ih' _ (by omega) (hF.tr' hF1))) | (rw [if_neg (by assumption)] at ih'; exact ih' _ (by omega) (hF.tr' hF1))
          · refine hy_goto (i := 41) (tt := 53) rfl ?_
            refine hy_iinc (i := 53) rfl rfl (by omega) ?_
            refine hy_goto (i := 54) (tt := 25) rfl ?_
            first | (rw [if_pos (by assumption)] at ih'; dsimp only at ih'; first | (rw [if_pos (by assumption)] at ih'; exact ih' _ (by omega) (hF.tr' hF1)) | (rw [if_neg (by assumption)] at ih'; exact ih' _ (by omega) (hF.tr' hF1))) | (rw [if_neg (by assumption)] at ih'; exact ih' _ (by omega) (hF.tr' hF1))
    refine hy_iload (i := 0) rfl rfl ?_
    refine hy_const (i := 1) rfl (by decide) ?_
    refine hy_const (i := 2) rfl (by decide) ?_
    refine hy_cS3e (i := 3) rfl (by decide) mj_M_in (by decide) rfl (Nat.le_of_ble_eq_true rfl) (c_M_in) ?_
    refine hy_ib_eq (i := 4) (tt := 17) rfl (fun zc1 => ?_) (fun zc1 => ?_)
    · simp only [decide_eq_false_iff_not] at zc1; omega
    · refine hy_iload (i := 5) rfl rfl ?_
      refine hy_aload (i := 6) rfl rfl ?_
      refine hy_get (i := 7) (fk := 0) rfl rfl rfl ?_
      refine hy_const (i := 8) rfl (by decide) ?_
      refine hy_ixor (i := 9) rfl ?_
      refine hy_iand (i := 10) rfl ?_
      refine hy_if_ne (i := 11) (tt := 17) rfl (fun zc2 => ?_) (fun zc2 => ?_)
      · exact absurd hq.2.1 zc2
      · refine hy_iload (i := 12) rfl rfl ?_
        refine hy_const (i := 13) rfl (by decide) ?_
        refine hy_const (i := 14) rfl (by decide) ?_
        refine hy_cS3e (i := 15) rfl (by decide) mj_M_in (by decide) rfl (Nat.le_of_ble_eq_true rfl) (c_M_in) ?_
        refine hy_ib_ne (i := 16) (tt := 19) rfl (fun zc3 => ?_) (fun zc3 => ?_)
        · refine hy_const (i := 19) rfl (by decide) ?_
          refine hy_istore (i := 20) rfl ?_
          refine hy_const (i := 21) rfl (by decide) ?_
          refine hy_istore (i := 22) rfl ?_
          refine hy_const (i := 23) rfl (by decide) ?_
          refine hy_istore (i := 24) rfl ?_
          exact loop 24 0 t rfl hy_F.rf
        · simp only [decide_eq_false_iff_not] at zc3; omega
  · rw [if_neg hq]
    refine hy_iload (i := 0) rfl rfl ?_
    refine hy_const (i := 1) rfl (by decide) ?_
    refine hy_const (i := 2) rfl (by decide) ?_
    refine hy_cS3e (i := 3) rfl (by decide) mj_M_in (by decide) rfl (Nat.le_of_ble_eq_true rfl) (c_M_in) ?_
    refine hy_ib_eq (i := 4) (tt := 17) rfl (fun zc1 => ?_) (fun zc1 => ?_)
    · refine hy_const (i := 17) rfl (by decide) ?_
      refine hy_ireturn (i := 18) rfl rfl ?_
      exact ⟨rfl, hy_F.rf⟩
    · refine hy_iload (i := 5) rfl rfl ?_
      refine hy_aload (i := 6) rfl rfl ?_
      refine hy_get (i := 7) (fk := 0) rfl rfl rfl ?_
      refine hy_const (i := 8) rfl (by decide) ?_
      refine hy_ixor (i := 9) rfl ?_
      refine hy_iand (i := 10) rfl ?_
      refine hy_if_ne (i := 11) (tt := 17) rfl (fun zc2 => ?_) (fun zc2 => ?_)
      · refine hy_const (i := 17) rfl (by decide) ?_
        refine hy_ireturn (i := 18) rfl rfl ?_
        exact ⟨rfl, hy_F.rf⟩
      · refine hy_iload (i := 12) rfl rfl ?_
        refine hy_const (i := 13) rfl (by decide) ?_
        refine hy_const (i := 14) rfl (by decide) ?_
        refine hy_cS3e (i := 15) rfl (by decide) mj_M_in (by decide) rfl (Nat.le_of_ble_eq_true rfl) (c_M_in) ?_
        refine hy_ib_ne (i := 16) (tt := 19) rfl (fun zc3 => ?_) (fun zc3 => ?_)
        · exfalso; simp only [decide_eq_true_eq] at zc1 zc3; exact hq ⟨zc1, zc2, zc3⟩
        · refine hy_const (i := 17) rfl (by decide) ?_
          refine hy_ireturn (i := 18) rfl rfl ?_
          exact ⟨rfl, hy_F.rf⟩
theorem c_M_ownedOf {e c : Int} : hy_Ct sc hm_M_ownedOf 0 [.inr (some 59), .inl e, .inl c] t (hy_e (some (mo_ownN t e c 64)) t) := by
  refine hy_mk_ct ok_M_ownedOf ck_M_ownedOf (Nat.le_of_ble_eq_true rfl) ?_
  have loop : ∀ (m : Nat), ∀ (k : Nat), m + k = 64 → hy_W sc hm_M_ownedOf 0 4 [.inr (some 59), .inl e, .inl c, .inl (mo_ownN t e c k), .inl (k : Int)] [] t (hy_e (some (mo_ownN t e c 64)) t) := by
    intro m
    induction m with
    | zero =>
      intro k hm
      obtain rfl : k = 64 := by omega
      refine hy_iload (i := 4) rfl rfl ?_
      refine hy_const (i := 5) rfl (by decide) ?_
      refine hy_ic_ge (i := 6) (tt := 27) rfl (fun zc1 => ?_) (fun zc1 => ?_)
      · refine hy_iload (i := 27) rfl rfl ?_
        refine hy_ireturn (i := 28) rfl rfl ?_
        exact ⟨rfl, rfl⟩
      · omega
    | succ m ih =>
      intro k hm
      have hin := mo_ownN_in t e c k
      have e1 : mo_ownN t e c (k + 1) = mo_ownN t e c k + (if t 64 k = e ∧ t 63 k = c then 1 else 0) := rfl
      have ih' := ih (k + 1) (by omega)
      rw [e1] at ih'
      refine hy_iload (i := 4) rfl rfl ?_
      refine hy_const (i := 5) rfl (by decide) ?_
      refine hy_ic_ge (i := 6) (tt := 27) rfl (fun zc1 => ?_) (fun zc1 => ?_)
      · omega
      · refine hy_iload (i := 7) rfl rfl ?_
        refine hy_aload (i := 8) rfl rfl ?_
        refine hy_getr (i := 9) rfl rfl ?_
        refine hy_iload (i := 10) rfl rfl ?_
        refine hy_iald (i := 11) rfl rfl (by omega) (k := k) (by omega) ?_
        refine hy_iload (i := 12) rfl rfl ?_
        refine hy_ic_ne (i := 13) (tt := 22) rfl (fun zc2 => ?_) (fun zc2 => ?_)
        · refine hy_const (i := 22) rfl (by decide) ?_
          refine hy_iadd (i := 23) rfl (by omega) ?_
          refine hy_istore (i := 24) rfl ?_
          refine hy_iinc (i := 25) rfl rfl (by omega) ?_
          refine hy_goto (i := 26) (tt := 4) rfl ?_
          first | (rw [if_pos ⟨by assumption, by assumption⟩] at ih'; exact ih') | (rw [if_neg (fun h => absurd h.1 (by assumption))] at ih'; exact ih') | (rw [if_neg (fun h => absurd h.2 (by assumption))] at ih'; exact ih')
        · refine hy_aload (i := 14) rfl rfl ?_
          refine hy_getr (i := 15) rfl rfl ?_
          refine hy_iload (i := 16) rfl rfl ?_
          refine hy_iald (i := 17) rfl rfl (by omega) (k := k) (by omega) ?_
          refine hy_iload (i := 18) rfl rfl ?_
          refine hy_ic_ne (i := 19) (tt := 22) rfl (fun zc3 => ?_) (fun zc3 => ?_)
          · refine hy_const (i := 22) rfl (by decide) ?_
            refine hy_iadd (i := 23) rfl (by omega) ?_
            refine hy_istore (i := 24) rfl ?_
            refine hy_iinc (i := 25) rfl rfl (by omega) ?_
            refine hy_goto (i := 26) (tt := 4) rfl ?_
            first | (rw [if_pos ⟨by assumption, by assumption⟩] at ih'; exact ih') | (rw [if_neg (fun h => absurd h.1 (by assumption))] at ih'; exact ih') | (rw [if_neg (fun h => absurd h.2 (by assumption))] at ih'; exact ih')
          · refine hy_const (i := 20) rfl (by decide) ?_
            refine hy_goto (i := 21) (tt := 23) rfl ?_
            refine hy_iadd (i := 23) rfl (by omega) ?_
            refine hy_istore (i := 24) rfl ?_
            refine hy_iinc (i := 25) rfl rfl (by omega) ?_
            refine hy_goto (i := 26) (tt := 4) rfl ?_
            first | (rw [if_pos ⟨by assumption, by assumption⟩] at ih'; exact ih') | (rw [if_neg (fun h => absurd h.1 (by assumption))] at ih'; exact ih') | (rw [if_neg (fun h => absurd h.2 (by assumption))] at ih'; exact ih')
  refine hy_const (i := 0) rfl (by decide) ?_
  refine hy_istore (i := 1) rfl ?_
  refine hy_const (i := 2) rfl (by decide) ?_
  refine hy_istore (i := 3) rfl ?_
  exact loop 64 0 rfl
theorem c_M_worthOf {e q : Int} (hk : ml_ok t) (hq : 0 ≤ q ∧ q < 4) : hy_Ct sc hm_M_worthOf 6 [.inr (some 59), .inl e, .inl q] t (fun r t' => r = some (mw_worth t e q) ∧ hy_F mvX t t') := by
  refine hy_mk_ct ok_M_worthOf ck_M_worthOf (Nat.le_of_ble_eq_true rfl) ?_
  have loop : ∀ (s : Int), s = mq_seenN t e q 12 → ∀ (m : Nat), ∀ (k : Nat) (t1 : hy_T) (v6 : hy_V), m + k = 12 → hy_F mvX t t1 → hy_W sc hm_M_worthOf 6 9 [.inr (some 59), .inl e, .inl q, .inl s, .inl (mw_worthN t e q s k), .inl (k : Int), v6] [] t1 (fun r t' => r = some (mw_worth t e q) ∧ hy_F mvX t t') := by
    intro s hs m
    induction m with
    | zero =>
      intro k t1 v6 hm hF
      obtain rfl : k = 12 := by omega
      refine hy_iload (i := 9) rfl rfl ?_
      refine hy_const (i := 10) rfl (by decide) ?_
      refine hy_ic_ge (i := 11) (tt := 47) rfl (fun zc1 => ?_) (fun zc1 => ?_)
      · refine hy_iload (i := 47) rfl rfl ?_
        refine hy_ireturn (i := 48) rfl rfl ?_
        exact ⟨congrArg some (by rw [hs]; rfl), hF⟩
      · omega
    | succ m ih =>
      intro k t1 v6 hm hF
      have hin := mw_worthN_in t e q s k
      have hk1 := ml_ok_F hF (meq_law mvX_meq) hk
      have h1 := mw_one_in t e q s k
      have hT := mw_term t e q s k
      have e1 : mw_worthN t e q s (k + 1) = mw_worthN t e q s k + (if mw_one t e q s k = 0 then 0 else mw_one t e q s k * mb_amt t (mq_V t e k q 0 0 (mw_one t e q s k) 0) 118 99) := rfl
      have ih' := ih (k + 1)
      rw [e1] at ih'
      have mid : ∀ (x : Int), x = mw_one t e q s k → hy_W sc hm_M_worthOf 6 23 [.inr (some 59), .inl e, .inl q, .inl s, .inl (mw_worthN t e q s k), .inl (k : Int), .inl x] [] t1 (fun r t' => r = some (mw_worth t e q) ∧ hy_F mvX t t') := by
        intro x hx
        subst hx
        by_cases h0 : mw_one t e q s k = 0
        · rw [if_pos h0, Int.add_zero] at ih'
          refine hy_iload (i := 23) rfl rfl ?_
          refine hy_if_ne (i := 24) (tt := 26) rfl (fun zc1 => ?_) (fun zc1 => ?_)
          · exact absurd h0 zc1
          · refine hy_goto (i := 25) (tt := 45) rfl ?_
            refine hy_iinc (i := 45) rfl rfl (by omega) ?_
            refine hy_goto (i := 46) (tt := 9) rfl ?_
            exact ih' _ _ (by omega) hF
        · rw [if_neg h0] at ih'
          refine hy_iload (i := 23) rfl rfl ?_
          refine hy_if_ne (i := 24) (tt := 26) rfl (fun zc1 => ?_) (fun zc1 => ?_)
          · refine hy_aload (i := 26) rfl rfl ?_
            refine hy_iload (i := 27) rfl rfl ?_
            refine hy_iload (i := 28) rfl rfl ?_
            refine hy_iload (i := 29) rfl rfl ?_
            refine hy_cV3 (i := 30) rfl mj_M_feels (by decide) rfl (Nat.le_of_ble_eq_true rfl) rfl rfl rfl (c_M_feels (by omega) (by omega)) (fun r1_ t1_ h1 => ?_)
            obtain ⟨rfl, hF1, hV1⟩ := h1
            dsimp only [hy_st, List.nil_append]
            refine hy_aload (i := 31) rfl rfl ?_
            refine hy_getr (i := 32) rfl rfl ?_
            refine hy_const (i := 33) rfl (by decide) ?_
            refine hy_iload (i := 34) rfl rfl ?_
            refine hy_iast (i := 35) rfl rfl (by omega) (show _ = 7 from rfl) ?_
            refine hy_iload (i := 36) rfl rfl ?_
            refine hy_iload (i := 37) rfl rfl ?_
            refine hy_aload (i := 38) rfl rfl ?_
            refine hy_const (i := 39) rfl (by decide) ?_
            refine hy_const (i := 40) rfl (by decide) ?_
            have hk4 := ml_ok_F (hF1.up (r := 78) (j := 7) (v := mw_one t e q s k) rfl) (fun r j h => by revert h; simp [mlawX]; omega) hk1
            have ev := mq_tellN hk1 hF1 hV1 (mw_one t e q s k) 118 99 (.inr rfl)
            rw [mq_V_F hF mvX_meq, mb_amt_F hF (meq_law mvX_meq)] at ev
            refine hy_cV2 (i := 41) rfl mj_M_byLaw (by decide) rfl (Nat.le_of_ble_eq_true rfl) rfl rfl rfl (c_M_byLaw hk4 (.inr rfl)) (fun r2_ t2_ h2 => ?_)
            obtain ⟨rfl, hF2⟩ := h2
            dsimp only [hy_st, List.cons_append, List.nil_append]
            rw [ev]
            refine hy_imul (i := 42) rfl (by omega) ?_
            refine hy_iadd (i := 43) rfl (by omega) ?_
            refine hy_istore (i := 44) rfl ?_
            refine hy_iinc (i := 45) rfl rfl (by omega) ?_
            refine hy_goto (i := 46) (tt := 9) rfl ?_
            exact ih' _ _ (by omega) (hF.tr' ((mv_78 (hF1.up rfl)).tr' (ml_mv hF2)))
          · exact absurd zc1 h0
      have eb : hz_b s k = true → mw_one t e q s k = mo_ownN t e k 64 := fun h => by unfold mw_one; rw [if_pos h]
      have ec : hz_b s k = false → mw_one t e q s k = 0 := fun h => by unfold mw_one; rw [h]; rfl
      refine hy_iload (i := 9) rfl rfl ?_
      refine hy_const (i := 10) rfl (by decide) ?_
      refine hy_ic_ge (i := 11) (tt := 47) rfl (fun zc1 => ?_) (fun zc1 => ?_)
      · omega
      · refine hy_iload (i := 12) rfl rfl ?_
        refine hy_iload (i := 13) rfl rfl ?_
        refine hy_cS2e (i := 14) rfl (by decide) mj_M_has (by decide) rfl (Nat.le_of_ble_eq_true rfl) (c_M_has) ?_
        refine hy_ib_eq (i := 15) (tt := 21) rfl (fun zc2 => ?_) (fun zc2 => ?_)
        · refine hy_const (i := 21) rfl (by decide) ?_
          refine hy_istore (i := 22) rfl ?_
          first | exact mid _ ((mo_ownN_F hF mvX_mw e k 64).trans (eb (by assumption)).symm) | exact mid _ (ec (by assumption)).symm
        · refine hy_aload (i := 16) rfl rfl ?_
          refine hy_iload (i := 17) rfl rfl ?_
          refine hy_iload (i := 18) rfl rfl ?_
          refine hy_cV2e (i := 19) rfl mj_M_ownedOf (by decide) rfl (Nat.le_of_ble_eq_true rfl) rfl rfl rfl (c_M_ownedOf) ?_
          refine hy_goto (i := 20) (tt := 22) rfl ?_
          refine hy_istore (i := 22) rfl ?_
          first | exact mid _ ((mo_ownN_F hF mvX_mw e k 64).trans (eb (by assumption)).symm) | exact mid _ (ec (by assumption)).symm
  refine hy_aload (i := 0) rfl rfl ?_
  refine hy_iload (i := 1) rfl rfl ?_
  refine hy_iload (i := 2) rfl rfl ?_
  refine hy_cV2 (i := 3) rfl mj_M_seenBy (by decide) rfl (Nat.le_of_ble_eq_true rfl) rfl rfl rfl (c_M_seenBy (by assumption) (by omega)) (fun r1_ t1_ h1 => ?_)
  obtain ⟨rfl, hF1⟩ := h1
  dsimp only [hy_st, List.cons_append, List.nil_append]
  refine hy_istore (i := 4) rfl ?_
  refine hy_const (i := 5) rfl (by decide) ?_
  refine hy_istore (i := 6) rfl ?_
  refine hy_const (i := 7) rfl (by decide) ?_
  refine hy_istore (i := 8) rfl ?_
  exact loop _ rfl 12 0 _ _ rfl hF1
theorem c_M_worth {e q : Int} (hk : ml_ok t) : hy_Ct sc hm_M_worth 7 [.inr (some 59), .inl e, .inl q] t (fun r t' => r = some (if (0 ≤ e ∧ e < 6) ∧ 0 ≤ q ∧ q < 4 then mw_worth t e q else -1) ∧ hy_F mvX t t') := by
  refine hy_mk_ct ok_M_worth ck_M_worth (Nat.le_of_ble_eq_true rfl) ?_
  by_cases hq : (0 ≤ e ∧ e < 6) ∧ 0 ≤ q ∧ q < 4
  · rw [if_pos hq]
    refine hy_iload (i := 0) rfl rfl ?_
    refine hy_cS1e (i := 1) rfl (by decide) mj_M_isEmpire (by decide) rfl (Nat.le_of_ble_eq_true rfl) (c_M_isEmpire) ?_
    refine hy_ib_eq (i := 2) (tt := 11) rfl (fun zc1 => ?_) (fun zc1 => ?_)
    · simp only [decide_eq_false_iff_not] at zc1; omega
    · refine hy_iload (i := 3) rfl rfl ?_
      refine hy_cS1e (i := 4) rfl (by decide) mj_M_isQuarter (by decide) rfl (Nat.le_of_ble_eq_true rfl) (c_M_isQuarter) ?_
      refine hy_ib_eq (i := 5) (tt := 11) rfl (fun zc2 => ?_) (fun zc2 => ?_)
      · simp only [decide_eq_false_iff_not] at zc2; omega
      · refine hy_aload (i := 6) rfl rfl ?_
        refine hy_iload (i := 7) rfl rfl ?_
        refine hy_iload (i := 8) rfl rfl ?_
        refine hy_cV2 (i := 9) rfl mj_M_worthOf (by decide) rfl (Nat.le_of_ble_eq_true rfl) rfl rfl rfl (c_M_worthOf (by assumption) (by omega)) (fun r3_ t3_ h3 => ?_)
        obtain ⟨rfl, hF3⟩ := h3
        dsimp only [hy_st, List.cons_append, List.nil_append]
        refine hy_goto (i := 10) (tt := 12) rfl ?_
        refine hy_ireturn (i := 12) rfl rfl ?_
        exact ⟨rfl, by assumption⟩
  · rw [if_neg hq]
    refine hy_iload (i := 0) rfl rfl ?_
    refine hy_cS1e (i := 1) rfl (by decide) mj_M_isEmpire (by decide) rfl (Nat.le_of_ble_eq_true rfl) (c_M_isEmpire) ?_
    refine hy_ib_eq (i := 2) (tt := 11) rfl (fun zc1 => ?_) (fun zc1 => ?_)
    · refine hy_const (i := 11) rfl (by decide) ?_
      refine hy_ireturn (i := 12) rfl rfl ?_
      exact ⟨rfl, hy_F.rf⟩
    · refine hy_iload (i := 3) rfl rfl ?_
      refine hy_cS1e (i := 4) rfl (by decide) mj_M_isQuarter (by decide) rfl (Nat.le_of_ble_eq_true rfl) (c_M_isQuarter) ?_
      refine hy_ib_eq (i := 5) (tt := 11) rfl (fun zc2 => ?_) (fun zc2 => ?_)
      · refine hy_const (i := 11) rfl (by decide) ?_
        refine hy_ireturn (i := 12) rfl rfl ?_
        exact ⟨rfl, hy_F.rf⟩
      · exfalso; simp only [decide_eq_true_eq] at *; exact hq ⟨by assumption, by assumption⟩
end MW
