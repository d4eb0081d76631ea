/-! constructors: an interpreter, and that it is right -/
abbrev hr_E : Type := Option (hx_H × Nat × Nat)
def hr_add (e : hr_E) (c s : Nat) : hr_E := match e with
  | some (h, a, b) => some (h, a + c, b + s)
  | none => none
def hr_ref (v : Value) : Bool := match v with
  | .ref _ => true
  | _ => false
def hr_defs (q : vw_C) : List Value := (List.range q.2.2).map (fun k => match parseFieldDescriptor (q.2.1 k).2.2.1 with
  | some ty => defaultValue ty
  | none => .null)
def hr_defok (q : vw_C) : Bool := (List.range q.2.2).all (fun k => (parseFieldDescriptor (q.2.1 k).2.2.1).isSome)
/-- a field of this type can hold that -/
def hr_fit (ty : FieldType) (w : Value) : Bool := match ty, w with
  | .int, .int _ => true
  | .boolean, .int x => x == 0
  | .object _, .ref _ => true
  | .array _, .ref _ => true
  | _, _ => false
def hr_at (t : ArrayType) : Option Nat := match t with
  | .int => some 0
  | .byte => some 1
  | .boolean => some 2
  | _ => none
def hr_run : Nat → Nat → hx_M → Nat → List Value → List Value → hx_H → hr_E
  | 0, _, _, _, _, _, _ => none
  | n + 1, dp, u, i, loc, st, h => match (hx_ops u)[i]? with
    | some .return_ => match st with
      | [] => if hx_ret u = none then some (h, 0, 0) else none
      | _ => none
    | some (.aload k) => match loc[k]? with
      | some (.ref a) => hr_run n dp u (i + 1) loc (.ref a :: st) h
      | _ => none
    | some (.iload k) => match loc[k]? with
      | some (.int x) => hr_run n dp u (i + 1) loc (.int x :: st) h
      | _ => none
    | some (.bipush v) => hr_run n dp u (i + 1) loc (.int (Int32.ofInt v) :: st) h
    | some (.istore k) => match st with
      | .int x :: st' => hr_run n dp u (i + 1) (loc.set k (.int x)) st' h
      | _ => none
    | some (.iinc k v) => match loc[k]? with
      | some (.int x) => hr_run n dp u (i + 1) (loc.set k (.int (x + Int32.ofInt v))) st h
      | _ => none
    | some (.goto t) => if 0 ≤ t then hr_run n dp u t.toNat loc st h else none
    | some (.if_icmp .ge t) => match st with
      | .int y :: .int x :: st' => if 0 ≤ t then (if y ≤ x then hr_run n dp u t.toNat loc st' h else hr_run n dp u (i + 1) loc st' h) else none
      | _ => none
    | some .dup => match st with
      | w :: st' => if w.category = 1 then hr_run n dp u (i + 1) loc (w :: w :: st') h else none
      | _ => none
    | some (.new ci) => match hx_cl[ci]? with
      | some q => if hr_defok q = true ∧ (hr_defs q).all (fun v => !hr_ref v) = true then hr_add (hr_run n dp u (i + 1) loc (.ref (h.length + 2) :: st) (h ++ [.inr (ci, hr_defs q)])) 1 q.2.2 else none
      | none => none
    | some (.newarray t) => match hr_at t, st with
      | some k, .int x :: st' => if ¬ x < 0 ∧ x.toNatClampNeg ≤ 100000 then hr_add (hr_run n dp u (i + 1) loc (.ref (h.length + 2) :: st') (h ++ [.inl (k, List.replicate x.toNatClampNeg 0)])) 1 x.toNatClampNeg else none
      | _, _ => none
    | some (.getfield f) => match st with
      | .ref (a + 2) :: st' => match h[a]? with
        | some (.inr (ci, fs)) => match fs[f % 100]? with
          | some w => if ci = f / 100 then hr_run n dp u (i + 1) loc (w :: st') h else none
          | none => none
        | _ => none
      | _ => none
    | some (.putfield f) => match st with
      | w :: .ref (a + 2) :: st' => match h[a]? with
        | some (.inr (ci, fs)) => match (hx_cl[f / 100]?).bind (fun q => parseFieldDescriptor (q.2.1 (f % 100)).2.2.1) with
          | some ty => if ci = f / 100 ∧ f % 100 < fs.length ∧ hr_fit ty w = true then hr_run n dp u (i + 1) loc st' (h.set a (.inr (ci, fs.set (f % 100) w))) else none
          | none => none
        | _ => none
      | _ => none
    | some .iastore => match st with
      | .int x :: .int z :: .ref (a + 2) :: st' => match h[a]? with
        | some (.inl (0, xs)) => if ¬ (z < 0 ∨ xs.length ≤ z.toNatClampNeg) then hr_run n dp u (i + 1) loc st' (h.set a (.inl (0, xs.set z.toNatClampNeg x))) else none
        | _ => none
      | _ => none
    | some (.invokespecial j) => if j = 9999 then (match st with
        | .ref (_ + 2) :: st' => if st'.all hx_v = true ∧ st'.length ≤ 8 then hr_run n dp u (i + 1) loc st' h else none
        | _ => none) else match dp, hx_ms[j]? with
        | dp' + 1, some v => match st.drop (hx_na v) with
          | .ref (a + 2) :: rest => if j ≤ 10 ∧ (hx_na v + 1 ≤ hx_L v ∧ (st.take (hx_na v)).length = hx_na v) ∧ (rest.all hx_v = true ∧ rest.length ≤ 8) ∧ (st.take (hx_na v)).all hx_v = true then
              (match hr_run n dp' v 0 ((.ref (a + 2) :: (st.take (hx_na v)).reverse) ++ List.replicate (hx_L v - (.ref (a + 2) :: (st.take (hx_na v)).reverse).length) .null) [] h with
              | some (h', c, s) => hr_add (hr_run n dp u (i + 1) loc rest h') c s
              | none => none) else none
          | _ => none
        | _, _ => none
    | _ => none
abbrev hr_Q (h' : hx_H) : Option Int32 → hx_H → Prop := fun r h'' => r = none ∧ h'' = h'
theorem hr_add_s {e : hr_E} {c s : Nat} {h : hx_H} {a b : Nat} (hh : hr_add e c s = some (h, a, b)) : ∃ a' b', e = some (h, a', b') ∧ a = a' + c ∧ b = b' + s := by
  unfold hr_add at hh
  split at hh
  · next h1 a1 b1 =>
    cases hh
    exact ⟨a1, b1, rfl, rfl, rfl⟩
  · cases hh
theorem hr_g {v : Value} (h : hr_ref v = false) (b o base : Nat) : hx_g b o base v = v := by
  cases v <;> first | rfl | (simp [hr_ref] at h)
theorem hr_gs {vs : List Value} (h : vs.all (fun v => !hr_ref v) = true) (b o base : Nat) : vs.map (hx_g b o base) = vs := by
  induction vs with
  | nil => rfl
  | cons v vs ih =>
    simp only [List.all_cons, Bool.and_eq_true, Bool.not_eq_true'] at h
    rw [List.map_cons, hr_g h.1, ih h.2]
theorem hr_fit_s {ty : FieldType} {w : Value} (h : hr_fit ty w = true) (b o base : Nat) : narrow ty (hx_g b o base w) = hx_g b o base w ∧ fits ty (hx_g b o base w) = true := by
  unfold hr_fit at h
  split at h
  · exact ⟨rfl, rfl⟩
  · next x =>
    have hx : x = 0 := by simpa using h
    subst hx
    exact ⟨rfl, rfl⟩
  · next a => rcases a with _ | _ | a <;> exact ⟨rfl, rfl⟩
  · next a => rcases a with _ | _ | a <;> exact ⟨rfl, rfl⟩
  · cases h
theorem hr_oks : ∀ (j : Nat) (v : hx_M), j ≤ 10 → hx_ms[j]? = some v → hx_okO v = true ∧ hx_cal v := by
  intro j v hj hv
  rcases (show j = 0 ∨ j = 1 ∨ j = 2 ∨ j = 3 ∨ j = 4 ∨ j = 5 ∨ j = 6 ∨ j = 7 ∨ j = 8 ∨ j = 9 ∨ j = 10 by omega) with rfl | rfl | rfl | rfl | rfl | rfl | rfl | rfl | rfl | rfl | rfl
  · rw [mj_W_init] at hv; cases hv; exact ⟨ok_W_init, ck_W_init⟩
  · rw [mj_T_init] at hv; cases hv; exact ⟨ok_T_init, ck_T_init⟩
  · rw [mj_P_init] at hv; cases hv; exact ⟨ok_P_init, ck_P_init⟩
  · rw [mj_G_init] at hv; cases hv; exact ⟨ok_G_init, ck_G_init⟩
  · rw [mj_L_init] at hv; cases hv; exact ⟨ok_L_init, ck_L_init⟩
  · rw [mj_N_init] at hv; cases hv; exact ⟨ok_N_init, ck_N_init⟩
  · rw [mj_S_init] at hv; cases hv; exact ⟨ok_S_init, ck_S_init⟩
  · rw [mj_E_init] at hv; cases hv; exact ⟨ok_E_init, ck_E_init⟩
  · rw [mj_U_init] at hv; cases hv; exact ⟨ok_U_init, ck_U_init⟩
  · rw [mj_D_init] at hv; cases hv; exact ⟨ok_D_init, ck_D_init⟩
  · rw [mj_A_init] at hv; cases hv; exact ⟨ok_A_init, ck_A_init⟩
def hr_q (ci : Nat) : hx_C := match hx_cl[ci]? with
  | some q => .inr (ci, hr_defs q)
  | none => .inl (0, [])
