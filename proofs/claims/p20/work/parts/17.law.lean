/-! the class's law: what its steps come to -/
def su (f : Nat → Int) (j : Nat) (v : Int) : Nat → Int := fun j' => if j' = j then v else f j'
theorem hy_up_row (t : hy_T) (r j : Nat) (v : Int) : (hy_up t r j v) r = su (t r) j v := by
  funext j'
  simp [hy_up, su]
def w32 (x : Int) : Int := (Int32.ofInt x).toInt
theorem w32_R (x : Int) : hy_R (w32 x) := hy_Ri _
def rc_reck (l op r : Int) : Int :=
  if op = 37 then (if r = 0 then 0 else hz_rem l r)
  else if op = 42 then w32 (l * r)
  else if op = 43 then w32 (l + r)
  else if op = 45 then w32 (l - r)
  else if op = 47 then (if r = 0 then 0 else hz_div l r)
  else if op = 60 then (if l < r then 1 else 0)
  else if op = 62 then (if r < l then 1 else 0)
  else (if l = r then 1 else 0)
def rc_step (op arg : Int) (vals : Nat → Int) (a : Int) (z : Nat) (f : Nat → Int) : Option (Int × Nat × (Nat → Int)) :=
  if op = 48 ∨ op = 97 then (if z < 32 ∧ (op = 48 ∨ arg < 10) then some (a, z + 1, su f z (if op = 48 then arg else vals arg.toNat)) else some (a, z, f))
  else if z < 1 then none
  else if op = 33 then some (a, z, su f (z - 1) (w32 (1 - f (z - 1))))
  else if op = 38 ∨ op = 124 then (if (f (z - 1) ≠ 0 ∧ op = 124) ∨ (f (z - 1) = 0 ∧ op = 38) then some (arg, z, f) else some (a, z - 1, f))
  else if z < 2 ∨ (f (z - 1) = 0 ∧ (op = 47 ∨ op = 37)) then none
  else some (a, z - 1, su f (z - 2) (rc_reck (f (z - 2)) op (f (z - 1))))
def rc_end (z : Nat) (f : Nat → Int) : Int := if 0 < z then f 0 else 0
def rc_run (ops args vals : Nat → Int) (steps : Int) : Nat → Int → Nat → (Nat → Int) → Int
  | 0, _, z, f => rc_end z f
  | n + 1, a, z, f => if 0 ≤ a ∧ a < steps ∧ ops a.toNat ≠ 46 then
      match rc_step (ops a.toNat) (args a.toNat) vals (a + 1) z f with
      | none => 0
      | some q => rc_run ops args vals steps n q.1 q.2.1 q.2.2
    else rc_end z f
theorem rc_go {ops args vals : Nat → Int} {steps : Int} {n z z' : Nat} {a a' : Int} {f f' : Nat → Int} (h : 0 ≤ a ∧ a < steps ∧ ops a.toNat ≠ 46) (hs : rc_step (ops a.toNat) (args a.toNat) vals (a + 1) z f = some (a', z', f')) : rc_run ops args vals steps (n + 1) a z f = rc_run ops args vals steps n a' z' f' := by
  simp only [rc_run]
  rw [if_pos h, hs]
theorem rc_no {ops args vals : Nat → Int} {steps : Int} {n z : Nat} {a : Int} {f : Nat → Int} (h : 0 ≤ a ∧ a < steps ∧ ops a.toNat ≠ 46) (hs : rc_step (ops a.toNat) (args a.toNat) vals (a + 1) z f = none) : rc_run ops args vals steps (n + 1) a z f = 0 := by
  simp only [rc_run]
  rw [if_pos h, hs]
theorem rc_stop {ops args vals : Nat → Int} {steps : Int} {n z : Nat} {a : Int} {f : Nat → Int} (h : ¬ (0 ≤ a ∧ a < steps ∧ ops a.toNat ≠ 46)) : rc_run ops args vals steps (n + 1) a z f = rc_end z f := by
  simp only [rc_run]
  rw [if_neg h]
/-- what the steps from a on come to -/
def rc_val (t : hy_T) (b : Nat) (a : Int) : Int := rc_run (t (b + 1)) (t (b + 2)) (t (b + 6)) (t b 3) 240 a 0 (fun _ => 0)
theorem rc_end_eq {z : Nat} {f g : Nat → Int} (h : ∀ j, j < z → f j = g j) : rc_end z f = rc_end z g := by
  unfold rc_end
  split
  · exact h 0 (by assumption)
  · rfl
/-- only what lies on the stack matters -/
theorem rc_eq (ops args vals : Nat → Int) (steps : Int) : ∀ (n : Nat) (a : Int) (z : Nat) (f g : Nat → Int), (∀ j, j < z → f j = g j) → rc_run ops args vals steps n a z f = rc_run ops args vals steps n a z g
  | 0, a, z, f, g, h => rc_end_eq h
  | n + 1, a, z, f, g, h => by
    by_cases hc : 0 ≤ a ∧ a < steps ∧ ops a.toNat ≠ 46
    · have key : ∀ (op arg : Int), (rc_step op arg vals (a + 1) z f = none ∧ rc_step op arg vals (a + 1) z g = none) ∨ ∃ (a' : Int) (z' : Nat) (f' g' : Nat → Int), rc_step op arg vals (a + 1) z f = some (a', z', f') ∧ rc_step op arg vals (a + 1) z g = some (a', z', g') ∧ ∀ j, j < z' → f' j = g' j := by
        intro op arg
        unfold rc_step
        by_cases zc1 : op = 48 ∨ op = 97
        · rw [if_pos zc1, if_pos zc1]
          right
          by_cases zc2 : z < 32 ∧ (op = 48 ∨ arg < 10)
          · rw [if_pos zc2, if_pos zc2]
            refine ⟨_, _, _, _, rfl, rfl, fun j hj => ?_⟩
            unfold su
            split
            · rfl
            · exact h j (by omega)
          · rw [if_neg zc2, if_neg zc2]
            exact ⟨_, _, _, _, rfl, rfl, h⟩
        · rw [if_neg zc1, if_neg zc1]
          by_cases zc2 : z < 1
          · rw [if_pos zc2, if_pos zc2]; exact Or.inl ⟨rfl, rfl⟩
          · rw [if_neg zc2, if_neg zc2]
            have e1 := h (z - 1) (by omega)
            by_cases zc3 : op = 33
            · rw [if_pos zc3, if_pos zc3, e1]
              right
              refine ⟨_, _, _, _, rfl, rfl, fun j hj => ?_⟩
              unfold su
              split
              · rfl
              · exact h j (by omega)
            · rw [if_neg zc3, if_neg zc3]
              by_cases zc4 : op = 38 ∨ op = 124
              · rw [if_pos zc4, if_pos zc4, e1]
                right
                by_cases zc5 : (g (z - 1) ≠ 0 ∧ op = 124) ∨ (g (z - 1) = 0 ∧ op = 38)
                · rw [if_pos zc5, if_pos zc5]
                  exact ⟨_, _, _, _, rfl, rfl, h⟩
                · rw [if_neg zc5, if_neg zc5]
                  exact ⟨_, _, _, _, rfl, rfl, fun j hj => h j (by omega)⟩
              · rw [if_neg zc4, if_neg zc4, e1]
                by_cases zc5 : z < 2 ∨ (g (z - 1) = 0 ∧ (op = 47 ∨ op = 37))
                · rw [if_pos zc5, if_pos zc5]; exact Or.inl ⟨rfl, rfl⟩
                · rw [if_neg zc5, if_neg zc5, h (z - 2) (by omega)]
                  right
                  refine ⟨_, _, _, _, rfl, rfl, fun j hj => ?_⟩
                  unfold su
                  split
                  · rfl
                  · exact h j (by omega)
      rcases key (ops a.toNat) (args a.toNat) with ⟨k1, k2⟩ | ⟨a', z', f', g', k1, k2, k3⟩
      · rw [rc_no hc k1, rc_no hc k2]
      · rw [rc_go hc k1, rc_go hc k2]
        exact rc_eq ops args vals steps n a' z' f' g' k3
    · rw [rc_stop hc, rc_stop hc]
      exact rc_end_eq h
section LW
variable {sc : List Int32} {t : hy_T}
theorem c_L_reckoned {l op r : Int} : hy_Ct sc hm_L_reckoned 0 [.inl l, .inl op, .inl r] t (hy_e (some (rc_reck l op r)) t) := by
  refine hy_mk_ct ok_L_reckoned ck_L_reckoned (Nat.le_of_ble_eq_true rfl) ?_
  refine hy_iload (i := 0) rfl rfl ?_
  by_cases zq1 : op = 37
  · refine hy_lsw (i := 1) (tt := 22) rfl (by rw [zq1]; rfl) ?_
    refine hy_iload (i := 22) rfl rfl ?_
    refine hy_if_eq (i := 23) (tt := 28) rfl (fun zc2 => ?_) (fun zc2 => ?_)
    · refine hy_const (i := 28) rfl (by decide) ?_
      refine hy_ireturn (i := 29) rfl rfl ?_
      refine ⟨congrArg some ?_, rfl⟩
      unfold rc_reck
      repeat (first | rw [if_pos (by omega)] | rw [if_neg (by omega)])
      try rfl
    · refine hy_iload (i := 24) rfl rfl ?_
      refine hy_iload (i := 25) rfl rfl ?_
      refine hy_iremw (i := 26) rfl (by assumption) ?_
      refine hy_goto (i := 27) (tt := 29) rfl ?_
      refine hy_ireturn (i := 29) rfl rfl ?_
      refine ⟨congrArg some ?_, rfl⟩
      unfold rc_reck
      repeat (first | rw [if_pos (by omega)] | rw [if_neg (by omega)])
      try rfl
  · skip
    by_cases zq1 : op = 42
    · refine hy_lsw (i := 1) (tt := 10) rfl (by rw [zq1]; rfl) ?_
      refine hy_iload (i := 10) rfl rfl ?_
      refine hy_iload (i := 11) rfl rfl ?_
      refine hy_imulw (i := 12) rfl ?_
      refine hy_ireturn (i := 13) rfl rfl ?_
      refine ⟨congrArg some ?_, rfl⟩
      unfold rc_reck
      repeat (first | rw [if_pos (by omega)] | rw [if_neg (by omega)])
      try rfl
    · skip
      by_cases zq1 : op = 43
      · refine hy_lsw (i := 1) (tt := 2) rfl (by rw [zq1]; rfl) ?_
        refine hy_iload (i := 2) rfl rfl ?_
        refine hy_iload (i := 3) rfl rfl ?_
        refine hy_iaddw (i := 4) rfl ?_
        refine hy_ireturn (i := 5) rfl rfl ?_
        refine ⟨congrArg some ?_, rfl⟩
        unfold rc_reck
        repeat (first | rw [if_pos (by omega)] | rw [if_neg (by omega)])
        try rfl
      · skip
        by_cases zq1 : op = 45
        · refine hy_lsw (i := 1) (tt := 6) rfl (by rw [zq1]; rfl) ?_
          refine hy_iload (i := 6) rfl rfl ?_
          refine hy_iload (i := 7) rfl rfl ?_
          refine hy_isubw (i := 8) rfl ?_
          refine hy_ireturn (i := 9) rfl rfl ?_
          refine ⟨congrArg some ?_, rfl⟩
          unfold rc_reck
          repeat (first | rw [if_pos (by omega)] | rw [if_neg (by omega)])
          try rfl
        · skip
          by_cases zq1 : op = 47
          · refine hy_lsw (i := 1) (tt := 14) rfl (by rw [zq1]; rfl) ?_
            refine hy_iload (i := 14) rfl rfl ?_
            refine hy_if_eq (i := 15) (tt := 20) rfl (fun zc2 => ?_) (fun zc2 => ?_)
            · refine hy_const (i := 20) rfl (by decide) ?_
              refine hy_ireturn (i := 21) rfl rfl ?_
              refine ⟨congrArg some ?_, rfl⟩
              unfold rc_reck
              repeat (first | rw [if_pos (by omega)] | rw [if_neg (by omega)])
              try rfl
            · refine hy_iload (i := 16) rfl rfl ?_
              refine hy_iload (i := 17) rfl rfl ?_
              refine hy_idivw (i := 18) rfl (by assumption) ?_
              refine hy_goto (i := 19) (tt := 21) rfl ?_
              refine hy_ireturn (i := 21) rfl rfl ?_
              refine ⟨congrArg some ?_, rfl⟩
              unfold rc_reck
              repeat (first | rw [if_pos (by omega)] | rw [if_neg (by omega)])
              try rfl
          · skip
            by_cases zq1 : op = 60
            · refine hy_lsw (i := 1) (tt := 30) rfl (by rw [zq1]; rfl) ?_
              refine hy_iload (i := 30) rfl rfl ?_
              refine hy_iload (i := 31) rfl rfl ?_
              refine hy_ic_ge (i := 32) (tt := 35) rfl (fun zc2 => ?_) (fun zc2 => ?_)
              · refine hy_const (i := 35) rfl (by decide) ?_
                refine hy_ireturn (i := 36) rfl rfl ?_
                refine ⟨congrArg some ?_, rfl⟩
                unfold rc_reck
                repeat (first | rw [if_pos (by omega)] | rw [if_neg (by omega)])
                try rfl
              · refine hy_const (i := 33) rfl (by decide) ?_
                refine hy_goto (i := 34) (tt := 36) rfl ?_
                refine hy_ireturn (i := 36) rfl rfl ?_
                refine ⟨congrArg some ?_, rfl⟩
                unfold rc_reck
                repeat (first | rw [if_pos (by omega)] | rw [if_neg (by omega)])
                try rfl
            · skip
              by_cases zq1 : op = 62
              · refine hy_lsw (i := 1) (tt := 37) rfl (by rw [zq1]; rfl) ?_
                refine hy_iload (i := 37) rfl rfl ?_
                refine hy_iload (i := 38) rfl rfl ?_
                refine hy_ic_le (i := 39) (tt := 42) rfl (fun zc2 => ?_) (fun zc2 => ?_)
                · refine hy_const (i := 42) rfl (by decide) ?_
                  refine hy_ireturn (i := 43) rfl rfl ?_
                  refine ⟨congrArg some ?_, rfl⟩
                  unfold rc_reck
                  repeat (first | rw [if_pos (by omega)] | rw [if_neg (by omega)])
                  try rfl
                · refine hy_const (i := 40) rfl (by decide) ?_
                  refine hy_goto (i := 41) (tt := 43) rfl ?_
                  refine hy_ireturn (i := 43) rfl rfl ?_
                  refine ⟨congrArg some ?_, rfl⟩
                  unfold rc_reck
                  repeat (first | rw [if_pos (by omega)] | rw [if_neg (by omega)])
                  try rfl
              · skip
                refine hy_lsw (i := 1) (tt := 44) rfl (by simp [hx_look]; omega) ?_
                refine hy_iload (i := 44) rfl rfl ?_
                refine hy_iload (i := 45) rfl rfl ?_
                refine hy_ic_ne (i := 46) (tt := 49) rfl (fun zc1 => ?_) (fun zc1 => ?_)
                · refine hy_const (i := 49) rfl (by decide) ?_
                  refine hy_ireturn (i := 50) rfl rfl ?_
                  refine ⟨congrArg some ?_, rfl⟩
                  unfold rc_reck
                  repeat (first | rw [if_pos (by omega)] | rw [if_neg (by omega)])
                  try rfl
                · refine hy_const (i := 47) rfl (by decide) ?_
                  refine hy_goto (i := 48) (tt := 50) rfl ?_
                  refine hy_ireturn (i := 50) rfl rfl ?_
                  refine ⟨congrArg some ?_, rfl⟩
                  unfold rc_reck
                  repeat (first | rw [if_pos (by omega)] | rw [if_neg (by omega)])
                  try rfl
theorem c_L_tellParts {a b : Int} : hy_Ct sc hm_L_tellParts 0 [.inr (some 11), .inl a, .inl b] t (hy_e none (hy_up (hy_up t 17 5 a) 17 6 b)) := by
  refine hy_mk_ct ok_L_tellParts ck_L_tellParts (Nat.le_of_ble_eq_true rfl) ?_
  refine hy_aload (i := 0) rfl rfl ?_
  refine hy_getr (i := 1) rfl rfl ?_
  refine hy_const (i := 2) rfl (by decide) ?_
  refine hy_iload (i := 3) rfl rfl ?_
  refine hy_iast (i := 4) rfl rfl (by decide) (show _ = 5 from rfl) ?_
  refine hy_aload (i := 5) rfl rfl ?_
  refine hy_getr (i := 6) rfl rfl ?_
  refine hy_const (i := 7) rfl (by decide) ?_
  refine hy_iload (i := 8) rfl rfl ?_
  refine hy_iast (i := 9) rfl rfl (by decide) (show _ = 6 from rfl) ?_
  refine hy_return (i := 10) rfl rfl ?_
  exact ⟨rfl, rfl⟩
theorem c_L_tellFields {a : Int} : hy_Ct sc hm_L_tellFields 0 [.inr (some 11), .inl a] t (hy_e none (hy_up t 17 7 a)) := by
  refine hy_mk_ct ok_L_tellFields ck_L_tellFields (Nat.le_of_ble_eq_true rfl) ?_
  refine hy_aload (i := 0) rfl rfl ?_
  refine hy_getr (i := 1) rfl rfl ?_
  refine hy_const (i := 2) rfl (by decide) ?_
  refine hy_iload (i := 3) rfl rfl ?_
  refine hy_iast (i := 4) rfl rfl (by decide) (show _ = 7 from rfl) ?_
  refine hy_return (i := 5) rfl rfl ?_
  exact ⟨rfl, rfl⟩
theorem c_L_tellAge {a : Int} : hy_Ct sc hm_L_tellAge 0 [.inr (some 11), .inl a] t (hy_e none (hy_up t 17 9 a)) := by
  refine hy_mk_ct ok_L_tellAge ck_L_tellAge (Nat.le_of_ble_eq_true rfl) ?_
  refine hy_aload (i := 0) rfl rfl ?_
  refine hy_getr (i := 1) rfl rfl ?_
  refine hy_const (i := 2) rfl (by decide) ?_
  refine hy_iload (i := 3) rfl rfl ?_
  refine hy_iast (i := 4) rfl rfl (by decide) (show _ = 9 from rfl) ?_
  refine hy_return (i := 5) rfl rfl ?_
  exact ⟨rfl, rfl⟩
def rc_tell (t : hy_T) (e c q dd m g : Int) : hy_T := hy_up (hy_up (hy_up (hy_up (hy_up (hy_up (hy_up (hy_up (hy_up (hy_up t 17 0 e) 17 1 c) 17 2 q) 17 3 dd) 17 4 m) 17 8 g) 17 5 0) 17 6 0) 17 7 0) 17 9 0
theorem c_L_tell {e c q dd m g : Int} : hy_Ct sc hm_L_tell 1 [.inr (some 11), .inl e, .inl c, .inl q, .inl dd, .inl m, .inl g] t (hy_e none (rc_tell t e c q dd m g)) := by
  refine hy_mk_ct ok_L_tell ck_L_tell (Nat.le_of_ble_eq_true rfl) ?_
  refine hy_aload (i := 0) rfl rfl ?_
  refine hy_getr (i := 1) rfl rfl ?_
  refine hy_const (i := 2) rfl (by decide) ?_
  refine hy_iload (i := 3) rfl rfl ?_
  refine hy_iast (i := 4) rfl rfl (by decide) (show _ = 0 from rfl) ?_
  refine hy_aload (i := 5) rfl rfl ?_
  refine hy_getr (i := 6) rfl rfl ?_
  refine hy_const (i := 7) rfl (by decide) ?_
  refine hy_iload (i := 8) rfl rfl ?_
  refine hy_iast (i := 9) rfl rfl (by decide) (show _ = 1 from rfl) ?_
  refine hy_aload (i := 10) rfl rfl ?_
  refine hy_getr (i := 11) rfl rfl ?_
  refine hy_const (i := 12) rfl (by decide) ?_
  refine hy_iload (i := 13) rfl rfl ?_
  refine hy_iast (i := 14) rfl rfl (by decide) (show _ = 2 from rfl) ?_
  refine hy_aload (i := 15) rfl rfl ?_
  refine hy_getr (i := 16) rfl rfl ?_
  refine hy_const (i := 17) rfl (by decide) ?_
  refine hy_iload (i := 18) rfl rfl ?_
  refine hy_iast (i := 19) rfl rfl (by decide) (show _ = 3 from rfl) ?_
  refine hy_aload (i := 20) rfl rfl ?_
  refine hy_getr (i := 21) rfl rfl ?_
  refine hy_const (i := 22) rfl (by decide) ?_
  refine hy_iload (i := 23) rfl rfl ?_
  refine hy_iast (i := 24) rfl rfl (by decide) (show _ = 4 from rfl) ?_
  refine hy_aload (i := 25) rfl rfl ?_
  refine hy_getr (i := 26) rfl rfl ?_
  refine hy_const (i := 27) rfl (by decide) ?_
  refine hy_iload (i := 28) rfl rfl ?_
  refine hy_iast (i := 29) rfl rfl (by decide) (show _ = 8 from rfl) ?_
  refine hy_aload (i := 30) rfl rfl ?_
  refine hy_const (i := 31) rfl (by decide) ?_
  refine hy_const (i := 32) rfl (by decide) ?_
  refine hy_cV2v (i := 33) rfl mj_L_tellParts (by decide) rfl (Nat.le_of_ble_eq_true rfl) rfl rfl rfl (c_L_tellParts) ?_
  refine hy_aload (i := 34) rfl rfl ?_
  refine hy_const (i := 35) rfl (by decide) ?_
  refine hy_cV1v (i := 36) rfl mj_L_tellFields (by decide) rfl (Nat.le_of_ble_eq_true rfl) rfl rfl rfl (c_L_tellFields) ?_
  refine hy_aload (i := 37) rfl rfl ?_
  refine hy_const (i := 38) rfl (by decide) ?_
  refine hy_cV1v (i := 39) rfl mj_L_tellAge (by decide) rfl (Nat.le_of_ble_eq_true rfl) rfl rfl rfl (c_L_tellAge) ?_
  refine hy_return (i := 40) rfl rfl ?_
  exact ⟨rfl, rfl⟩
theorem c_L_clauses : hy_Ct sc hm_L_clauses 0 [.inr (some 11)] t (hy_e (some (t 11 7)) t) := by
  refine hy_mk_ct ok_L_clauses ck_L_clauses (Nat.le_of_ble_eq_true rfl) ?_
  refine hy_aload (i := 0) rfl rfl ?_
  refine hy_get (i := 1) (fk := 7) rfl rfl rfl ?_
  refine hy_ireturn (i := 2) rfl rfl ?_
  exact ⟨rfl, rfl⟩
/-- a clause of a kind is there -/
def rc_has (t : hy_T) (k : Int) : Bool := decide (∃ j : Nat, j < (t 11 7).toNat ∧ t 14 j = k)
theorem c_L_hasKind {k : Int} (hc : 0 ≤ t 11 7 ∧ t 11 7 ≤ 16) : hy_Ct sc hm_L_hasKind 0 [.inr (some 11), .inl k] t (hy_e (some (hy_b (rc_has t k))) t) := by
  refine hy_mk_ct ok_L_hasKind ck_L_hasKind (Nat.le_of_ble_eq_true rfl) ?_
  have loop : ∀ (n : Nat), ∀ (j : Nat), n + j = (t 11 7).toNat → (∀ m : Nat, m < j → t 14 m ≠ k) → hy_W sc hm_L_hasKind 0 2 [.inr (some 11), .inl k, .inl (j : Int)] [] t (hy_e (some (hy_b (rc_has t k))) t) := by
    intro n
    induction n with
    | zero =>
      intro j hj hi
      refine hy_iload (i := 2) rfl rfl ?_
      refine hy_aload (i := 3) rfl rfl ?_
      refine hy_get (i := 4) (fk := 7) rfl rfl rfl ?_
      refine hy_ic_ge (i := 5) (tt := 16) rfl (fun zc1 => ?_) (fun zc1 => ?_)
      · refine hy_const (i := 16) rfl (by decide) ?_
        refine hy_zreturn (i := 17) rfl rfl (by first | decide | exact hy_b01 _) ?_
        exact ⟨congrArg some (by rw [show rc_has t k = false from decide_eq_false (fun ⟨m, h1, h2⟩ => hi m (by omega) h2)]; rfl), rfl⟩
      · omega
    | succ n ih =>
      intro j hj hi
      refine hy_iload (i := 2) rfl rfl ?_
      refine hy_aload (i := 3) rfl rfl ?_
      refine hy_get (i := 4) (fk := 7) rfl rfl rfl ?_
      refine hy_ic_ge (i := 5) (tt := 16) rfl (fun zc1 => ?_) (fun zc1 => ?_)
      · omega
      · refine hy_aload (i := 6) rfl rfl ?_
        refine hy_getr (i := 7) rfl rfl ?_
        refine hy_iload (i := 8) rfl rfl ?_
        refine hy_iald (i := 9) rfl rfl (by omega) rfl ?_
        refine hy_iload (i := 10) rfl rfl ?_
        refine hy_ic_ne (i := 11) (tt := 14) rfl (fun zc2 => ?_) (fun zc2 => ?_)
        · refine hy_iinc (i := 14) rfl rfl (by omega) ?_
          refine hy_goto (i := 15) (tt := 2) rfl ?_
          exact ih (j + 1) (by omega) (fun m hm => by rcases Nat.lt_succ_iff_lt_or_eq.mp hm with h | rfl; exact hi m h; assumption)
        · refine hy_const (i := 12) rfl (by decide) ?_
          refine hy_zreturn (i := 13) rfl rfl (by first | decide | exact hy_b01 _) ?_
          exact ⟨congrArg some (by rw [show rc_has t k = true from decide_eq_true ⟨j, by omega, by assumption⟩]; rfl), rfl⟩
  refine hy_const (i := 0) rfl (by decide) ?_
  refine hy_istore (i := 1) rfl ?_
  exact loop (t 11 7).toNat 0 rfl (fun m hm => by omega)
abbrev rX : Nat → Nat → Bool := fun r _ => r == 18
theorem c_L_run {a : Int} (hs : t 11 3 ≤ 241) (ha : ∀ j : Nat, j < 241 → 0 ≤ t 13 j) : hy_Ct sc hm_L_run 1 [.inr (some 11), .inl a] t (fun r t' => r = some (rc_val t 11 a) ∧ hy_F rX t t') := by
  refine hy_mk_ct ok_L_run ck_L_run (Nat.le_of_ble_eq_true rfl) ?_
  have loop : ∀ (n : Nat), ∀ (k : Int) (a0 : Int) (zi : Int) (z : Nat) (t1 : hy_T) (v5 v6 : hy_V), n + k = 240 → 0 ≤ k → z ≤ 32 → zi = z → hy_F rX t t1 → rc_run (t 12) (t 13) (t 17) (t 11 3) n a0 z (t1 18) = rc_val t 11 a →
      hy_W sc hm_L_run 1 6 [.inr (some 11), .inl a, .inl zi, .inl a0, .inl k, v5, v6] [] t1 (fun r t' => r = some (rc_val t 11 a) ∧ hy_F rX t t') := by
    intro n
    induction n with
    | zero =>
      intro k a0 zi z t1 v5 v6 hk hk0 hz hzi hF hv
      subst hzi
      refine hy_iload (i := 6) rfl rfl ?_
      refine hy_const (i := 7) rfl (by decide) ?_
      refine hy_ic_ge (i := 8) (tt := 154) rfl (fun zc1 => ?_) (fun zc1 => ?_)
      · refine hy_iload (i := 154) rfl rfl ?_
        refine hy_if_le (i := 155) (tt := 161) rfl (fun zc2 => ?_) (fun zc2 => ?_)
        · refine hy_const (i := 161) rfl (by decide) ?_
          refine hy_ireturn (i := 162) rfl rfl ?_
          refine ⟨congrArg some ?_, hF⟩
          rw [← hv]
          simp only [rc_run, rc_end]
          first | rw [if_pos (by omega)] | rw [if_neg (by omega)]
        · refine hy_aload (i := 156) rfl rfl ?_
          refine hy_getr (i := 157) rfl rfl ?_
          refine hy_const (i := 158) rfl (by decide) ?_
          refine hy_iald (i := 159) rfl rfl (by decide) (show _ = 0 from rfl) ?_
          refine hy_goto (i := 160) (tt := 162) rfl ?_
          refine hy_ireturn (i := 162) rfl rfl ?_
          refine ⟨congrArg some ?_, hF⟩
          rw [← hv]
          simp only [rc_run, rc_end]
          first | rw [if_pos (by omega)] | rw [if_neg (by omega)]
      · omega
    | succ n ih =>
      intro k a0 zi z t1 v5 v6 hk hk0 hz hzi hF hv
      subst hzi
      have o1 : ∀ j, t1 12 j = t 12 j := fun j => hF 12 j rfl
      have o2 : ∀ j, t1 13 j = t 13 j := fun j => hF 13 j rfl
      have o3 : ∀ j, t1 17 j = t 17 j := fun j => hF 17 j rfl
      have o4 : t1 11 3 = t 11 3 := hF 11 3 rfl
      refine hy_iload (i := 6) rfl rfl ?_
      refine hy_const (i := 7) rfl (by decide) ?_
      refine hy_ic_ge (i := 8) (tt := 154) rfl (fun zc1 => ?_) (fun zc1 => ?_)
      · omega
      · refine hy_iload (i := 9) rfl rfl ?_
        refine hy_if_lt (i := 10) (tt := 154) rfl (fun zc2 => ?_) (fun zc2 => ?_)
        · refine hy_iload (i := 154) rfl rfl ?_
          refine hy_if_le (i := 155) (tt := 161) rfl (fun zc3 => ?_) (fun zc3 => ?_)
          · refine hy_const (i := 161) rfl (by decide) ?_
            refine hy_ireturn (i := 162) rfl rfl ?_
            first | (exfalso; omega) | (refine ⟨congrArg some ?_, hF⟩; rw [← hv]; first | (rw [rc_no (by omega) (by unfold rc_step; repeat (first | rw [if_pos (by omega)] | rw [if_neg (by omega)]))]; done) | (rw [rc_stop (by omega)]; unfold rc_end; first | rw [if_pos (by omega)] | rw [if_neg (by omega)]))
          · refine hy_aload (i := 156) rfl rfl ?_
            refine hy_getr (i := 157) rfl rfl ?_
            refine hy_const (i := 158) rfl (by decide) ?_
            refine hy_iald (i := 159) rfl rfl (by omega) (show _ = 0 from rfl) ?_
            refine hy_goto (i := 160) (tt := 162) rfl ?_
            refine hy_ireturn (i := 162) rfl rfl ?_
            first | (exfalso; omega) | (refine ⟨congrArg some ?_, hF⟩; rw [← hv]; first | (rw [rc_no (by omega) (by unfold rc_step; repeat (first | rw [if_pos (by omega)] | rw [if_neg (by omega)]))]; done) | (rw [rc_stop (by omega)]; unfold rc_end; first | rw [if_pos (by omega)] | rw [if_neg (by omega)]))
        · refine hy_iload (i := 11) rfl rfl ?_
          refine hy_aload (i := 12) rfl rfl ?_
          refine hy_get (i := 13) (fk := 3) rfl rfl rfl ?_
          rw [o4]
          refine hy_ic_ge (i := 14) (tt := 154) rfl (fun zc3 => ?_) (fun zc3 => ?_)
          · refine hy_iload (i := 154) rfl rfl ?_
            refine hy_if_le (i := 155) (tt := 161) rfl (fun zc4 => ?_) (fun zc4 => ?_)
            · refine hy_const (i := 161) rfl (by decide) ?_
              refine hy_ireturn (i := 162) rfl rfl ?_
              first | (exfalso; omega) | (refine ⟨congrArg some ?_, hF⟩; rw [← hv]; first | (rw [rc_no (by omega) (by unfold rc_step; repeat (first | rw [if_pos (by omega)] | rw [if_neg (by omega)]))]; done) | (rw [rc_stop (by omega)]; unfold rc_end; first | rw [if_pos (by omega)] | rw [if_neg (by omega)]))
            · refine hy_aload (i := 156) rfl rfl ?_
              refine hy_getr (i := 157) rfl rfl ?_
              refine hy_const (i := 158) rfl (by decide) ?_
              refine hy_iald (i := 159) rfl rfl (by omega) (show _ = 0 from rfl) ?_
              refine hy_goto (i := 160) (tt := 162) rfl ?_
              refine hy_ireturn (i := 162) rfl rfl ?_
              first | (exfalso; omega) | (refine ⟨congrArg some ?_, hF⟩; rw [← hv]; first | (rw [rc_no (by omega) (by unfold rc_step; repeat (first | rw [if_pos (by omega)] | rw [if_neg (by omega)]))]; done) | (rw [rc_stop (by omega)]; unfold rc_end; first | rw [if_pos (by omega)] | rw [if_neg (by omega)]))
          · refine hy_aload (i := 15) rfl rfl ?_
            refine hy_getr (i := 16) rfl rfl ?_
            refine hy_iload (i := 17) rfl rfl ?_
            refine hy_iald (i := 18) rfl rfl (by omega) rfl ?_
            rw [o1]
            refine hy_const (i := 19) rfl (by decide) ?_
            refine hy_ic_eq (i := 20) (tt := 154) rfl (fun zc4 => ?_) (fun zc4 => ?_)
            · refine hy_iload (i := 154) rfl rfl ?_
              refine hy_if_le (i := 155) (tt := 161) rfl (fun zc5 => ?_) (fun zc5 => ?_)
              · refine hy_const (i := 161) rfl (by decide) ?_
                refine hy_ireturn (i := 162) rfl rfl ?_
                first | (exfalso; omega) | (refine ⟨congrArg some ?_, hF⟩; rw [← hv]; first | (rw [rc_no (by omega) (by unfold rc_step; repeat (first | rw [if_pos (by omega)] | rw [if_neg (by omega)]))]; done) | (rw [rc_stop (by omega)]; unfold rc_end; first | rw [if_pos (by omega)] | rw [if_neg (by omega)]))
              · refine hy_aload (i := 156) rfl rfl ?_
                refine hy_getr (i := 157) rfl rfl ?_
                refine hy_const (i := 158) rfl (by decide) ?_
                refine hy_iald (i := 159) rfl rfl (by omega) (show _ = 0 from rfl) ?_
                refine hy_goto (i := 160) (tt := 162) rfl ?_
                refine hy_ireturn (i := 162) rfl rfl ?_
                first | (exfalso; omega) | (refine ⟨congrArg some ?_, hF⟩; rw [← hv]; first | (rw [rc_no (by omega) (by unfold rc_step; repeat (first | rw [if_pos (by omega)] | rw [if_neg (by omega)]))]; done) | (rw [rc_stop (by omega)]; unfold rc_end; first | rw [if_pos (by omega)] | rw [if_neg (by omega)]))
            · refine hy_aload (i := 21) rfl rfl ?_
              refine hy_getr (i := 22) rfl rfl ?_
              refine hy_iload (i := 23) rfl rfl ?_
              refine hy_iald (i := 24) rfl rfl (by omega) rfl ?_
              rw [o1]
              refine hy_istore (i := 25) rfl ?_
              refine hy_aload (i := 26) rfl rfl ?_
              refine hy_getr (i := 27) rfl rfl ?_
              refine hy_iload (i := 28) rfl rfl ?_
              refine hy_iald (i := 29) rfl rfl (by omega) rfl ?_
              rw [o2]
              have ha1 := ha a0.toNat (by omega)
              refine hy_istore (i := 30) rfl ?_
              refine hy_iinc (i := 31) rfl rfl (by omega) ?_
              refine hy_iload (i := 32) rfl rfl ?_
              refine hy_const (i := 33) rfl (by decide) ?_
              refine hy_ic_eq (i := 34) (tt := 38) rfl (fun zc5 => ?_) (fun zc5 => ?_)
              · refine hy_iload (i := 38) rfl rfl ?_
                refine hy_aload (i := 39) rfl rfl ?_
                refine hy_getr (i := 40) rfl rfl ?_
                refine hy_alen (i := 41) rfl rfl (by decide) (by decide) ?_
                refine hy_ic_ge (i := 42) (tt := 152) rfl (fun zc6 => ?_) (fun zc6 => ?_)
                · refine hy_iinc (i := 152) rfl rfl (by omega) ?_
                  refine hy_goto (i := 153) (tt := 6) rfl ?_
                  first | (exfalso; omega) | exact ih (k + 1) _ _ (z + 1) _ _ _ (by omega) (by omega) (by omega) (by omega) (by first | exact hF | exact hF.up (by rfl)) (by rw [← hv]; refine (rc_go (by omega) ?_).symm; unfold rc_step; (repeat (first | rw [if_pos (by omega)] | rw [if_neg (by omega)])); try rw [hy_up_row]; try rfl) | exact ih (k + 1) _ _ (z) _ _ _ (by omega) (by omega) (by omega) (by omega) (by first | exact hF | exact hF.up (by rfl)) (by rw [← hv]; refine (rc_go (by omega) ?_).symm; unfold rc_step; (repeat (first | rw [if_pos (by omega)] | rw [if_neg (by omega)])); try rw [hy_up_row]; try rfl) | exact ih (k + 1) _ _ (z - 1) _ _ _ (by omega) (by omega) (by omega) (by omega) (by first | exact hF | exact hF.up (by rfl)) (by rw [← hv]; refine (rc_go (by omega) ?_).symm; unfold rc_step; (repeat (first | rw [if_pos (by omega)] | rw [if_neg (by omega)])); try rw [hy_up_row]; try rfl)
                · refine hy_iload (i := 43) rfl rfl ?_
                  refine hy_const (i := 44) rfl (by decide) ?_
                  refine hy_ic_eq (i := 45) (tt := 49) rfl (fun zc7 => ?_) (fun zc7 => ?_)
                  · refine hy_aload (i := 49) rfl rfl ?_
                    refine hy_getr (i := 50) rfl rfl ?_
                    refine hy_iload (i := 51) rfl rfl ?_
                    refine hy_iload (i := 52) rfl rfl ?_
                    refine hy_const (i := 53) rfl (by decide) ?_
                    refine hy_ic_ne (i := 54) (tt := 57) rfl (fun zc8 => ?_) (fun zc8 => ?_)
                    · refine hy_aload (i := 57) rfl rfl ?_
                      refine hy_getr (i := 58) rfl rfl ?_
                      refine hy_iload (i := 59) rfl rfl ?_
                      refine hy_iald (i := 60) rfl rfl (by omega) rfl ?_
                      try rw [o3]
                      refine hy_iast (i := 61) rfl rfl (by omega) (k := z) (by omega) ?_
                      refine hy_iinc (i := 62) rfl rfl (by omega) ?_
                      refine hy_goto (i := 63) (tt := 152) rfl ?_
                      refine hy_iinc (i := 152) rfl rfl (by omega) ?_
                      refine hy_goto (i := 153) (tt := 6) rfl ?_
                      first | (exfalso; omega) | exact ih (k + 1) _ _ (z + 1) _ _ _ (by omega) (by omega) (by omega) (by omega) (by first | exact hF | exact hF.up (by rfl)) (by rw [← hv]; refine (rc_go (by omega) ?_).symm; unfold rc_step; (repeat (first | rw [if_pos (by omega)] | rw [if_neg (by omega)])); try rw [hy_up_row]; try rfl) | exact ih (k + 1) _ _ (z) _ _ _ (by omega) (by omega) (by omega) (by omega) (by first | exact hF | exact hF.up (by rfl)) (by rw [← hv]; refine (rc_go (by omega) ?_).symm; unfold rc_step; (repeat (first | rw [if_pos (by omega)] | rw [if_neg (by omega)])); try rw [hy_up_row]; try rfl) | exact ih (k + 1) _ _ (z - 1) _ _ _ (by omega) (by omega) (by omega) (by omega) (by first | exact hF | exact hF.up (by rfl)) (by rw [← hv]; refine (rc_go (by omega) ?_).symm; unfold rc_step; (repeat (first | rw [if_pos (by omega)] | rw [if_neg (by omega)])); try rw [hy_up_row]; try rfl)
                    · refine hy_iload (i := 55) rfl rfl ?_
                      refine hy_goto (i := 56) (tt := 61) rfl ?_
                      try rw [o3]
                      refine hy_iast (i := 61) rfl rfl (by omega) (k := z) (by omega) ?_
                      refine hy_iinc (i := 62) rfl rfl (by omega) ?_
                      refine hy_goto (i := 63) (tt := 152) rfl ?_
                      refine hy_iinc (i := 152) rfl rfl (by omega) ?_
                      refine hy_goto (i := 153) (tt := 6) rfl ?_
                      first | (exfalso; omega) | exact ih (k + 1) _ _ (z + 1) _ _ _ (by omega) (by omega) (by omega) (by omega) (by first | exact hF | exact hF.up (by rfl)) (by rw [← hv]; refine (rc_go (by omega) ?_).symm; unfold rc_step; (repeat (first | rw [if_pos (by omega)] | rw [if_neg (by omega)])); try rw [hy_up_row]; try rfl) | exact ih (k + 1) _ _ (z) _ _ _ (by omega) (by omega) (by omega) (by omega) (by first | exact hF | exact hF.up (by rfl)) (by rw [← hv]; refine (rc_go (by omega) ?_).symm; unfold rc_step; (repeat (first | rw [if_pos (by omega)] | rw [if_neg (by omega)])); try rw [hy_up_row]; try rfl) | exact ih (k + 1) _ _ (z - 1) _ _ _ (by omega) (by omega) (by omega) (by omega) (by first | exact hF | exact hF.up (by rfl)) (by rw [← hv]; refine (rc_go (by omega) ?_).symm; unfold rc_step; (repeat (first | rw [if_pos (by omega)] | rw [if_neg (by omega)])); try rw [hy_up_row]; try rfl)
                  · refine hy_iload (i := 46) rfl rfl ?_
                    refine hy_const (i := 47) rfl (by decide) ?_
                    refine hy_ic_ge (i := 48) (tt := 152) rfl (fun zc8 => ?_) (fun zc8 => ?_)
                    · refine hy_iinc (i := 152) rfl rfl (by omega) ?_
                      refine hy_goto (i := 153) (tt := 6) rfl ?_
                      first | (exfalso; omega) | exact ih (k + 1) _ _ (z + 1) _ _ _ (by omega) (by omega) (by omega) (by omega) (by first | exact hF | exact hF.up (by rfl)) (by rw [← hv]; refine (rc_go (by omega) ?_).symm; unfold rc_step; (repeat (first | rw [if_pos (by omega)] | rw [if_neg (by omega)])); try rw [hy_up_row]; try rfl) | exact ih (k + 1) _ _ (z) _ _ _ (by omega) (by omega) (by omega) (by omega) (by first | exact hF | exact hF.up (by rfl)) (by rw [← hv]; refine (rc_go (by omega) ?_).symm; unfold rc_step; (repeat (first | rw [if_pos (by omega)] | rw [if_neg (by omega)])); try rw [hy_up_row]; try rfl) | exact ih (k + 1) _ _ (z - 1) _ _ _ (by omega) (by omega) (by omega) (by omega) (by first | exact hF | exact hF.up (by rfl)) (by rw [← hv]; refine (rc_go (by omega) ?_).symm; unfold rc_step; (repeat (first | rw [if_pos (by omega)] | rw [if_neg (by omega)])); try rw [hy_up_row]; try rfl)
                    · refine hy_aload (i := 49) rfl rfl ?_
                      refine hy_getr (i := 50) rfl rfl ?_
                      refine hy_iload (i := 51) rfl rfl ?_
                      refine hy_iload (i := 52) rfl rfl ?_
                      refine hy_const (i := 53) rfl (by decide) ?_
                      refine hy_ic_ne (i := 54) (tt := 57) rfl (fun zc9 => ?_) (fun zc9 => ?_)
                      · refine hy_aload (i := 57) rfl rfl ?_
                        refine hy_getr (i := 58) rfl rfl ?_
                        refine hy_iload (i := 59) rfl rfl ?_
                        refine hy_iald (i := 60) rfl rfl (by omega) rfl ?_
                        try rw [o3]
                        refine hy_iast (i := 61) rfl rfl (by omega) (k := z) (by omega) ?_
                        refine hy_iinc (i := 62) rfl rfl (by omega) ?_
                        refine hy_goto (i := 63) (tt := 152) rfl ?_
                        refine hy_iinc (i := 152) rfl rfl (by omega) ?_
                        refine hy_goto (i := 153) (tt := 6) rfl ?_
                        first | (exfalso; omega) | exact ih (k + 1) _ _ (z + 1) _ _ _ (by omega) (by omega) (by omega) (by omega) (by first | exact hF | exact hF.up (by rfl)) (by rw [← hv]; refine (rc_go (by omega) ?_).symm; unfold rc_step; (repeat (first | rw [if_pos (by omega)] | rw [if_neg (by omega)])); try rw [hy_up_row]; try rfl) | exact ih (k + 1) _ _ (z) _ _ _ (by omega) (by omega) (by omega) (by omega) (by first | exact hF | exact hF.up (by rfl)) (by rw [← hv]; refine (rc_go (by omega) ?_).symm; unfold rc_step; (repeat (first | rw [if_pos (by omega)] | rw [if_neg (by omega)])); try rw [hy_up_row]; try rfl) | exact ih (k + 1) _ _ (z - 1) _ _ _ (by omega) (by omega) (by omega) (by omega) (by first | exact hF | exact hF.up (by rfl)) (by rw [← hv]; refine (rc_go (by omega) ?_).symm; unfold rc_step; (repeat (first | rw [if_pos (by omega)] | rw [if_neg (by omega)])); try rw [hy_up_row]; try rfl)
                      · refine hy_iload (i := 55) rfl rfl ?_
                        refine hy_goto (i := 56) (tt := 61) rfl ?_
                        try rw [o3]
                        refine hy_iast (i := 61) rfl rfl (by omega) (k := z) (by omega) ?_
                        refine hy_iinc (i := 62) rfl rfl (by omega) ?_
                        refine hy_goto (i := 63) (tt := 152) rfl ?_
                        refine hy_iinc (i := 152) rfl rfl (by omega) ?_
                        refine hy_goto (i := 153) (tt := 6) rfl ?_
                        first | (exfalso; omega) | exact ih (k + 1) _ _ (z + 1) _ _ _ (by omega) (by omega) (by omega) (by omega) (by first | exact hF | exact hF.up (by rfl)) (by rw [← hv]; refine (rc_go (by omega) ?_).symm; unfold rc_step; (repeat (first | rw [if_pos (by omega)] | rw [if_neg (by omega)])); try rw [hy_up_row]; try rfl) | exact ih (k + 1) _ _ (z) _ _ _ (by omega) (by omega) (by omega) (by omega) (by first | exact hF | exact hF.up (by rfl)) (by rw [← hv]; refine (rc_go (by omega) ?_).symm; unfold rc_step; (repeat (first | rw [if_pos (by omega)] | rw [if_neg (by omega)])); try rw [hy_up_row]; try rfl) | exact ih (k + 1) _ _ (z - 1) _ _ _ (by omega) (by omega) (by omega) (by omega) (by first | exact hF | exact hF.up (by rfl)) (by rw [← hv]; refine (rc_go (by omega) ?_).symm; unfold rc_step; (repeat (first | rw [if_pos (by omega)] | rw [if_neg (by omega)])); try rw [hy_up_row]; try rfl)
              · refine hy_iload (i := 35) rfl rfl ?_
                refine hy_const (i := 36) rfl (by decide) ?_
                refine hy_ic_ne (i := 37) (tt := 64) rfl (fun zc6 => ?_) (fun zc6 => ?_)
                · refine hy_iload (i := 64) rfl rfl ?_
                  refine hy_const (i := 65) rfl (by decide) ?_
                  refine hy_ic_ge (i := 66) (tt := 69) rfl (fun zc7 => ?_) (fun zc7 => ?_)
                  · refine hy_iload (i := 69) rfl rfl ?_
                    refine hy_const (i := 70) rfl (by decide) ?_
                    refine hy_ic_ne (i := 71) (tt := 87) rfl (fun zc8 => ?_) (fun zc8 => ?_)
                    · refine hy_iload (i := 87) rfl rfl ?_
                      refine hy_const (i := 88) rfl (by decide) ?_
                      refine hy_ic_eq (i := 89) (tt := 93) rfl (fun zc9 => ?_) (fun zc9 => ?_)
                      · refine hy_aload (i := 93) rfl rfl ?_
                        refine hy_getr (i := 94) rfl rfl ?_
                        refine hy_iload (i := 95) rfl rfl ?_
                        refine hy_const (i := 96) rfl (by decide) ?_
                        refine hy_isub (i := 97) rfl (by omega) ?_
                        refine hy_iald (i := 98) rfl rfl (by omega) (k := z - 1) (by omega) ?_
                        refine hy_if_eq (i := 99) (tt := 102) rfl (fun zc10 => ?_) (fun zc10 => ?_)
                        · refine hy_const (i := 102) rfl (by decide) ?_
                          refine hy_iload (i := 103) rfl rfl ?_
                          refine hy_const (i := 104) rfl (by decide) ?_
                          refine hy_ic_ne (i := 105) (tt := 108) rfl (fun zc11 => ?_) (fun zc11 => ?_)
                          · refine hy_const (i := 108) rfl (by decide) ?_
                            refine hy_ic_ne (i := 109) (tt := 113) rfl (fun zc12 => ?_) (fun zc12 => ?_)
                            · refine hy_iinc (i := 113) rfl rfl (by omega) ?_
                              refine hy_goto (i := 114) (tt := 152) rfl ?_
                              refine hy_iinc (i := 152) rfl rfl (by omega) ?_
                              refine hy_goto (i := 153) (tt := 6) rfl ?_
                              first | (exfalso; omega) | exact ih (k + 1) _ _ (z + 1) _ _ _ (by omega) (by omega) (by omega) (by omega) (by first | exact hF | exact hF.up (by rfl)) (by rw [← hv]; refine (rc_go (by omega) ?_).symm; unfold rc_step; (repeat (first | rw [if_pos (by omega)] | rw [if_neg (by omega)])); try rw [hy_up_row]; try rfl) | exact ih (k + 1) _ _ (z) _ _ _ (by omega) (by omega) (by omega) (by omega) (by first | exact hF | exact hF.up (by rfl)) (by rw [← hv]; refine (rc_go (by omega) ?_).symm; unfold rc_step; (repeat (first | rw [if_pos (by omega)] | rw [if_neg (by omega)])); try rw [hy_up_row]; try rfl) | exact ih (k + 1) _ _ (z - 1) _ _ _ (by omega) (by omega) (by omega) (by omega) (by first | exact hF | exact hF.up (by rfl)) (by rw [← hv]; refine (rc_go (by omega) ?_).symm; unfold rc_step; (repeat (first | rw [if_pos (by omega)] | rw [if_neg (by omega)])); try rw [hy_up_row]; try rfl)
                            · refine hy_iload (i := 110) rfl rfl ?_
                              refine hy_istore (i := 111) rfl ?_
                              refine hy_goto (i := 112) (tt := 152) rfl ?_
                              refine hy_iinc (i := 152) rfl rfl (by omega) ?_
                              refine hy_goto (i := 153) (tt := 6) rfl ?_
                              first | (exfalso; omega) | exact ih (k + 1) _ _ (z + 1) _ _ _ (by omega) (by omega) (by omega) (by omega) (by first | exact hF | exact hF.up (by rfl)) (by rw [← hv]; refine (rc_go (by omega) ?_).symm; unfold rc_step; (repeat (first | rw [if_pos (by omega)] | rw [if_neg (by omega)])); try rw [hy_up_row]; try rfl) | exact ih (k + 1) _ _ (z) _ _ _ (by omega) (by omega) (by omega) (by omega) (by first | exact hF | exact hF.up (by rfl)) (by rw [← hv]; refine (rc_go (by omega) ?_).symm; unfold rc_step; (repeat (first | rw [if_pos (by omega)] | rw [if_neg (by omega)])); try rw [hy_up_row]; try rfl) | exact ih (k + 1) _ _ (z - 1) _ _ _ (by omega) (by omega) (by omega) (by omega) (by first | exact hF | exact hF.up (by rfl)) (by rw [← hv]; refine (rc_go (by omega) ?_).symm; unfold rc_step; (repeat (first | rw [if_pos (by omega)] | rw [if_neg (by omega)])); try rw [hy_up_row]; try rfl)
                          · refine hy_const (i := 106) rfl (by decide) ?_
                            refine hy_goto (i := 107) (tt := 109) rfl ?_
                            refine hy_ic_ne (i := 109) (tt := 113) rfl (fun zc12 => ?_) (fun zc12 => ?_)
                            · refine hy_iinc (i := 113) rfl rfl (by omega) ?_
                              refine hy_goto (i := 114) (tt := 152) rfl ?_
                              refine hy_iinc (i := 152) rfl rfl (by omega) ?_
                              refine hy_goto (i := 153) (tt := 6) rfl ?_
                              first | (exfalso; omega) | exact ih (k + 1) _ _ (z + 1) _ _ _ (by omega) (by omega) (by omega) (by omega) (by first | exact hF | exact hF.up (by rfl)) (by rw [← hv]; refine (rc_go (by omega) ?_).symm; unfold rc_step; (repeat (first | rw [if_pos (by omega)] | rw [if_neg (by omega)])); try rw [hy_up_row]; try rfl) | exact ih (k + 1) _ _ (z) _ _ _ (by omega) (by omega) (by omega) (by omega) (by first | exact hF | exact hF.up (by rfl)) (by rw [← hv]; refine (rc_go (by omega) ?_).symm; unfold rc_step; (repeat (first | rw [if_pos (by omega)] | rw [if_neg (by omega)])); try rw [hy_up_row]; try rfl) | exact ih (k + 1) _ _ (z - 1) _ _ _ (by omega) (by omega) (by omega) (by omega) (by first | exact hF | exact hF.up (by rfl)) (by rw [← hv]; refine (rc_go (by omega) ?_).symm; unfold rc_step; (repeat (first | rw [if_pos (by omega)] | rw [if_neg (by omega)])); try rw [hy_up_row]; try rfl)
                            · refine hy_iload (i := 110) rfl rfl ?_
                              refine hy_istore (i := 111) rfl ?_
                              refine hy_goto (i := 112) (tt := 152) rfl ?_
                              refine hy_iinc (i := 152) rfl rfl (by omega) ?_
                              refine hy_goto (i := 153) (tt := 6) rfl ?_
                              first | (exfalso; omega) | exact ih (k + 1) _ _ (z + 1) _ _ _ (by omega) (by omega) (by omega) (by omega) (by first | exact hF | exact hF.up (by rfl)) (by rw [← hv]; refine (rc_go (by omega) ?_).symm; unfold rc_step; (repeat (first | rw [if_pos (by omega)] | rw [if_neg (by omega)])); try rw [hy_up_row]; try rfl) | exact ih (k + 1) _ _ (z) _ _ _ (by omega) (by omega) (by omega) (by omega) (by first | exact hF | exact hF.up (by rfl)) (by rw [← hv]; refine (rc_go (by omega) ?_).symm; unfold rc_step; (repeat (first | rw [if_pos (by omega)] | rw [if_neg (by omega)])); try rw [hy_up_row]; try rfl) | exact ih (k + 1) _ _ (z - 1) _ _ _ (by omega) (by omega) (by omega) (by omega) (by first | exact hF | exact hF.up (by rfl)) (by rw [← hv]; refine (rc_go (by omega) ?_).symm; unfold rc_step; (repeat (first | rw [if_pos (by omega)] | rw [if_neg (by omega)])); try rw [hy_up_row]; try rfl)
                        · refine hy_const (i := 100) rfl (by decide) ?_
                          refine hy_goto (i := 101) (tt := 103) rfl ?_
                          refine hy_iload (i := 103) rfl rfl ?_
                          refine hy_const (i := 104) rfl (by decide) ?_
                          refine hy_ic_ne (i := 105) (tt := 108) rfl (fun zc11 => ?_) (fun zc11 => ?_)
                          · refine hy_const (i := 108) rfl (by decide) ?_
                            refine hy_ic_ne (i := 109) (tt := 113) rfl (fun zc12 => ?_) (fun zc12 => ?_)
                            · refine hy_iinc (i := 113) rfl rfl (by omega) ?_
                              refine hy_goto (i := 114) (tt := 152) rfl ?_
                              refine hy_iinc (i := 152) rfl rfl (by omega) ?_
                              refine hy_goto (i := 153) (tt := 6) rfl ?_
                              first | (exfalso; omega) | exact ih (k + 1) _ _ (z + 1) _ _ _ (by omega) (by omega) (by omega) (by omega) (by first | exact hF | exact hF.up (by rfl)) (by rw [← hv]; refine (rc_go (by omega) ?_).symm; unfold rc_step; (repeat (first | rw [if_pos (by omega)] | rw [if_neg (by omega)])); try rw [hy_up_row]; try rfl) | exact ih (k + 1) _ _ (z) _ _ _ (by omega) (by omega) (by omega) (by omega) (by first | exact hF | exact hF.up (by rfl)) (by rw [← hv]; refine (rc_go (by omega) ?_).symm; unfold rc_step; (repeat (first | rw [if_pos (by omega)] | rw [if_neg (by omega)])); try rw [hy_up_row]; try rfl) | exact ih (k + 1) _ _ (z - 1) _ _ _ (by omega) (by omega) (by omega) (by omega) (by first | exact hF | exact hF.up (by rfl)) (by rw [← hv]; refine (rc_go (by omega) ?_).symm; unfold rc_step; (repeat (first | rw [if_pos (by omega)] | rw [if_neg (by omega)])); try rw [hy_up_row]; try rfl)
                            · refine hy_iload (i := 110) rfl rfl ?_
                              refine hy_istore (i := 111) rfl ?_
                              refine hy_goto (i := 112) (tt := 152) rfl ?_
                              refine hy_iinc (i := 152) rfl rfl (by omega) ?_
                              refine hy_goto (i := 153) (tt := 6) rfl ?_
                              first | (exfalso; omega) | exact ih (k + 1) _ _ (z + 1) _ _ _ (by omega) (by omega) (by omega) (by omega) (by first | exact hF | exact hF.up (by rfl)) (by rw [← hv]; refine (rc_go (by omega) ?_).symm; unfold rc_step; (repeat (first | rw [if_pos (by omega)] | rw [if_neg (by omega)])); try rw [hy_up_row]; try rfl) | exact ih (k + 1) _ _ (z) _ _ _ (by omega) (by omega) (by omega) (by omega) (by first | exact hF | exact hF.up (by rfl)) (by rw [← hv]; refine (rc_go (by omega) ?_).symm; unfold rc_step; (repeat (first | rw [if_pos (by omega)] | rw [if_neg (by omega)])); try rw [hy_up_row]; try rfl) | exact ih (k + 1) _ _ (z - 1) _ _ _ (by omega) (by omega) (by omega) (by omega) (by first | exact hF | exact hF.up (by rfl)) (by rw [← hv]; refine (rc_go (by omega) ?_).symm; unfold rc_step; (repeat (first | rw [if_pos (by omega)] | rw [if_neg (by omega)])); try rw [hy_up_row]; try rfl)
                          · refine hy_const (i := 106) rfl (by decide) ?_
                            refine hy_goto (i := 107) (tt := 109) rfl ?_
                            refine hy_ic_ne (i := 109) (tt := 113) rfl (fun zc12 => ?_) (fun zc12 => ?_)
                            · refine hy_iinc (i := 113) rfl rfl (by omega) ?_
                              refine hy_goto (i := 114) (tt := 152) rfl ?_
                              refine hy_iinc (i := 152) rfl rfl (by omega) ?_
                              refine hy_goto (i := 153) (tt := 6) rfl ?_
                              first | (exfalso; omega) | exact ih (k + 1) _ _ (z + 1) _ _ _ (by omega) (by omega) (by omega) (by omega) (by first | exact hF | exact hF.up (by rfl)) (by rw [← hv]; refine (rc_go (by omega) ?_).symm; unfold rc_step; (repeat (first | rw [if_pos (by omega)] | rw [if_neg (by omega)])); try rw [hy_up_row]; try rfl) | exact ih (k + 1) _ _ (z) _ _ _ (by omega) (by omega) (by omega) (by omega) (by first | exact hF | exact hF.up (by rfl)) (by rw [← hv]; refine (rc_go (by omega) ?_).symm; unfold rc_step; (repeat (first | rw [if_pos (by omega)] | rw [if_neg (by omega)])); try rw [hy_up_row]; try rfl) | exact ih (k + 1) _ _ (z - 1) _ _ _ (by omega) (by omega) (by omega) (by omega) (by first | exact hF | exact hF.up (by rfl)) (by rw [← hv]; refine (rc_go (by omega) ?_).symm; unfold rc_step; (repeat (first | rw [if_pos (by omega)] | rw [if_neg (by omega)])); try rw [hy_up_row]; try rfl)
                            · refine hy_iload (i := 110) rfl rfl ?_
                              refine hy_istore (i := 111) rfl ?_
                              refine hy_goto (i := 112) (tt := 152) rfl ?_
                              refine hy_iinc (i := 152) rfl rfl (by omega) ?_
                              refine hy_goto (i := 153) (tt := 6) rfl ?_
                              first | (exfalso; omega) | exact ih (k + 1) _ _ (z + 1) _ _ _ (by omega) (by omega) (by omega) (by omega) (by first | exact hF | exact hF.up (by rfl)) (by rw [← hv]; refine (rc_go (by omega) ?_).symm; unfold rc_step; (repeat (first | rw [if_pos (by omega)] | rw [if_neg (by omega)])); try rw [hy_up_row]; try rfl) | exact ih (k + 1) _ _ (z) _ _ _ (by omega) (by omega) (by omega) (by omega) (by first | exact hF | exact hF.up (by rfl)) (by rw [← hv]; refine (rc_go (by omega) ?_).symm; unfold rc_step; (repeat (first | rw [if_pos (by omega)] | rw [if_neg (by omega)])); try rw [hy_up_row]; try rfl) | exact ih (k + 1) _ _ (z - 1) _ _ _ (by omega) (by omega) (by omega) (by omega) (by first | exact hF | exact hF.up (by rfl)) (by rw [← hv]; refine (rc_go (by omega) ?_).symm; unfold rc_step; (repeat (first | rw [if_pos (by omega)] | rw [if_neg (by omega)])); try rw [hy_up_row]; try rfl)
                      · refine hy_iload (i := 90) rfl rfl ?_
                        refine hy_const (i := 91) rfl (by decide) ?_
                        refine hy_ic_ne (i := 92) (tt := 115) rfl (fun zc10 => ?_) (fun zc10 => ?_)
                        · refine hy_iload (i := 115) rfl rfl ?_
                          refine hy_const (i := 116) rfl (by decide) ?_
                          refine hy_ic_lt (i := 117) (tt := 131) rfl (fun zc11 => ?_) (fun zc11 => ?_)
                          · refine hy_const (i := 131) rfl (by decide) ?_
                            refine hy_ireturn (i := 132) rfl rfl ?_
                            first | (exfalso; omega) | (refine ⟨congrArg some ?_, hF⟩; rw [← hv]; first | (rw [rc_no (by omega) (by unfold rc_step; repeat (first | rw [if_pos (by omega)] | rw [if_neg (by omega)]))]; done) | (rw [rc_stop (by omega)]; unfold rc_end; first | rw [if_pos (by omega)] | rw [if_neg (by omega)]))
                          · refine hy_aload (i := 118) rfl rfl ?_
                            refine hy_getr (i := 119) rfl rfl ?_
                            refine hy_iload (i := 120) rfl rfl ?_
                            refine hy_const (i := 121) rfl (by decide) ?_
                            refine hy_isub (i := 122) rfl (by omega) ?_
                            refine hy_iald (i := 123) rfl rfl (by omega) (k := z - 1) (by omega) ?_
                            refine hy_if_ne (i := 124) (tt := 133) rfl (fun zc12 => ?_) (fun zc12 => ?_)
                            · refine hy_iinc (i := 133) rfl rfl (by omega) ?_
                              refine hy_aload (i := 134) rfl rfl ?_
                              refine hy_getr (i := 135) rfl rfl ?_
                              refine hy_iload (i := 136) rfl rfl ?_
                              refine hy_const (i := 137) rfl (by decide) ?_
                              refine hy_isub (i := 138) rfl (by omega) ?_
                              refine hy_aload (i := 139) rfl rfl ?_
                              refine hy_getr (i := 140) rfl rfl ?_
                              refine hy_iload (i := 141) rfl rfl ?_
                              refine hy_const (i := 142) rfl (by decide) ?_
                              refine hy_isub (i := 143) rfl (by omega) ?_
                              refine hy_iald (i := 144) rfl rfl (by omega) (k := z - 2) (by omega) ?_
                              refine hy_iload (i := 145) rfl rfl ?_
                              refine hy_aload (i := 146) rfl rfl ?_
                              refine hy_getr (i := 147) rfl rfl ?_
                              refine hy_iload (i := 148) rfl rfl ?_
                              refine hy_iald (i := 149) rfl rfl (by omega) (k := z - 1) (by omega) ?_
                              refine hy_cS3e (i := 150) rfl (by decide) mj_L_reckoned (by decide) rfl (Nat.le_of_ble_eq_true rfl) (c_L_reckoned) ?_
                              refine hy_iast (i := 151) rfl rfl (by omega) (k := z - 2) (by omega) ?_
                              refine hy_iinc (i := 152) rfl rfl (by omega) ?_
                              refine hy_goto (i := 153) (tt := 6) rfl ?_
                              first | (exfalso; omega) | exact ih (k + 1) _ _ (z + 1) _ _ _ (by omega) (by omega) (by omega) (by omega) (by first | exact hF | exact hF.up (by rfl)) (by rw [← hv]; refine (rc_go (by omega) ?_).symm; unfold rc_step; (repeat (first | rw [if_pos (by omega)] | rw [if_neg (by omega)])); try rw [hy_up_row]; try rfl) | exact ih (k + 1) _ _ (z) _ _ _ (by omega) (by omega) (by omega) (by omega) (by first | exact hF | exact hF.up (by rfl)) (by rw [← hv]; refine (rc_go (by omega) ?_).symm; unfold rc_step; (repeat (first | rw [if_pos (by omega)] | rw [if_neg (by omega)])); try rw [hy_up_row]; try rfl) | exact ih (k + 1) _ _ (z - 1) _ _ _ (by omega) (by omega) (by omega) (by omega) (by first | exact hF | exact hF.up (by rfl)) (by rw [← hv]; refine (rc_go (by omega) ?_).symm; unfold rc_step; (repeat (first | rw [if_pos (by omega)] | rw [if_neg (by omega)])); try rw [hy_up_row]; try rfl)
                            · refine hy_iload (i := 125) rfl rfl ?_
                              refine hy_const (i := 126) rfl (by decide) ?_
                              refine hy_ic_eq (i := 127) (tt := 131) rfl (fun zc13 => ?_) (fun zc13 => ?_)
                              · refine hy_const (i := 131) rfl (by decide) ?_
                                refine hy_ireturn (i := 132) rfl rfl ?_
                                first | (exfalso; omega) | (refine ⟨congrArg some ?_, hF⟩; rw [← hv]; first | (rw [rc_no (by omega) (by unfold rc_step; repeat (first | rw [if_pos (by omega)] | rw [if_neg (by omega)]))]; done) | (rw [rc_stop (by omega)]; unfold rc_end; first | rw [if_pos (by omega)] | rw [if_neg (by omega)]))
                              · refine hy_iload (i := 128) rfl rfl ?_
                                refine hy_const (i := 129) rfl (by decide) ?_
                                refine hy_ic_ne (i := 130) (tt := 133) rfl (fun zc14 => ?_) (fun zc14 => ?_)
                                · refine hy_iinc (i := 133) rfl rfl (by omega) ?_
                                  refine hy_aload (i := 134) rfl rfl ?_
                                  refine hy_getr (i := 135) rfl rfl ?_
                                  refine hy_iload (i := 136) rfl rfl ?_
                                  refine hy_const (i := 137) rfl (by decide) ?_
                                  refine hy_isub (i := 138) rfl (by omega) ?_
                                  refine hy_aload (i := 139) rfl rfl ?_
                                  refine hy_getr (i := 140) rfl rfl ?_
                                  refine hy_iload (i := 141) rfl rfl ?_
                                  refine hy_const (i := 142) rfl (by decide) ?_
                                  refine hy_isub (i := 143) rfl (by omega) ?_
                                  refine hy_iald (i := 144) rfl rfl (by omega) (k := z - 2) (by omega) ?_
                                  refine hy_iload (i := 145) rfl rfl ?_
                                  refine hy_aload (i := 146) rfl rfl ?_
                                  refine hy_getr (i := 147) rfl rfl ?_
                                  refine hy_iload (i := 148) rfl rfl ?_
                                  refine hy_iald (i := 149) rfl rfl (by omega) (k := z - 1) (by omega) ?_
                                  refine hy_cS3e (i := 150) rfl (by decide) mj_L_reckoned (by decide) rfl (Nat.le_of_ble_eq_true rfl) (c_L_reckoned) ?_
                                  refine hy_iast (i := 151) rfl rfl (by omega) (k := z - 2) (by omega) ?_
                                  refine hy_iinc (i := 152) rfl rfl (by omega) ?_
                                  refine hy_goto (i := 153) (tt := 6) rfl ?_
                                  first | (exfalso; omega) | exact ih (k + 1) _ _ (z + 1) _ _ _ (by omega) (by omega) (by omega) (by omega) (by first | exact hF | exact hF.up (by rfl)) (by rw [← hv]; refine (rc_go (by omega) ?_).symm; unfold rc_step; (repeat (first | rw [if_pos (by omega)] | rw [if_neg (by omega)])); try rw [hy_up_row]; try rfl) | exact ih (k + 1) _ _ (z) _ _ _ (by omega) (by omega) (by omega) (by omega) (by first | exact hF | exact hF.up (by rfl)) (by rw [← hv]; refine (rc_go (by omega) ?_).symm; unfold rc_step; (repeat (first | rw [if_pos (by omega)] | rw [if_neg (by omega)])); try rw [hy_up_row]; try rfl) | exact ih (k + 1) _ _ (z - 1) _ _ _ (by omega) (by omega) (by omega) (by omega) (by first | exact hF | exact hF.up (by rfl)) (by rw [← hv]; refine (rc_go (by omega) ?_).symm; unfold rc_step; (repeat (first | rw [if_pos (by omega)] | rw [if_neg (by omega)])); try rw [hy_up_row]; try rfl)
                                · refine hy_const (i := 131) rfl (by decide) ?_
                                  refine hy_ireturn (i := 132) rfl rfl ?_
                                  first | (exfalso; omega) | (refine ⟨congrArg some ?_, hF⟩; rw [← hv]; first | (rw [rc_no (by omega) (by unfold rc_step; repeat (first | rw [if_pos (by omega)] | rw [if_neg (by omega)]))]; done) | (rw [rc_stop (by omega)]; unfold rc_end; first | rw [if_pos (by omega)] | rw [if_neg (by omega)]))
                        · refine hy_aload (i := 93) rfl rfl ?_
                          refine hy_getr (i := 94) rfl rfl ?_
                          refine hy_iload (i := 95) rfl rfl ?_
                          refine hy_const (i := 96) rfl (by decide) ?_
                          refine hy_isub (i := 97) rfl (by omega) ?_
                          refine hy_iald (i := 98) rfl rfl (by omega) (k := z - 1) (by omega) ?_
                          refine hy_if_eq (i := 99) (tt := 102) rfl (fun zc11 => ?_) (fun zc11 => ?_)
                          · refine hy_const (i := 102) rfl (by decide) ?_
                            refine hy_iload (i := 103) rfl rfl ?_
                            refine hy_const (i := 104) rfl (by decide) ?_
                            refine hy_ic_ne (i := 105) (tt := 108) rfl (fun zc12 => ?_) (fun zc12 => ?_)
                            · refine hy_const (i := 108) rfl (by decide) ?_
                              refine hy_ic_ne (i := 109) (tt := 113) rfl (fun zc13 => ?_) (fun zc13 => ?_)
                              · refine hy_iinc (i := 113) rfl rfl (by omega) ?_
                                refine hy_goto (i := 114) (tt := 152) rfl ?_
                                refine hy_iinc (i := 152) rfl rfl (by omega) ?_
                                refine hy_goto (i := 153) (tt := 6) rfl ?_
                                first | (exfalso; omega) | exact ih (k + 1) _ _ (z + 1) _ _ _ (by omega) (by omega) (by omega) (by omega) (by first | exact hF | exact hF.up (by rfl)) (by rw [← hv]; refine (rc_go (by omega) ?_).symm; unfold rc_step; (repeat (first | rw [if_pos (by omega)] | rw [if_neg (by omega)])); try rw [hy_up_row]; try rfl) | exact ih (k + 1) _ _ (z) _ _ _ (by omega) (by omega) (by omega) (by omega) (by first | exact hF | exact hF.up (by rfl)) (by rw [← hv]; refine (rc_go (by omega) ?_).symm; unfold rc_step; (repeat (first | rw [if_pos (by omega)] | rw [if_neg (by omega)])); try rw [hy_up_row]; try rfl) | exact ih (k + 1) _ _ (z - 1) _ _ _ (by omega) (by omega) (by omega) (by omega) (by first | exact hF | exact hF.up (by rfl)) (by rw [← hv]; refine (rc_go (by omega) ?_).symm; unfold rc_step; (repeat (first | rw [if_pos (by omega)] | rw [if_neg (by omega)])); try rw [hy_up_row]; try rfl)
                              · refine hy_iload (i := 110) rfl rfl ?_
                                refine hy_istore (i := 111) rfl ?_
                                refine hy_goto (i := 112) (tt := 152) rfl ?_
                                refine hy_iinc (i := 152) rfl rfl (by omega) ?_
                                refine hy_goto (i := 153) (tt := 6) rfl ?_
                                first | (exfalso; omega) | exact ih (k + 1) _ _ (z + 1) _ _ _ (by omega) (by omega) (by omega) (by omega) (by first | exact hF | exact hF.up (by rfl)) (by rw [← hv]; refine (rc_go (by omega) ?_).symm; unfold rc_step; (repeat (first | rw [if_pos (by omega)] | rw [if_neg (by omega)])); try rw [hy_up_row]; try rfl) | exact ih (k + 1) _ _ (z) _ _ _ (by omega) (by omega) (by omega) (by omega) (by first | exact hF | exact hF.up (by rfl)) (by rw [← hv]; refine (rc_go (by omega) ?_).symm; unfold rc_step; (repeat (first | rw [if_pos (by omega)] | rw [if_neg (by omega)])); try rw [hy_up_row]; try rfl) | exact ih (k + 1) _ _ (z - 1) _ _ _ (by omega) (by omega) (by omega) (by omega) (by first | exact hF | exact hF.up (by rfl)) (by rw [← hv]; refine (rc_go (by omega) ?_).symm; unfold rc_step; (repeat (first | rw [if_pos (by omega)] | rw [if_neg (by omega)])); try rw [hy_up_row]; try rfl)
                            · refine hy_const (i := 106) rfl (by decide) ?_
                              refine hy_goto (i := 107) (tt := 109) rfl ?_
                              refine hy_ic_ne (i := 109) (tt := 113) rfl (fun zc13 => ?_) (fun zc13 => ?_)
                              · refine hy_iinc (i := 113) rfl rfl (by omega) ?_
                                refine hy_goto (i := 114) (tt := 152) rfl ?_
                                refine hy_iinc (i := 152) rfl rfl (by omega) ?_
                                refine hy_goto (i := 153) (tt := 6) rfl ?_
                                first | (exfalso; omega) | exact ih (k + 1) _ _ (z + 1) _ _ _ (by omega) (by omega) (by omega) (by omega) (by first | exact hF | exact hF.up (by rfl)) (by rw [← hv]; refine (rc_go (by omega) ?_).symm; unfold rc_step; (repeat (first | rw [if_pos (by omega)] | rw [if_neg (by omega)])); try rw [hy_up_row]; try rfl) | exact ih (k + 1) _ _ (z) _ _ _ (by omega) (by omega) (by omega) (by omega) (by first | exact hF | exact hF.up (by rfl)) (by rw [← hv]; refine (rc_go (by omega) ?_).symm; unfold rc_step; (repeat (first | rw [if_pos (by omega)] | rw [if_neg (by omega)])); try rw [hy_up_row]; try rfl) | exact ih (k + 1) _ _ (z - 1) _ _ _ (by omega) (by omega) (by omega) (by omega) (by first | exact hF | exact hF.up (by rfl)) (by rw [← hv]; refine (rc_go (by omega) ?_).symm; unfold rc_step; (repeat (first | rw [if_pos (by omega)] | rw [if_neg (by omega)])); try rw [hy_up_row]; try rfl)
                              · refine hy_iload (i := 110) rfl rfl ?_
                                refine hy_istore (i := 111) rfl ?_
                                refine hy_goto (i := 112) (tt := 152) rfl ?_
                                refine hy_iinc (i := 152) rfl rfl (by omega) ?_
                                refine hy_goto (i := 153) (tt := 6) rfl ?_
                                first | (exfalso; omega) | exact ih (k + 1) _ _ (z + 1) _ _ _ (by omega) (by omega) (by omega) (by omega) (by first | exact hF | exact hF.up (by rfl)) (by rw [← hv]; refine (rc_go (by omega) ?_).symm; unfold rc_step; (repeat (first | rw [if_pos (by omega)] | rw [if_neg (by omega)])); try rw [hy_up_row]; try rfl) | exact ih (k + 1) _ _ (z) _ _ _ (by omega) (by omega) (by omega) (by omega) (by first | exact hF | exact hF.up (by rfl)) (by rw [← hv]; refine (rc_go (by omega) ?_).symm; unfold rc_step; (repeat (first | rw [if_pos (by omega)] | rw [if_neg (by omega)])); try rw [hy_up_row]; try rfl) | exact ih (k + 1) _ _ (z - 1) _ _ _ (by omega) (by omega) (by omega) (by omega) (by first | exact hF | exact hF.up (by rfl)) (by rw [← hv]; refine (rc_go (by omega) ?_).symm; unfold rc_step; (repeat (first | rw [if_pos (by omega)] | rw [if_neg (by omega)])); try rw [hy_up_row]; try rfl)
                          · refine hy_const (i := 100) rfl (by decide) ?_
                            refine hy_goto (i := 101) (tt := 103) rfl ?_
                            refine hy_iload (i := 103) rfl rfl ?_
                            refine hy_const (i := 104) rfl (by decide) ?_
                            refine hy_ic_ne (i := 105) (tt := 108) rfl (fun zc12 => ?_) (fun zc12 => ?_)
                            · refine hy_const (i := 108) rfl (by decide) ?_
                              refine hy_ic_ne (i := 109) (tt := 113) rfl (fun zc13 => ?_) (fun zc13 => ?_)
                              · refine hy_iinc (i := 113) rfl rfl (by omega) ?_
                                refine hy_goto (i := 114) (tt := 152) rfl ?_
                                refine hy_iinc (i := 152) rfl rfl (by omega) ?_
                                refine hy_goto (i := 153) (tt := 6) rfl ?_
                                first | (exfalso; omega) | exact ih (k + 1) _ _ (z + 1) _ _ _ (by omega) (by omega) (by omega) (by omega) (by first | exact hF | exact hF.up (by rfl)) (by rw [← hv]; refine (rc_go (by omega) ?_).symm; unfold rc_step; (repeat (first | rw [if_pos (by omega)] | rw [if_neg (by omega)])); try rw [hy_up_row]; try rfl) | exact ih (k + 1) _ _ (z) _ _ _ (by omega) (by omega) (by omega) (by omega) (by first | exact hF | exact hF.up (by rfl)) (by rw [← hv]; refine (rc_go (by omega) ?_).symm; unfold rc_step; (repeat (first | rw [if_pos (by omega)] | rw [if_neg (by omega)])); try rw [hy_up_row]; try rfl) | exact ih (k + 1) _ _ (z - 1) _ _ _ (by omega) (by omega) (by omega) (by omega) (by first | exact hF | exact hF.up (by rfl)) (by rw [← hv]; refine (rc_go (by omega) ?_).symm; unfold rc_step; (repeat (first | rw [if_pos (by omega)] | rw [if_neg (by omega)])); try rw [hy_up_row]; try rfl)
                              · refine hy_iload (i := 110) rfl rfl ?_
                                refine hy_istore (i := 111) rfl ?_
                                refine hy_goto (i := 112) (tt := 152) rfl ?_
                                refine hy_iinc (i := 152) rfl rfl (by omega) ?_
                                refine hy_goto (i := 153) (tt := 6) rfl ?_
                                first | (exfalso; omega) | exact ih (k + 1) _ _ (z + 1) _ _ _ (by omega) (by omega) (by omega) (by omega) (by first | exact hF | exact hF.up (by rfl)) (by rw [← hv]; refine (rc_go (by omega) ?_).symm; unfold rc_step; (repeat (first | rw [if_pos (by omega)] | rw [if_neg (by omega)])); try rw [hy_up_row]; try rfl) | exact ih (k + 1) _ _ (z) _ _ _ (by omega) (by omega) (by omega) (by omega) (by first | exact hF | exact hF.up (by rfl)) (by rw [← hv]; refine (rc_go (by omega) ?_).symm; unfold rc_step; (repeat (first | rw [if_pos (by omega)] | rw [if_neg (by omega)])); try rw [hy_up_row]; try rfl) | exact ih (k + 1) _ _ (z - 1) _ _ _ (by omega) (by omega) (by omega) (by omega) (by first | exact hF | exact hF.up (by rfl)) (by rw [← hv]; refine (rc_go (by omega) ?_).symm; unfold rc_step; (repeat (first | rw [if_pos (by omega)] | rw [if_neg (by omega)])); try rw [hy_up_row]; try rfl)
                            · refine hy_const (i := 106) rfl (by decide) ?_
                              refine hy_goto (i := 107) (tt := 109) rfl ?_
                              refine hy_ic_ne (i := 109) (tt := 113) rfl (fun zc13 => ?_) (fun zc13 => ?_)
                              · refine hy_iinc (i := 113) rfl rfl (by omega) ?_
                                refine hy_goto (i := 114) (tt := 152) rfl ?_
                                refine hy_iinc (i := 152) rfl rfl (by omega) ?_
                                refine hy_goto (i := 153) (tt := 6) rfl ?_
                                first | (exfalso; omega) | exact ih (k + 1) _ _ (z + 1) _ _ _ (by omega) (by omega) (by omega) (by omega) (by first | exact hF | exact hF.up (by rfl)) (by rw [← hv]; refine (rc_go (by omega) ?_).symm; unfold rc_step; (repeat (first | rw [if_pos (by omega)] | rw [if_neg (by omega)])); try rw [hy_up_row]; try rfl) | exact ih (k + 1) _ _ (z) _ _ _ (by omega) (by omega) (by omega) (by omega) (by first | exact hF | exact hF.up (by rfl)) (by rw [← hv]; refine (rc_go (by omega) ?_).symm; unfold rc_step; (repeat (first | rw [if_pos (by omega)] | rw [if_neg (by omega)])); try rw [hy_up_row]; try rfl) | exact ih (k + 1) _ _ (z - 1) _ _ _ (by omega) (by omega) (by omega) (by omega) (by first | exact hF | exact hF.up (by rfl)) (by rw [← hv]; refine (rc_go (by omega) ?_).symm; unfold rc_step; (repeat (first | rw [if_pos (by omega)] | rw [if_neg (by omega)])); try rw [hy_up_row]; try rfl)
                              · refine hy_iload (i := 110) rfl rfl ?_
                                refine hy_istore (i := 111) rfl ?_
                                refine hy_goto (i := 112) (tt := 152) rfl ?_
                                refine hy_iinc (i := 152) rfl rfl (by omega) ?_
                                refine hy_goto (i := 153) (tt := 6) rfl ?_
                                first | (exfalso; omega) | exact ih (k + 1) _ _ (z + 1) _ _ _ (by omega) (by omega) (by omega) (by omega) (by first | exact hF | exact hF.up (by rfl)) (by rw [← hv]; refine (rc_go (by omega) ?_).symm; unfold rc_step; (repeat (first | rw [if_pos (by omega)] | rw [if_neg (by omega)])); try rw [hy_up_row]; try rfl) | exact ih (k + 1) _ _ (z) _ _ _ (by omega) (by omega) (by omega) (by omega) (by first | exact hF | exact hF.up (by rfl)) (by rw [← hv]; refine (rc_go (by omega) ?_).symm; unfold rc_step; (repeat (first | rw [if_pos (by omega)] | rw [if_neg (by omega)])); try rw [hy_up_row]; try rfl) | exact ih (k + 1) _ _ (z - 1) _ _ _ (by omega) (by omega) (by omega) (by omega) (by first | exact hF | exact hF.up (by rfl)) (by rw [← hv]; refine (rc_go (by omega) ?_).symm; unfold rc_step; (repeat (first | rw [if_pos (by omega)] | rw [if_neg (by omega)])); try rw [hy_up_row]; try rfl)
                    · refine hy_aload (i := 72) rfl rfl ?_
                      refine hy_getr (i := 73) rfl rfl ?_
                      refine hy_iload (i := 74) rfl rfl ?_
                      refine hy_const (i := 75) rfl (by decide) ?_
                      refine hy_isub (i := 76) rfl (by omega) ?_
                      refine hy_const (i := 77) rfl (by decide) ?_
                      refine hy_aload (i := 78) rfl rfl ?_
                      refine hy_getr (i := 79) rfl rfl ?_
                      refine hy_iload (i := 80) rfl rfl ?_
                      refine hy_const (i := 81) rfl (by decide) ?_
                      refine hy_isub (i := 82) rfl (by omega) ?_
                      refine hy_iald (i := 83) rfl rfl (by omega) (k := z - 1) (by omega) ?_
                      refine hy_isubw (i := 84) rfl ?_
                      refine hy_iast (i := 85) rfl rfl (by omega) (k := z - 1) (by omega) ?_
                      refine hy_goto (i := 86) (tt := 152) rfl ?_
                      refine hy_iinc (i := 152) rfl rfl (by omega) ?_
                      refine hy_goto (i := 153) (tt := 6) rfl ?_
                      first | (exfalso; omega) | exact ih (k + 1) _ _ (z + 1) _ _ _ (by omega) (by omega) (by omega) (by omega) (by first | exact hF | exact hF.up (by rfl)) (by rw [← hv]; refine (rc_go (by omega) ?_).symm; unfold rc_step; (repeat (first | rw [if_pos (by omega)] | rw [if_neg (by omega)])); try rw [hy_up_row]; try rfl) | exact ih (k + 1) _ _ (z) _ _ _ (by omega) (by omega) (by omega) (by omega) (by first | exact hF | exact hF.up (by rfl)) (by rw [← hv]; refine (rc_go (by omega) ?_).symm; unfold rc_step; (repeat (first | rw [if_pos (by omega)] | rw [if_neg (by omega)])); try rw [hy_up_row]; try rfl) | exact ih (k + 1) _ _ (z - 1) _ _ _ (by omega) (by omega) (by omega) (by omega) (by first | exact hF | exact hF.up (by rfl)) (by rw [← hv]; refine (rc_go (by omega) ?_).symm; unfold rc_step; (repeat (first | rw [if_pos (by omega)] | rw [if_neg (by omega)])); try rw [hy_up_row]; try rfl)
                  · refine hy_const (i := 67) rfl (by decide) ?_
                    refine hy_ireturn (i := 68) rfl rfl ?_
                    first | (exfalso; omega) | (refine ⟨congrArg some ?_, hF⟩; rw [← hv]; first | (rw [rc_no (by omega) (by unfold rc_step; repeat (first | rw [if_pos (by omega)] | rw [if_neg (by omega)]))]; done) | (rw [rc_stop (by omega)]; unfold rc_end; first | rw [if_pos (by omega)] | rw [if_neg (by omega)]))
                · refine hy_iload (i := 38) rfl rfl ?_
                  refine hy_aload (i := 39) rfl rfl ?_
                  refine hy_getr (i := 40) rfl rfl ?_
                  refine hy_alen (i := 41) rfl rfl (by decide) (by decide) ?_
                  refine hy_ic_ge (i := 42) (tt := 152) rfl (fun zc7 => ?_) (fun zc7 => ?_)
                  · refine hy_iinc (i := 152) rfl rfl (by omega) ?_
                    refine hy_goto (i := 153) (tt := 6) rfl ?_
                    first | (exfalso; omega) | exact ih (k + 1) _ _ (z + 1) _ _ _ (by omega) (by omega) (by omega) (by omega) (by first | exact hF | exact hF.up (by rfl)) (by rw [← hv]; refine (rc_go (by omega) ?_).symm; unfold rc_step; (repeat (first | rw [if_pos (by omega)] | rw [if_neg (by omega)])); try rw [hy_up_row]; try rfl) | exact ih (k + 1) _ _ (z) _ _ _ (by omega) (by omega) (by omega) (by omega) (by first | exact hF | exact hF.up (by rfl)) (by rw [← hv]; refine (rc_go (by omega) ?_).symm; unfold rc_step; (repeat (first | rw [if_pos (by omega)] | rw [if_neg (by omega)])); try rw [hy_up_row]; try rfl) | exact ih (k + 1) _ _ (z - 1) _ _ _ (by omega) (by omega) (by omega) (by omega) (by first | exact hF | exact hF.up (by rfl)) (by rw [← hv]; refine (rc_go (by omega) ?_).symm; unfold rc_step; (repeat (first | rw [if_pos (by omega)] | rw [if_neg (by omega)])); try rw [hy_up_row]; try rfl)
                  · refine hy_iload (i := 43) rfl rfl ?_
                    refine hy_const (i := 44) rfl (by decide) ?_
                    refine hy_ic_eq (i := 45) (tt := 49) rfl (fun zc8 => ?_) (fun zc8 => ?_)
                    · refine hy_aload (i := 49) rfl rfl ?_
                      refine hy_getr (i := 50) rfl rfl ?_
                      refine hy_iload (i := 51) rfl rfl ?_
                      refine hy_iload (i := 52) rfl rfl ?_
                      refine hy_const (i := 53) rfl (by decide) ?_
                      refine hy_ic_ne (i := 54) (tt := 57) rfl (fun zc9 => ?_) (fun zc9 => ?_)
                      · refine hy_aload (i := 57) rfl rfl ?_
                        refine hy_getr (i := 58) rfl rfl ?_
                        refine hy_iload (i := 59) rfl rfl ?_
                        refine hy_iald (i := 60) rfl rfl (by omega) rfl ?_
                        try rw [o3]
                        refine hy_iast (i := 61) rfl rfl (by omega) (k := z) (by omega) ?_
                        refine hy_iinc (i := 62) rfl rfl (by omega) ?_
                        refine hy_goto (i := 63) (tt := 152) rfl ?_
                        refine hy_iinc (i := 152) rfl rfl (by omega) ?_
                        refine hy_goto (i := 153) (tt := 6) rfl ?_
                        first | (exfalso; omega) | exact ih (k + 1) _ _ (z + 1) _ _ _ (by omega) (by omega) (by omega) (by omega) (by first | exact hF | exact hF.up (by rfl)) (by rw [← hv]; refine (rc_go (by omega) ?_).symm; unfold rc_step; (repeat (first | rw [if_pos (by omega)] | rw [if_neg (by omega)])); try rw [hy_up_row]; try rfl) | exact ih (k + 1) _ _ (z) _ _ _ (by omega) (by omega) (by omega) (by omega) (by first | exact hF | exact hF.up (by rfl)) (by rw [← hv]; refine (rc_go (by omega) ?_).symm; unfold rc_step; (repeat (first | rw [if_pos (by omega)] | rw [if_neg (by omega)])); try rw [hy_up_row]; try rfl) | exact ih (k + 1) _ _ (z - 1) _ _ _ (by omega) (by omega) (by omega) (by omega) (by first | exact hF | exact hF.up (by rfl)) (by rw [← hv]; refine (rc_go (by omega) ?_).symm; unfold rc_step; (repeat (first | rw [if_pos (by omega)] | rw [if_neg (by omega)])); try rw [hy_up_row]; try rfl)
                      · refine hy_iload (i := 55) rfl rfl ?_
                        refine hy_goto (i := 56) (tt := 61) rfl ?_
                        try rw [o3]
                        refine hy_iast (i := 61) rfl rfl (by omega) (k := z) (by omega) ?_
                        refine hy_iinc (i := 62) rfl rfl (by omega) ?_
                        refine hy_goto (i := 63) (tt := 152) rfl ?_
                        refine hy_iinc (i := 152) rfl rfl (by omega) ?_
                        refine hy_goto (i := 153) (tt := 6) rfl ?_
                        first | (exfalso; omega) | exact ih (k + 1) _ _ (z + 1) _ _ _ (by omega) (by omega) (by omega) (by omega) (by first | exact hF | exact hF.up (by rfl)) (by rw [← hv]; refine (rc_go (by omega) ?_).symm; unfold rc_step; (repeat (first | rw [if_pos (by omega)] | rw [if_neg (by omega)])); try rw [hy_up_row]; try rfl) | exact ih (k + 1) _ _ (z) _ _ _ (by omega) (by omega) (by omega) (by omega) (by first | exact hF | exact hF.up (by rfl)) (by rw [← hv]; refine (rc_go (by omega) ?_).symm; unfold rc_step; (repeat (first | rw [if_pos (by omega)] | rw [if_neg (by omega)])); try rw [hy_up_row]; try rfl) | exact ih (k + 1) _ _ (z - 1) _ _ _ (by omega) (by omega) (by omega) (by omega) (by first | exact hF | exact hF.up (by rfl)) (by rw [← hv]; refine (rc_go (by omega) ?_).symm; unfold rc_step; (repeat (first | rw [if_pos (by omega)] | rw [if_neg (by omega)])); try rw [hy_up_row]; try rfl)
                    · refine hy_iload (i := 46) rfl rfl ?_
                      refine hy_const (i := 47) rfl (by decide) ?_
                      refine hy_ic_ge (i := 48) (tt := 152) rfl (fun zc9 => ?_) (fun zc9 => ?_)
                      · refine hy_iinc (i := 152) rfl rfl (by omega) ?_
                        refine hy_goto (i := 153) (tt := 6) rfl ?_
                        first | (exfalso; omega) | exact ih (k + 1) _ _ (z + 1) _ _ _ (by omega) (by omega) (by omega) (by omega) (by first | exact hF | exact hF.up (by rfl)) (by rw [← hv]; refine (rc_go (by omega) ?_).symm; unfold rc_step; (repeat (first | rw [if_pos (by omega)] | rw [if_neg (by omega)])); try rw [hy_up_row]; try rfl) | exact ih (k + 1) _ _ (z) _ _ _ (by omega) (by omega) (by omega) (by omega) (by first | exact hF | exact hF.up (by rfl)) (by rw [← hv]; refine (rc_go (by omega) ?_).symm; unfold rc_step; (repeat (first | rw [if_pos (by omega)] | rw [if_neg (by omega)])); try rw [hy_up_row]; try rfl) | exact ih (k + 1) _ _ (z - 1) _ _ _ (by omega) (by omega) (by omega) (by omega) (by first | exact hF | exact hF.up (by rfl)) (by rw [← hv]; refine (rc_go (by omega) ?_).symm; unfold rc_step; (repeat (first | rw [if_pos (by omega)] | rw [if_neg (by omega)])); try rw [hy_up_row]; try rfl)
                      · refine hy_aload (i := 49) rfl rfl ?_
                        refine hy_getr (i := 50) rfl rfl ?_
                        refine hy_iload (i := 51) rfl rfl ?_
                        refine hy_iload (i := 52) rfl rfl ?_
                        refine hy_const (i := 53) rfl (by decide) ?_
                        refine hy_ic_ne (i := 54) (tt := 57) rfl (fun zc10 => ?_) (fun zc10 => ?_)
                        · refine hy_aload (i := 57) rfl rfl ?_
                          refine hy_getr (i := 58) rfl rfl ?_
                          refine hy_iload (i := 59) rfl rfl ?_
                          refine hy_iald (i := 60) rfl rfl (by omega) rfl ?_
                          try rw [o3]
                          refine hy_iast (i := 61) rfl rfl (by omega) (k := z) (by omega) ?_
                          refine hy_iinc (i := 62) rfl rfl (by omega) ?_
                          refine hy_goto (i := 63) (tt := 152) rfl ?_
                          refine hy_iinc (i := 152) rfl rfl (by omega) ?_
                          refine hy_goto (i := 153) (tt := 6) rfl ?_
                          first | (exfalso; omega) | exact ih (k + 1) _ _ (z + 1) _ _ _ (by omega) (by omega) (by omega) (by omega) (by first | exact hF | exact hF.up (by rfl)) (by rw [← hv]; refine (rc_go (by omega) ?_).symm; unfold rc_step; (repeat (first | rw [if_pos (by omega)] | rw [if_neg (by omega)])); try rw [hy_up_row]; try rfl) | exact ih (k + 1) _ _ (z) _ _ _ (by omega) (by omega) (by omega) (by omega) (by first | exact hF | exact hF.up (by rfl)) (by rw [← hv]; refine (rc_go (by omega) ?_).symm; unfold rc_step; (repeat (first | rw [if_pos (by omega)] | rw [if_neg (by omega)])); try rw [hy_up_row]; try rfl) | exact ih (k + 1) _ _ (z - 1) _ _ _ (by omega) (by omega) (by omega) (by omega) (by first | exact hF | exact hF.up (by rfl)) (by rw [← hv]; refine (rc_go (by omega) ?_).symm; unfold rc_step; (repeat (first | rw [if_pos (by omega)] | rw [if_neg (by omega)])); try rw [hy_up_row]; try rfl)
                        · refine hy_iload (i := 55) rfl rfl ?_
                          refine hy_goto (i := 56) (tt := 61) rfl ?_
                          try rw [o3]
                          refine hy_iast (i := 61) rfl rfl (by omega) (k := z) (by omega) ?_
                          refine hy_iinc (i := 62) rfl rfl (by omega) ?_
                          refine hy_goto (i := 63) (tt := 152) rfl ?_
                          refine hy_iinc (i := 152) rfl rfl (by omega) ?_
                          refine hy_goto (i := 153) (tt := 6) rfl ?_
                          first | (exfalso; omega) | exact ih (k + 1) _ _ (z + 1) _ _ _ (by omega) (by omega) (by omega) (by omega) (by first | exact hF | exact hF.up (by rfl)) (by rw [← hv]; refine (rc_go (by omega) ?_).symm; unfold rc_step; (repeat (first | rw [if_pos (by omega)] | rw [if_neg (by omega)])); try rw [hy_up_row]; try rfl) | exact ih (k + 1) _ _ (z) _ _ _ (by omega) (by omega) (by omega) (by omega) (by first | exact hF | exact hF.up (by rfl)) (by rw [← hv]; refine (rc_go (by omega) ?_).symm; unfold rc_step; (repeat (first | rw [if_pos (by omega)] | rw [if_neg (by omega)])); try rw [hy_up_row]; try rfl) | exact ih (k + 1) _ _ (z - 1) _ _ _ (by omega) (by omega) (by omega) (by omega) (by first | exact hF | exact hF.up (by rfl)) (by rw [← hv]; refine (rc_go (by omega) ?_).symm; unfold rc_step; (repeat (first | rw [if_pos (by omega)] | rw [if_neg (by omega)])); try rw [hy_up_row]; try rfl)
  refine hy_const (i := 0) rfl (by decide) ?_
  refine hy_istore (i := 1) rfl ?_
  refine hy_iload (i := 2) rfl rfl ?_
  refine hy_istore (i := 3) rfl ?_
  refine hy_const (i := 4) rfl (by decide) ?_
  refine hy_istore (i := 5) rfl ?_
  exact loop 240 0 a 0 0 t _ _ rfl (by decide) (by decide) rfl hy_F.rf (rc_eq _ _ _ _ 240 a 0 _ _ (fun j hj => by omega))
end LW
