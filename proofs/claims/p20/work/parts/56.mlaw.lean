/-! the model's law: what its codes come to -/
def mc_reck (op x y : Int) : Int :=
  if op = 2 then w32 (x + y)
  else if op = 3 then w32 (x - y)
  else if op = 4 then w32 (x * y)
  else if op = 5 then hz_div x y
  else if op = 6 then hz_rem x y
  else if op = 7 then (if x < y then 1 else 0)
  else if op = 8 then (if y < x then 1 else 0)
  else (if x = y then 1 else 0)
def mc_step (op v : Int) (V : Nat → Int) (k : Int) (z : Nat) (f : Nat → Int) : Option (Int × Nat × (Nat → Int)) :=
  if op = 0 ∨ op = 1 then some (k, z + 1, su f z (if op = 0 then v else V v.toNat))
  else if op = 10 then some (k, z, su f (z - 1) (w32 (1 - f (z - 1))))
  else if op = 11 ∨ op = 12 then (if (op = 12 ∧ f (z - 1) = 1) ∨ (op = 11 ∧ f (z - 1) = 0) then some (v, z, f) else some (k, z - 1, f))
  else if (op = 5 ∨ op = 6) ∧ f (z - 1) = 0 then none
  else some (k, z - 1, su f (z - 2) (mc_reck op (f (z - 2)) (f (z - 1))))
def mc_run (C V : Nat → Int) (b : Int) : Nat → Int → Nat → (Nat → Int) → Int
  | 0, _, _, f => f 0
  | m + 1, k, z, f => if k < b then
      match mc_step (C k.toNat / 1048576) (C k.toNat % 1048576) V (k + 1) z f with
      | none => 0
      | some q => mc_run C V b m q.1 q.2.1 q.2.2
    else f 0
theorem mc_go {C V : Nat → Int} {b : Int} {m z z' : Nat} {k k' : Int} {f f' : Nat → Int} (h : k < b) (hs : mc_step (C k.toNat / 1048576) (C k.toNat % 1048576) V (k + 1) z f = some (k', z', f')) : mc_run C V b (m + 1) k z f = mc_run C V b m k' z' f' := by
  simp only [mc_run]
  rw [if_pos h, hs]
theorem mc_no {C V : Nat → Int} {b : Int} {m z : Nat} {k : Int} {f : Nat → Int} (h : k < b) (hs : mc_step (C k.toNat / 1048576) (C k.toNat % 1048576) V (k + 1) z f = none) : mc_run C V b (m + 1) k z f = 0 := by
  simp only [mc_run]
  rw [if_pos h, hs]
theorem mc_stop {C V : Nat → Int} {b : Int} {m z : Nat} {k : Int} {f : Nat → Int} (h : ¬ k < b) : mc_run C V b m k z f = f 0 := by
  cases m with
  | zero => rfl
  | succ m => simp only [mc_run]; rw [if_neg h]
/-- codes that are well laid: D is how many lie on the stack -/
def mc_at (C : Nat → Int) (b : Int) (D : Nat → Nat) (k : Nat) : Prop :=
  (0 ≤ C k ∧ C k < 16777216 ∧ D k ≤ 250) ∧
  ((C k / 1048576 = 0 ∨ C k / 1048576 = 1) → D (k + 1) = D k + 1 ∧ (C k / 1048576 = 1 → C k % 1048576 < 10)) ∧
  (C k / 1048576 = 10 → 1 ≤ D k ∧ D (k + 1) = D k) ∧
  ((C k / 1048576 = 11 ∨ C k / 1048576 = 12) → 1 ≤ D k ∧ D (k + 1) + 1 = D k ∧ (k : Int) < C k % 1048576 ∧ C k % 1048576 ≤ b ∧ D (C k % 1048576).toNat = D k) ∧
  (¬ (C k / 1048576 = 0 ∨ C k / 1048576 = 1) → ¬ C k / 1048576 = 10 → ¬ (C k / 1048576 = 11 ∨ C k / 1048576 = 12) → 2 ≤ D k ∧ D (k + 1) + 1 = D k)
def mc_wfD (C : Nat → Int) (a b : Int) (D : Nat → Nat) : Prop := (0 ≤ a ∧ a ≤ b ∧ b < 260) ∧ D a.toNat = 0 ∧ D b.toNat = 1 ∧ ∀ k : Nat, a ≤ k → (k : Int) < b → mc_at C b D k
def mc_wf (C : Nat → Int) (a b : Int) : Prop := ∃ D : Nat → Nat, mc_wfD C a b D
theorem mc_eq {C V V' : Nat → Int} {a b : Int} {D : Nat → Nat} (h : mc_wfD C a b D) (hV : ∀ j, j < 10 → V j = V' j) : ∀ (m : Nat) (k : Int) (z : Nat) (f g : Nat → Int), (∀ j, j < z → f j = g j) → a ≤ k → k ≤ b → b - k ≤ m → D k.toNat = z → mc_run C V b m k z f = mc_run C V' b m k z g
  | 0, k, z, f, g, hf, ha, hb, hm, hD => by
    obtain ⟨h0, -, h1, -⟩ := h
    obtain rfl : k = b := by omega
    exact hf 0 (by omega)
  | m + 1, k, z, f, g, hf, ha, hb, hm, hD => by
    by_cases hk : k < b
    · obtain ⟨h0, -, h1, h2⟩ := id h
      obtain ⟨c0, c1, c2, c3, c4⟩ := h2 k.toNat (by omega) (by omega)
      have e1 : (k + 1).toNat = k.toNat + 1 := by omega
      by_cases zc1 : C k.toNat / 1048576 = 0 ∨ C k.toNat / 1048576 = 1
      · obtain ⟨d1, d3⟩ := c1 zc1
        have s1 : ∀ (V : Nat → Int) (f : Nat → Int), mc_step (C k.toNat / 1048576) (C k.toNat % 1048576) V (k + 1) z f = some (k + 1, z + 1, su f z (if C k.toNat / 1048576 = 0 then C k.toNat % 1048576 else V (C k.toNat % 1048576).toNat)) := fun V f => by unfold mc_step; rw [if_pos zc1]
        rw [mc_go hk (s1 V f), mc_go hk (s1 V' g)]
        refine mc_eq h hV m _ _ _ _ (fun j hj => ?_) (by omega) (by omega) (by omega) (by rw [e1]; omega)
        simp only [su]
        by_cases hjz : j = z
        · rw [if_pos hjz, if_pos hjz]
          by_cases h00 : C k.toNat / 1048576 = 0
          · rw [if_pos h00, if_pos h00]
          · rw [if_neg h00, if_neg h00]
            exact hV _ (by have := d3 (by omega); omega)
        · rw [if_neg hjz, if_neg hjz]
          exact hf j (by omega)
      · by_cases zc2 : C k.toNat / 1048576 = 10
        · obtain ⟨d1, d2⟩ := c2 zc2
          have s1 : ∀ (V : Nat → Int) (f : Nat → Int), mc_step (C k.toNat / 1048576) (C k.toNat % 1048576) V (k + 1) z f = some (k + 1, z, su f (z - 1) (w32 (1 - f (z - 1)))) := fun V f => by unfold mc_step; rw [if_neg zc1, if_pos zc2]
          rw [mc_go hk (s1 V f), mc_go hk (s1 V' g)]
          refine mc_eq h hV m _ _ _ _ (fun j hj => ?_) (by omega) (by omega) (by omega) (by rw [e1]; omega)
          simp only [su]
          split
          · rw [hf (z - 1) (by omega)]
          · exact hf j hj
        · by_cases zc3 : C k.toNat / 1048576 = 11 ∨ C k.toNat / 1048576 = 12
          · obtain ⟨d1, d2, d3, d4, d5⟩ := c3 zc3
            have ez := hf (z - 1) (by omega)
            by_cases zc4 : (C k.toNat / 1048576 = 12 ∧ f (z - 1) = 1) ∨ (C k.toNat / 1048576 = 11 ∧ f (z - 1) = 0)
            · have zc5 := zc4
              rw [ez] at zc5
              rw [mc_go hk (k' := C k.toNat % 1048576) (z' := z) (f' := f) (by unfold mc_step; rw [if_neg zc1, if_neg zc2, if_pos zc3, if_pos zc4]), mc_go hk (k' := C k.toNat % 1048576) (z' := z) (f' := g) (by unfold mc_step; rw [if_neg zc1, if_neg zc2, if_pos zc3, if_pos zc5])]
              exact mc_eq h hV m _ _ _ _ hf (by omega) (by omega) (by omega) (by omega)
            · have zc5 := zc4
              rw [ez] at zc5
              rw [mc_go hk (k' := k + 1) (z' := z - 1) (f' := f) (by unfold mc_step; rw [if_neg zc1, if_neg zc2, if_pos zc3, if_neg zc4]), mc_go hk (k' := k + 1) (z' := z - 1) (f' := g) (by unfold mc_step; rw [if_neg zc1, if_neg zc2, if_pos zc3, if_neg zc5])]
              exact mc_eq h hV m _ _ _ _ (fun j hj => hf j (by omega)) (by omega) (by omega) (by omega) (by rw [e1]; omega)
          · obtain ⟨d1, d2⟩ := c4 zc1 zc2 zc3
            have ez := hf (z - 1) (by omega)
            have ey := hf (z - 2) (by omega)
            by_cases zc4 : (C k.toNat / 1048576 = 5 ∨ C k.toNat / 1048576 = 6) ∧ f (z - 1) = 0
            · have zc5 := zc4
              rw [ez] at zc5
              rw [mc_no hk (by unfold mc_step; rw [if_neg zc1, if_neg zc2, if_neg zc3, if_pos zc4]), mc_no hk (by unfold mc_step; rw [if_neg zc1, if_neg zc2, if_neg zc3, if_pos zc5])]
            · have zc5 := zc4
              rw [ez] at zc5
              rw [mc_go hk (k' := k + 1) (z' := z - 1) (f' := su f (z - 2) (mc_reck (C k.toNat / 1048576) (f (z - 2)) (f (z - 1)))) (by unfold mc_step; rw [if_neg zc1, if_neg zc2, if_neg zc3, if_neg zc4]), mc_go hk (k' := k + 1) (z' := z - 1) (f' := su g (z - 2) (mc_reck (C k.toNat / 1048576) (g (z - 2)) (g (z - 1)))) (by unfold mc_step; rw [if_neg zc1, if_neg zc2, if_neg zc3, if_neg zc5])]
              refine mc_eq h hV m _ _ _ _ (fun j hj => ?_) (by omega) (by omega) (by omega) (by rw [e1]; omega)
              simp only [su]
              split
              · rw [ez, ey]
              · exact hf j (by omega)
    · obtain rfl : k = b := by omega
      rw [mc_stop hk, mc_stop hk]
      exact hf 0 (by have := h.2.2.1; omega)
/-- what the codes from a to b come to -/
def mc_val (C V : Nat → Int) (a b : Int) : Int := mc_run C V b 260 a 0 (fun _ => 0)
theorem mc_val_V {C V V' : Nat → Int} {a b : Int} (h : mc_wf C a b) (hV : ∀ j, j < 10 → V j = V' j) : mc_val C V a b = mc_val C V' a b := by
  obtain ⟨D, hD⟩ := h
  exact mc_eq hD hV 260 a 0 _ _ (fun _ _ => rfl) (Int.le_refl _) hD.1.2.1 (by have := hD.1; omega) hD.2.1
abbrev mlX : Nat → Nat → Bool := fun r _ => r == 77
abbrev mvX : Nat → Nat → Bool := fun r _ => r == 77 || r == 78
section ML
variable {sc : List Int32} {t : hy_T}
theorem c_M_reckon {op x y : Int} (h : op = 5 ∨ op = 6 → y ≠ 0) : hy_Ct sc hm_M_reckon 0 [.inl op, .inl x, .inl y] t (hy_e (some (mc_reck op x y)) t) := by
  refine hy_mk_ct ok_M_reckon ck_M_reckon (Nat.le_of_ble_eq_true rfl) ?_
  refine hy_iload (i := 0) rfl rfl ?_
  by_cases zq1 : op = 2
  · refine hy_tsw (i := 1) (tt := 2) rfl (by rw [zq1]; rfl) ?_
    refine hy_iload (i := 2) rfl rfl ?_
    refine hy_iload (i := 3) rfl rfl ?_
    refine hy_iaddw (i := 4) rfl ?_
    refine hy_ireturn (i := 5) rfl rfl ?_
    refine ⟨congrArg some ?_, rfl⟩
    unfold mc_reck
    (repeat (first | rw [if_pos (by omega)] | rw [if_neg (by omega)]))
    try rfl
  · skip
    by_cases zq1 : op = 3
    · refine hy_tsw (i := 1) (tt := 6) rfl (by rw [zq1]; rfl) ?_
      refine hy_iload (i := 6) rfl rfl ?_
      refine hy_iload (i := 7) rfl rfl ?_
      refine hy_isubw (i := 8) rfl ?_
      refine hy_ireturn (i := 9) rfl rfl ?_
      refine ⟨congrArg some ?_, rfl⟩
      unfold mc_reck
      (repeat (first | rw [if_pos (by omega)] | rw [if_neg (by omega)]))
      try rfl
    · skip
      by_cases zq1 : op = 4
      · refine hy_tsw (i := 1) (tt := 10) rfl (by rw [zq1]; rfl) ?_
        refine hy_iload (i := 10) rfl rfl ?_
        refine hy_iload (i := 11) rfl rfl ?_
        refine hy_imulw (i := 12) rfl ?_
        refine hy_ireturn (i := 13) rfl rfl ?_
        refine ⟨congrArg some ?_, rfl⟩
        unfold mc_reck
        (repeat (first | rw [if_pos (by omega)] | rw [if_neg (by omega)]))
        try rfl
      · skip
        by_cases zq1 : op = 5
        · refine hy_tsw (i := 1) (tt := 14) rfl (by rw [zq1]; rfl) ?_
          refine hy_iload (i := 14) rfl rfl ?_
          refine hy_iload (i := 15) rfl rfl ?_
          refine hy_idivw (i := 16) rfl (h (by omega)) ?_
          refine hy_ireturn (i := 17) rfl rfl ?_
          refine ⟨congrArg some ?_, rfl⟩
          unfold mc_reck
          (repeat (first | rw [if_pos (by omega)] | rw [if_neg (by omega)]))
          try rfl
        · skip
          by_cases zq1 : op = 6
          · refine hy_tsw (i := 1) (tt := 18) rfl (by rw [zq1]; rfl) ?_
            refine hy_iload (i := 18) rfl rfl ?_
            refine hy_iload (i := 19) rfl rfl ?_
            refine hy_iremw (i := 20) rfl (h (by omega)) ?_
            refine hy_ireturn (i := 21) rfl rfl ?_
            refine ⟨congrArg some ?_, rfl⟩
            unfold mc_reck
            (repeat (first | rw [if_pos (by omega)] | rw [if_neg (by omega)]))
            try rfl
          · skip
            by_cases zq1 : op = 7
            · refine hy_tsw (i := 1) (tt := 22) rfl (by rw [zq1]; rfl) ?_
              refine hy_iload (i := 22) rfl rfl ?_
              refine hy_iload (i := 23) rfl rfl ?_
              refine hy_ic_ge (i := 24) (tt := 27) rfl (fun zc2 => ?_) (fun zc2 => ?_)
              · refine hy_const (i := 27) rfl (by decide) ?_
                refine hy_ireturn (i := 28) rfl rfl ?_
                refine ⟨congrArg some ?_, rfl⟩
                unfold mc_reck
                (repeat (first | rw [if_pos (by omega)] | rw [if_neg (by omega)]))
                try rfl
              · refine hy_const (i := 25) rfl (by decide) ?_
                refine hy_goto (i := 26) (tt := 28) rfl ?_
                refine hy_ireturn (i := 28) rfl rfl ?_
                refine ⟨congrArg some ?_, rfl⟩
                unfold mc_reck
                (repeat (first | rw [if_pos (by omega)] | rw [if_neg (by omega)]))
                try rfl
            · skip
              by_cases zq1 : op = 8
              · refine hy_tsw (i := 1) (tt := 29) rfl (by rw [zq1]; rfl) ?_
                refine hy_iload (i := 29) rfl rfl ?_
                refine hy_iload (i := 30) rfl rfl ?_
                refine hy_ic_le (i := 31) (tt := 34) rfl (fun zc2 => ?_) (fun zc2 => ?_)
                · refine hy_const (i := 34) rfl (by decide) ?_
                  refine hy_ireturn (i := 35) rfl rfl ?_
                  refine ⟨congrArg some ?_, rfl⟩
                  unfold mc_reck
                  (repeat (first | rw [if_pos (by omega)] | rw [if_neg (by omega)]))
                  try rfl
                · refine hy_const (i := 32) rfl (by decide) ?_
                  refine hy_goto (i := 33) (tt := 35) rfl ?_
                  refine hy_ireturn (i := 35) rfl rfl ?_
                  refine ⟨congrArg some ?_, rfl⟩
                  unfold mc_reck
                  (repeat (first | rw [if_pos (by omega)] | rw [if_neg (by omega)]))
                  try rfl
              · skip
                refine hy_tsw (i := 1) (tt := 36) rfl (by rcases (show op < 2 ∨ 8 < op by omega) with hh | hh <;> first | (rw [if_pos (by omega)]; rfl) | (rw [hh]; rfl)) ?_
                refine hy_iload (i := 36) rfl rfl ?_
                refine hy_iload (i := 37) rfl rfl ?_
                refine hy_ic_ne (i := 38) (tt := 41) rfl (fun zc1 => ?_) (fun zc1 => ?_)
                · refine hy_const (i := 41) rfl (by decide) ?_
                  refine hy_ireturn (i := 42) rfl rfl ?_
                  refine ⟨congrArg some ?_, rfl⟩
                  unfold mc_reck
                  (repeat (first | rw [if_pos (by omega)] | rw [if_neg (by omega)]))
                  try rfl
                · refine hy_const (i := 39) rfl (by decide) ?_
                  refine hy_goto (i := 40) (tt := 42) rfl ?_
                  refine hy_ireturn (i := 42) rfl rfl ?_
                  refine ⟨congrArg some ?_, rfl⟩
                  unfold mc_reck
                  (repeat (first | rw [if_pos (by omega)] | rw [if_neg (by omega)]))
                  try rfl
theorem c_M_comesTo {a b : Int} (h : mc_wf (t 72) a b) : hy_Ct sc hm_M_comesTo 1 [.inr (some 59), .inl a, .inl b] t (fun r t' => r = some (mc_val (t 72) (t 78) a b) ∧ hy_F mlX t t') := by
  refine hy_mk_ct ok_M_comesTo ck_M_comesTo (Nat.le_of_ble_eq_true rfl) ?_
  obtain ⟨D, hD⟩ := h
  obtain ⟨h0, hDa, hDb, h2⟩ := id hD
  have loop : ∀ (m : Nat), ∀ (k zi : Int) (z : Nat) (t1 : hy_T) (v6 v7 : hy_V), a ≤ k → k ≤ b → b - k ≤ m → zi = z → D k.toNat = z → hy_F mlX t t1 → mc_run (t 72) (t 78) b m k z (t1 77) = mc_val (t 72) (t 78) a b →
      hy_W sc hm_M_comesTo 1 10 [.inr (some 59), .inl a, .inl b, .inl zi, .inl 0, .inl k, v6, v7] [] t1 (fun r t' => r = some (mc_val (t 72) (t 78) a b) ∧ hy_F mlX t t') := by
    intro m
    induction m with
    | zero =>
      intro k zi z t1 v6 v7 ha hb hm hzi hDk hF hv
      subst hzi
      refine hy_iload (i := 10) rfl rfl ?_
      refine hy_iload (i := 11) rfl rfl ?_
      refine hy_ic_ge (i := 12) (tt := 136) rfl (fun zc1 => ?_) (fun zc1 => ?_)
      · refine hy_aload (i := 136) rfl rfl ?_
        refine hy_getr (i := 137) rfl rfl ?_
        refine hy_const (i := 138) rfl (by decide) ?_
        refine hy_iald (i := 139) rfl rfl (by decide) (show _ = 0 from rfl) ?_
        refine hy_ireturn (i := 140) rfl rfl ?_
        exact ⟨congrArg some hv, hF⟩
      · omega
    | succ m ih =>
      intro k zi z t1 v6 v7 ha hb hm hzi hDk hF hv
      subst hzi
      by_cases hk : k < b
      · obtain ⟨c0, c1, c2, c3, c4⟩ := h2 k.toNat (by omega) (by omega)
        have e1 : (k + 1).toNat = k.toNat + 1 := by omega
        have o1 : ∀ j, t1 72 j = t 72 j := fun j => hF 72 j rfl
        have o3 : ∀ j, t1 78 j = t 78 j := fun j => hF 78 j rfl
        refine hy_iload (i := 10) rfl rfl ?_
        refine hy_iload (i := 11) rfl rfl ?_
        refine hy_ic_ge (i := 12) (tt := 136) rfl (fun zc1 => ?_) (fun zc1 => ?_)
        · omega
        · refine hy_aload (i := 13) rfl rfl ?_
          refine hy_getr (i := 14) rfl rfl ?_
          refine hy_iload (i := 15) rfl rfl ?_
          refine hy_iald (i := 16) rfl rfl (by omega) rfl ?_
          rw [o1]
          refine hy_const (i := 17) rfl (by decide) ?_
          refine hy_idiv (i := 18) rfl (by omega) (by omega) ?_
          refine hy_istore (i := 19) rfl ?_
          refine hy_aload (i := 20) rfl rfl ?_
          refine hy_getr (i := 21) rfl rfl ?_
          refine hy_iload (i := 22) rfl rfl ?_
          refine hy_iald (i := 23) rfl rfl (by omega) rfl ?_
          rw [o1]
          refine hy_const (i := 24) rfl (by decide) ?_
          refine hy_irem (i := 25) rfl (by omega) (by omega) ?_
          refine hy_istore (i := 26) rfl ?_
          refine hy_iload (i := 27) rfl rfl ?_
          refine hy_const (i := 28) rfl (by decide) ?_
          refine hy_iadd (i := 29) rfl (by omega) ?_
          refine hy_istore (i := 30) rfl ?_
          refine hy_iload (i := 31) rfl rfl ?_
          refine hy_if_eq (i := 32) (tt := 36) rfl (fun zc2 => ?_) (fun zc2 => ?_)
          · refine hy_aload (i := 36) rfl rfl ?_
            refine hy_getr (i := 37) rfl rfl ?_
            refine hy_iload (i := 38) rfl rfl ?_
            refine hy_iload (i := 39) rfl rfl ?_
            refine hy_if_ne (i := 40) (tt := 43) rfl (fun zc3 => ?_) (fun zc3 => ?_)
            · refine hy_aload (i := 43) rfl rfl ?_
              refine hy_getr (i := 44) rfl rfl ?_
              refine hy_iload (i := 45) rfl rfl ?_
              refine hy_iald (i := 46) rfl rfl (by omega) rfl ?_
              try rw [o3]
              refine hy_iast (i := 47) rfl rfl (by omega) (k := z) (by omega) ?_
              refine hy_iload (i := 48) rfl rfl ?_
              refine hy_const (i := 49) rfl (by decide) ?_
              refine hy_iadd (i := 50) rfl (by omega) ?_
              refine hy_istore (i := 51) rfl ?_
              refine hy_goto (i := 52) (tt := 135) rfl ?_
              refine hy_goto (i := 135) (tt := 10) rfl ?_
              first | (exfalso; omega) | exact ih _ _ (z + 1) _ _ _ (by omega) (by omega) (by omega) (by omega) (by first | (rw [e1]; omega) | omega) (by first | exact hF | exact hF.up rfl) (by rw [← hv]; refine (mc_go hk ?_).symm; unfold mc_step; (repeat (first | rw [if_pos (by omega)] | rw [if_neg (by omega)])); try rw [hy_up_row]; try rfl) | exact ih _ _ z _ _ _ (by omega) (by omega) (by omega) (by omega) (by first | (rw [e1]; omega) | omega) (by first | exact hF | exact hF.up rfl) (by rw [← hv]; refine (mc_go hk ?_).symm; unfold mc_step; (repeat (first | rw [if_pos (by omega)] | rw [if_neg (by omega)])); try rw [hy_up_row]; try rfl) | exact ih _ _ (z - 1) _ _ _ (by omega) (by omega) (by omega) (by omega) (by first | (rw [e1]; omega) | omega) (by first | exact hF | exact hF.up rfl) (by rw [← hv]; refine (mc_go hk ?_).symm; unfold mc_step; (repeat (first | rw [if_pos (by omega)] | rw [if_neg (by omega)])); try rw [hy_up_row]; try rfl)
            · refine hy_iload (i := 41) rfl rfl ?_
              refine hy_goto (i := 42) (tt := 47) rfl ?_
              try rw [o3]
              refine hy_iast (i := 47) rfl rfl (by omega) (k := z) (by omega) ?_
              refine hy_iload (i := 48) rfl rfl ?_
              refine hy_const (i := 49) rfl (by decide) ?_
              refine hy_iadd (i := 50) rfl (by omega) ?_
              refine hy_istore (i := 51) rfl ?_
              refine hy_goto (i := 52) (tt := 135) rfl ?_
              refine hy_goto (i := 135) (tt := 10) rfl ?_
              first | (exfalso; omega) | exact ih _ _ (z + 1) _ _ _ (by omega) (by omega) (by omega) (by omega) (by first | (rw [e1]; omega) | omega) (by first | exact hF | exact hF.up rfl) (by rw [← hv]; refine (mc_go hk ?_).symm; unfold mc_step; (repeat (first | rw [if_pos (by omega)] | rw [if_neg (by omega)])); try rw [hy_up_row]; try rfl) | exact ih _ _ z _ _ _ (by omega) (by omega) (by omega) (by omega) (by first | (rw [e1]; omega) | omega) (by first | exact hF | exact hF.up rfl) (by rw [← hv]; refine (mc_go hk ?_).symm; unfold mc_step; (repeat (first | rw [if_pos (by omega)] | rw [if_neg (by omega)])); try rw [hy_up_row]; try rfl) | exact ih _ _ (z - 1) _ _ _ (by omega) (by omega) (by omega) (by omega) (by first | (rw [e1]; omega) | omega) (by first | exact hF | exact hF.up rfl) (by rw [← hv]; refine (mc_go hk ?_).symm; unfold mc_step; (repeat (first | rw [if_pos (by omega)] | rw [if_neg (by omega)])); try rw [hy_up_row]; try rfl)
          · refine hy_iload (i := 33) rfl rfl ?_
            refine hy_const (i := 34) rfl (by decide) ?_
            refine hy_ic_ne (i := 35) (tt := 53) rfl (fun zc3 => ?_) (fun zc3 => ?_)
            · refine hy_iload (i := 53) rfl rfl ?_
              refine hy_const (i := 54) rfl (by decide) ?_
              refine hy_ic_ne (i := 55) (tt := 71) rfl (fun zc4 => ?_) (fun zc4 => ?_)
              · refine hy_iload (i := 71) rfl rfl ?_
                refine hy_const (i := 72) rfl (by decide) ?_
                refine hy_ic_eq (i := 73) (tt := 77) rfl (fun zc5 => ?_) (fun zc5 => ?_)
                · refine hy_aload (i := 77) rfl rfl ?_
                  refine hy_getr (i := 78) rfl rfl ?_
                  refine hy_iload (i := 79) rfl rfl ?_
                  refine hy_const (i := 80) rfl (by decide) ?_
                  refine hy_isub (i := 81) rfl (by omega) ?_
                  refine hy_iald (i := 82) rfl rfl (by omega) (k := z - 1) (by omega) ?_
                  refine hy_iload (i := 83) rfl rfl ?_
                  refine hy_const (i := 84) rfl (by decide) ?_
                  refine hy_ic_ne (i := 85) (tt := 88) rfl (fun zc6 => ?_) (fun zc6 => ?_)
                  · refine hy_const (i := 88) rfl (by decide) ?_
                    refine hy_ic_ne (i := 89) (tt := 95) rfl (fun zc7 => ?_) (fun zc7 => ?_)
                    · refine hy_iload (i := 95) rfl rfl ?_
                      refine hy_const (i := 96) rfl (by decide) ?_
                      refine hy_isub (i := 97) rfl (by omega) ?_
                      refine hy_istore (i := 98) rfl ?_
                      refine hy_goto (i := 99) (tt := 135) rfl ?_
                      refine hy_goto (i := 135) (tt := 10) rfl ?_
                      first | (exfalso; omega) | exact ih _ _ (z + 1) _ _ _ (by omega) (by omega) (by omega) (by omega) (by first | (rw [e1]; omega) | omega) (by first | exact hF | exact hF.up rfl) (by rw [← hv]; refine (mc_go hk ?_).symm; unfold mc_step; (repeat (first | rw [if_pos (by omega)] | rw [if_neg (by omega)])); try rw [hy_up_row]; try rfl) | exact ih _ _ z _ _ _ (by omega) (by omega) (by omega) (by omega) (by first | (rw [e1]; omega) | omega) (by first | exact hF | exact hF.up rfl) (by rw [← hv]; refine (mc_go hk ?_).symm; unfold mc_step; (repeat (first | rw [if_pos (by omega)] | rw [if_neg (by omega)])); try rw [hy_up_row]; try rfl) | exact ih _ _ (z - 1) _ _ _ (by omega) (by omega) (by omega) (by omega) (by first | (rw [e1]; omega) | omega) (by first | exact hF | exact hF.up rfl) (by rw [← hv]; refine (mc_go hk ?_).symm; unfold mc_step; (repeat (first | rw [if_pos (by omega)] | rw [if_neg (by omega)])); try rw [hy_up_row]; try rfl)
                    · refine hy_iload (i := 90) rfl rfl ?_
                      refine hy_iload (i := 91) rfl rfl ?_
                      refine hy_iadd (i := 92) rfl (by omega) ?_
                      rw [Int.zero_add]
                      refine hy_istore (i := 93) rfl ?_
                      refine hy_goto (i := 94) (tt := 135) rfl ?_
                      refine hy_goto (i := 135) (tt := 10) rfl ?_
                      first | (exfalso; omega) | exact ih _ _ (z + 1) _ _ _ (by omega) (by omega) (by omega) (by omega) (by first | (rw [e1]; omega) | omega) (by first | exact hF | exact hF.up rfl) (by rw [← hv]; refine (mc_go hk ?_).symm; unfold mc_step; (repeat (first | rw [if_pos (by omega)] | rw [if_neg (by omega)])); try rw [hy_up_row]; try rfl) | exact ih _ _ z _ _ _ (by omega) (by omega) (by omega) (by omega) (by first | (rw [e1]; omega) | omega) (by first | exact hF | exact hF.up rfl) (by rw [← hv]; refine (mc_go hk ?_).symm; unfold mc_step; (repeat (first | rw [if_pos (by omega)] | rw [if_neg (by omega)])); try rw [hy_up_row]; try rfl) | exact ih _ _ (z - 1) _ _ _ (by omega) (by omega) (by omega) (by omega) (by first | (rw [e1]; omega) | omega) (by first | exact hF | exact hF.up rfl) (by rw [← hv]; refine (mc_go hk ?_).symm; unfold mc_step; (repeat (first | rw [if_pos (by omega)] | rw [if_neg (by omega)])); try rw [hy_up_row]; try rfl)
                  · refine hy_const (i := 86) rfl (by decide) ?_
                    refine hy_goto (i := 87) (tt := 89) rfl ?_
                    refine hy_ic_ne (i := 89) (tt := 95) rfl (fun zc7 => ?_) (fun zc7 => ?_)
                    · refine hy_iload (i := 95) rfl rfl ?_
                      refine hy_const (i := 96) rfl (by decide) ?_
                      refine hy_isub (i := 97) rfl (by omega) ?_
                      refine hy_istore (i := 98) rfl ?_
                      refine hy_goto (i := 99) (tt := 135) rfl ?_
                      refine hy_goto (i := 135) (tt := 10) rfl ?_
                      first | (exfalso; omega) | exact ih _ _ (z + 1) _ _ _ (by omega) (by omega) (by omega) (by omega) (by first | (rw [e1]; omega) | omega) (by first | exact hF | exact hF.up rfl) (by rw [← hv]; refine (mc_go hk ?_).symm; unfold mc_step; (repeat (first | rw [if_pos (by omega)] | rw [if_neg (by omega)])); try rw [hy_up_row]; try rfl) | exact ih _ _ z _ _ _ (by omega) (by omega) (by omega) (by omega) (by first | (rw [e1]; omega) | omega) (by first | exact hF | exact hF.up rfl) (by rw [← hv]; refine (mc_go hk ?_).symm; unfold mc_step; (repeat (first | rw [if_pos (by omega)] | rw [if_neg (by omega)])); try rw [hy_up_row]; try rfl) | exact ih _ _ (z - 1) _ _ _ (by omega) (by omega) (by omega) (by omega) (by first | (rw [e1]; omega) | omega) (by first | exact hF | exact hF.up rfl) (by rw [← hv]; refine (mc_go hk ?_).symm; unfold mc_step; (repeat (first | rw [if_pos (by omega)] | rw [if_neg (by omega)])); try rw [hy_up_row]; try rfl)
                    · refine hy_iload (i := 90) rfl rfl ?_
                      refine hy_iload (i := 91) rfl rfl ?_
                      refine hy_iadd (i := 92) rfl (by omega) ?_
                      rw [Int.zero_add]
                      refine hy_istore (i := 93) rfl ?_
                      refine hy_goto (i := 94) (tt := 135) rfl ?_
                      refine hy_goto (i := 135) (tt := 10) rfl ?_
                      first | (exfalso; omega) | exact ih _ _ (z + 1) _ _ _ (by omega) (by omega) (by omega) (by omega) (by first | (rw [e1]; omega) | omega) (by first | exact hF | exact hF.up rfl) (by rw [← hv]; refine (mc_go hk ?_).symm; unfold mc_step; (repeat (first | rw [if_pos (by omega)] | rw [if_neg (by omega)])); try rw [hy_up_row]; try rfl) | exact ih _ _ z _ _ _ (by omega) (by omega) (by omega) (by omega) (by first | (rw [e1]; omega) | omega) (by first | exact hF | exact hF.up rfl) (by rw [← hv]; refine (mc_go hk ?_).symm; unfold mc_step; (repeat (first | rw [if_pos (by omega)] | rw [if_neg (by omega)])); try rw [hy_up_row]; try rfl) | exact ih _ _ (z - 1) _ _ _ (by omega) (by omega) (by omega) (by omega) (by first | (rw [e1]; omega) | omega) (by first | exact hF | exact hF.up rfl) (by rw [← hv]; refine (mc_go hk ?_).symm; unfold mc_step; (repeat (first | rw [if_pos (by omega)] | rw [if_neg (by omega)])); try rw [hy_up_row]; try rfl)
                · refine hy_iload (i := 74) rfl rfl ?_
                  refine hy_const (i := 75) rfl (by decide) ?_
                  refine hy_ic_ne (i := 76) (tt := 100) rfl (fun zc6 => ?_) (fun zc6 => ?_)
                  · refine hy_iload (i := 100) rfl rfl ?_
                    refine hy_const (i := 101) rfl (by decide) ?_
                    refine hy_isub (i := 102) rfl (by omega) ?_
                    refine hy_istore (i := 103) rfl ?_
                    refine hy_iload (i := 104) rfl rfl ?_
                    refine hy_const (i := 105) rfl (by decide) ?_
                    refine hy_ic_eq (i := 106) (tt := 110) rfl (fun zc7 => ?_) (fun zc7 => ?_)
                    · refine hy_aload (i := 110) rfl rfl ?_
                      refine hy_getr (i := 111) rfl rfl ?_
                      refine hy_iload (i := 112) rfl rfl ?_
                      refine hy_iald (i := 113) rfl rfl (by omega) (k := z - 1) (by omega) ?_
                      refine hy_if_ne (i := 114) (tt := 117) rfl (fun zc8 => ?_) (fun zc8 => ?_)
                      · refine hy_aload (i := 117) rfl rfl ?_
                        refine hy_getr (i := 118) rfl rfl ?_
                        refine hy_iload (i := 119) rfl rfl ?_
                        refine hy_const (i := 120) rfl (by decide) ?_
                        refine hy_isub (i := 121) rfl (by omega) ?_
                        refine hy_iload (i := 122) rfl rfl ?_
                        refine hy_aload (i := 123) rfl rfl ?_
                        refine hy_getr (i := 124) rfl rfl ?_
                        refine hy_iload (i := 125) rfl rfl ?_
                        refine hy_const (i := 126) rfl (by decide) ?_
                        refine hy_isub (i := 127) rfl (by omega) ?_
                        refine hy_iald (i := 128) rfl rfl (by omega) (k := z - 2) (by omega) ?_
                        refine hy_aload (i := 129) rfl rfl ?_
                        refine hy_getr (i := 130) rfl rfl ?_
                        refine hy_iload (i := 131) rfl rfl ?_
                        refine hy_iald (i := 132) rfl rfl (by omega) (k := z - 1) (by omega) ?_
                        refine hy_cS3e (i := 133) rfl (by decide) mj_M_reckon (by decide) rfl (Nat.le_of_ble_eq_true rfl) (c_M_reckon (by omega)) ?_
                        refine hy_iast (i := 134) rfl rfl (by omega) (k := z - 2) (by omega) ?_
                        refine hy_goto (i := 135) (tt := 10) rfl ?_
                        first | (exfalso; omega) | exact ih _ _ (z + 1) _ _ _ (by omega) (by omega) (by omega) (by omega) (by first | (rw [e1]; omega) | omega) (by first | exact hF | exact hF.up rfl) (by rw [← hv]; refine (mc_go hk ?_).symm; unfold mc_step; (repeat (first | rw [if_pos (by omega)] | rw [if_neg (by omega)])); try rw [hy_up_row]; try rfl) | exact ih _ _ z _ _ _ (by omega) (by omega) (by omega) (by omega) (by first | (rw [e1]; omega) | omega) (by first | exact hF | exact hF.up rfl) (by rw [← hv]; refine (mc_go hk ?_).symm; unfold mc_step; (repeat (first | rw [if_pos (by omega)] | rw [if_neg (by omega)])); try rw [hy_up_row]; try rfl) | exact ih _ _ (z - 1) _ _ _ (by omega) (by omega) (by omega) (by omega) (by first | (rw [e1]; omega) | omega) (by first | exact hF | exact hF.up rfl) (by rw [← hv]; refine (mc_go hk ?_).symm; unfold mc_step; (repeat (first | rw [if_pos (by omega)] | rw [if_neg (by omega)])); try rw [hy_up_row]; try rfl)
                      · refine hy_const (i := 115) rfl (by decide) ?_
                        refine hy_ireturn (i := 116) rfl rfl ?_
                        first | (exfalso; omega) | (refine ⟨congrArg some ?_, hF⟩; rw [← hv]; rw [mc_no hk (by unfold mc_step; repeat (first | rw [if_pos (by omega)] | rw [if_neg (by omega)]))])
                    · refine hy_iload (i := 107) rfl rfl ?_
                      refine hy_const (i := 108) rfl (by decide) ?_
                      refine hy_ic_ne (i := 109) (tt := 117) rfl (fun zc8 => ?_) (fun zc8 => ?_)
                      · refine hy_aload (i := 117) rfl rfl ?_
                        refine hy_getr (i := 118) rfl rfl ?_
                        refine hy_iload (i := 119) rfl rfl ?_
                        refine hy_const (i := 120) rfl (by decide) ?_
                        refine hy_isub (i := 121) rfl (by omega) ?_
                        refine hy_iload (i := 122) rfl rfl ?_
                        refine hy_aload (i := 123) rfl rfl ?_
                        refine hy_getr (i := 124) rfl rfl ?_
                        refine hy_iload (i := 125) rfl rfl ?_
                        refine hy_const (i := 126) rfl (by decide) ?_
                        refine hy_isub (i := 127) rfl (by omega) ?_
                        refine hy_iald (i := 128) rfl rfl (by omega) (k := z - 2) (by omega) ?_
                        refine hy_aload (i := 129) rfl rfl ?_
                        refine hy_getr (i := 130) rfl rfl ?_
                        refine hy_iload (i := 131) rfl rfl ?_
                        refine hy_iald (i := 132) rfl rfl (by omega) (k := z - 1) (by omega) ?_
                        refine hy_cS3e (i := 133) rfl (by decide) mj_M_reckon (by decide) rfl (Nat.le_of_ble_eq_true rfl) (c_M_reckon (by omega)) ?_
                        refine hy_iast (i := 134) rfl rfl (by omega) (k := z - 2) (by omega) ?_
                        refine hy_goto (i := 135) (tt := 10) rfl ?_
                        first | (exfalso; omega) | exact ih _ _ (z + 1) _ _ _ (by omega) (by omega) (by omega) (by omega) (by first | (rw [e1]; omega) | omega) (by first | exact hF | exact hF.up rfl) (by rw [← hv]; refine (mc_go hk ?_).symm; unfold mc_step; (repeat (first | rw [if_pos (by omega)] | rw [if_neg (by omega)])); try rw [hy_up_row]; try rfl) | exact ih _ _ z _ _ _ (by omega) (by omega) (by omega) (by omega) (by first | (rw [e1]; omega) | omega) (by first | exact hF | exact hF.up rfl) (by rw [← hv]; refine (mc_go hk ?_).symm; unfold mc_step; (repeat (first | rw [if_pos (by omega)] | rw [if_neg (by omega)])); try rw [hy_up_row]; try rfl) | exact ih _ _ (z - 1) _ _ _ (by omega) (by omega) (by omega) (by omega) (by first | (rw [e1]; omega) | omega) (by first | exact hF | exact hF.up rfl) (by rw [← hv]; refine (mc_go hk ?_).symm; unfold mc_step; (repeat (first | rw [if_pos (by omega)] | rw [if_neg (by omega)])); try rw [hy_up_row]; try rfl)
                      · refine hy_aload (i := 110) rfl rfl ?_
                        refine hy_getr (i := 111) rfl rfl ?_
                        refine hy_iload (i := 112) rfl rfl ?_
                        refine hy_iald (i := 113) rfl rfl (by omega) (k := z - 1) (by omega) ?_
                        refine hy_if_ne (i := 114) (tt := 117) rfl (fun zc9 => ?_) (fun zc9 => ?_)
                        · refine hy_aload (i := 117) rfl rfl ?_
                          refine hy_getr (i := 118) rfl rfl ?_
                          refine hy_iload (i := 119) rfl rfl ?_
                          refine hy_const (i := 120) rfl (by decide) ?_
                          refine hy_isub (i := 121) rfl (by omega) ?_
                          refine hy_iload (i := 122) rfl rfl ?_
                          refine hy_aload (i := 123) rfl rfl ?_
                          refine hy_getr (i := 124) rfl rfl ?_
                          refine hy_iload (i := 125) rfl rfl ?_
                          refine hy_const (i := 126) rfl (by decide) ?_
                          refine hy_isub (i := 127) rfl (by omega) ?_
                          refine hy_iald (i := 128) rfl rfl (by omega) (k := z - 2) (by omega) ?_
                          refine hy_aload (i := 129) rfl rfl ?_
                          refine hy_getr (i := 130) rfl rfl ?_
                          refine hy_iload (i := 131) rfl rfl ?_
                          refine hy_iald (i := 132) rfl rfl (by omega) (k := z - 1) (by omega) ?_
                          refine hy_cS3e (i := 133) rfl (by decide) mj_M_reckon (by decide) rfl (Nat.le_of_ble_eq_true rfl) (c_M_reckon (by omega)) ?_
                          refine hy_iast (i := 134) rfl rfl (by omega) (k := z - 2) (by omega) ?_
                          refine hy_goto (i := 135) (tt := 10) rfl ?_
                          first | (exfalso; omega) | exact ih _ _ (z + 1) _ _ _ (by omega) (by omega) (by omega) (by omega) (by first | (rw [e1]; omega) | omega) (by first | exact hF | exact hF.up rfl) (by rw [← hv]; refine (mc_go hk ?_).symm; unfold mc_step; (repeat (first | rw [if_pos (by omega)] | rw [if_neg (by omega)])); try rw [hy_up_row]; try rfl) | exact ih _ _ z _ _ _ (by omega) (by omega) (by omega) (by omega) (by first | (rw [e1]; omega) | omega) (by first | exact hF | exact hF.up rfl) (by rw [← hv]; refine (mc_go hk ?_).symm; unfold mc_step; (repeat (first | rw [if_pos (by omega)] | rw [if_neg (by omega)])); try rw [hy_up_row]; try rfl) | exact ih _ _ (z - 1) _ _ _ (by omega) (by omega) (by omega) (by omega) (by first | (rw [e1]; omega) | omega) (by first | exact hF | exact hF.up rfl) (by rw [← hv]; refine (mc_go hk ?_).symm; unfold mc_step; (repeat (first | rw [if_pos (by omega)] | rw [if_neg (by omega)])); try rw [hy_up_row]; try rfl)
                        · refine hy_const (i := 115) rfl (by decide) ?_
                          refine hy_ireturn (i := 116) rfl rfl ?_
                          first | (exfalso; omega) | (refine ⟨congrArg some ?_, hF⟩; rw [← hv]; rw [mc_no hk (by unfold mc_step; repeat (first | rw [if_pos (by omega)] | rw [if_neg (by omega)]))])
                  · refine hy_aload (i := 77) rfl rfl ?_
                    refine hy_getr (i := 78) rfl rfl ?_
                    refine hy_iload (i := 79) rfl rfl ?_
                    refine hy_const (i := 80) rfl (by decide) ?_
                    refine hy_isub (i := 81) rfl (by omega) ?_
                    refine hy_iald (i := 82) rfl rfl (by omega) (k := z - 1) (by omega) ?_
                    refine hy_iload (i := 83) rfl rfl ?_
                    refine hy_const (i := 84) rfl (by decide) ?_
                    refine hy_ic_ne (i := 85) (tt := 88) rfl (fun zc7 => ?_) (fun zc7 => ?_)
                    · refine hy_const (i := 88) rfl (by decide) ?_
                      refine hy_ic_ne (i := 89) (tt := 95) rfl (fun zc8 => ?_) (fun zc8 => ?_)
                      · refine hy_iload (i := 95) rfl rfl ?_
                        refine hy_const (i := 96) rfl (by decide) ?_
                        refine hy_isub (i := 97) rfl (by omega) ?_
                        refine hy_istore (i := 98) rfl ?_
                        refine hy_goto (i := 99) (tt := 135) rfl ?_
                        refine hy_goto (i := 135) (tt := 10) rfl ?_
                        first | (exfalso; omega) | exact ih _ _ (z + 1) _ _ _ (by omega) (by omega) (by omega) (by omega) (by first | (rw [e1]; omega) | omega) (by first | exact hF | exact hF.up rfl) (by rw [← hv]; refine (mc_go hk ?_).symm; unfold mc_step; (repeat (first | rw [if_pos (by omega)] | rw [if_neg (by omega)])); try rw [hy_up_row]; try rfl) | exact ih _ _ z _ _ _ (by omega) (by omega) (by omega) (by omega) (by first | (rw [e1]; omega) | omega) (by first | exact hF | exact hF.up rfl) (by rw [← hv]; refine (mc_go hk ?_).symm; unfold mc_step; (repeat (first | rw [if_pos (by omega)] | rw [if_neg (by omega)])); try rw [hy_up_row]; try rfl) | exact ih _ _ (z - 1) _ _ _ (by omega) (by omega) (by omega) (by omega) (by first | (rw [e1]; omega) | omega) (by first | exact hF | exact hF.up rfl) (by rw [← hv]; refine (mc_go hk ?_).symm; unfold mc_step; (repeat (first | rw [if_pos (by omega)] | rw [if_neg (by omega)])); try rw [hy_up_row]; try rfl)
                      · refine hy_iload (i := 90) rfl rfl ?_
                        refine hy_iload (i := 91) rfl rfl ?_
                        refine hy_iadd (i := 92) rfl (by omega) ?_
                        rw [Int.zero_add]
                        refine hy_istore (i := 93) rfl ?_
                        refine hy_goto (i := 94) (tt := 135) rfl ?_
                        refine hy_goto (i := 135) (tt := 10) rfl ?_
                        first | (exfalso; omega) | exact ih _ _ (z + 1) _ _ _ (by omega) (by omega) (by omega) (by omega) (by first | (rw [e1]; omega) | omega) (by first | exact hF | exact hF.up rfl) (by rw [← hv]; refine (mc_go hk ?_).symm; unfold mc_step; (repeat (first | rw [if_pos (by omega)] | rw [if_neg (by omega)])); try rw [hy_up_row]; try rfl) | exact ih _ _ z _ _ _ (by omega) (by omega) (by omega) (by omega) (by first | (rw [e1]; omega) | omega) (by first | exact hF | exact hF.up rfl) (by rw [← hv]; refine (mc_go hk ?_).symm; unfold mc_step; (repeat (first | rw [if_pos (by omega)] | rw [if_neg (by omega)])); try rw [hy_up_row]; try rfl) | exact ih _ _ (z - 1) _ _ _ (by omega) (by omega) (by omega) (by omega) (by first | (rw [e1]; omega) | omega) (by first | exact hF | exact hF.up rfl) (by rw [← hv]; refine (mc_go hk ?_).symm; unfold mc_step; (repeat (first | rw [if_pos (by omega)] | rw [if_neg (by omega)])); try rw [hy_up_row]; try rfl)
                    · refine hy_const (i := 86) rfl (by decide) ?_
                      refine hy_goto (i := 87) (tt := 89) rfl ?_
                      refine hy_ic_ne (i := 89) (tt := 95) rfl (fun zc8 => ?_) (fun zc8 => ?_)
                      · refine hy_iload (i := 95) rfl rfl ?_
                        refine hy_const (i := 96) rfl (by decide) ?_
                        refine hy_isub (i := 97) rfl (by omega) ?_
                        refine hy_istore (i := 98) rfl ?_
                        refine hy_goto (i := 99) (tt := 135) rfl ?_
                        refine hy_goto (i := 135) (tt := 10) rfl ?_
                        first | (exfalso; omega) | exact ih _ _ (z + 1) _ _ _ (by omega) (by omega) (by omega) (by omega) (by first | (rw [e1]; omega) | omega) (by first | exact hF | exact hF.up rfl) (by rw [← hv]; refine (mc_go hk ?_).symm; unfold mc_step; (repeat (first | rw [if_pos (by omega)] | rw [if_neg (by omega)])); try rw [hy_up_row]; try rfl) | exact ih _ _ z _ _ _ (by omega) (by omega) (by omega) (by omega) (by first | (rw [e1]; omega) | omega) (by first | exact hF | exact hF.up rfl) (by rw [← hv]; refine (mc_go hk ?_).symm; unfold mc_step; (repeat (first | rw [if_pos (by omega)] | rw [if_neg (by omega)])); try rw [hy_up_row]; try rfl) | exact ih _ _ (z - 1) _ _ _ (by omega) (by omega) (by omega) (by omega) (by first | (rw [e1]; omega) | omega) (by first | exact hF | exact hF.up rfl) (by rw [← hv]; refine (mc_go hk ?_).symm; unfold mc_step; (repeat (first | rw [if_pos (by omega)] | rw [if_neg (by omega)])); try rw [hy_up_row]; try rfl)
                      · refine hy_iload (i := 90) rfl rfl ?_
                        refine hy_iload (i := 91) rfl rfl ?_
                        refine hy_iadd (i := 92) rfl (by omega) ?_
                        rw [Int.zero_add]
                        refine hy_istore (i := 93) rfl ?_
                        refine hy_goto (i := 94) (tt := 135) rfl ?_
                        refine hy_goto (i := 135) (tt := 10) rfl ?_
                        first | (exfalso; omega) | exact ih _ _ (z + 1) _ _ _ (by omega) (by omega) (by omega) (by omega) (by first | (rw [e1]; omega) | omega) (by first | exact hF | exact hF.up rfl) (by rw [← hv]; refine (mc_go hk ?_).symm; unfold mc_step; (repeat (first | rw [if_pos (by omega)] | rw [if_neg (by omega)])); try rw [hy_up_row]; try rfl) | exact ih _ _ z _ _ _ (by omega) (by omega) (by omega) (by omega) (by first | (rw [e1]; omega) | omega) (by first | exact hF | exact hF.up rfl) (by rw [← hv]; refine (mc_go hk ?_).symm; unfold mc_step; (repeat (first | rw [if_pos (by omega)] | rw [if_neg (by omega)])); try rw [hy_up_row]; try rfl) | exact ih _ _ (z - 1) _ _ _ (by omega) (by omega) (by omega) (by omega) (by first | (rw [e1]; omega) | omega) (by first | exact hF | exact hF.up rfl) (by rw [← hv]; refine (mc_go hk ?_).symm; unfold mc_step; (repeat (first | rw [if_pos (by omega)] | rw [if_neg (by omega)])); try rw [hy_up_row]; try rfl)
              · refine hy_aload (i := 56) rfl rfl ?_
                refine hy_getr (i := 57) rfl rfl ?_
                refine hy_iload (i := 58) rfl rfl ?_
                refine hy_const (i := 59) rfl (by decide) ?_
                refine hy_isub (i := 60) rfl (by omega) ?_
                refine hy_const (i := 61) rfl (by decide) ?_
                refine hy_aload (i := 62) rfl rfl ?_
                refine hy_getr (i := 63) rfl rfl ?_
                refine hy_iload (i := 64) rfl rfl ?_
                refine hy_const (i := 65) rfl (by decide) ?_
                refine hy_isub (i := 66) rfl (by omega) ?_
                refine hy_iald (i := 67) rfl rfl (by omega) (k := z - 1) (by omega) ?_
                refine hy_isubw (i := 68) rfl ?_
                refine hy_iast (i := 69) rfl rfl (by omega) (k := z - 1) (by omega) ?_
                refine hy_goto (i := 70) (tt := 135) rfl ?_
                refine hy_goto (i := 135) (tt := 10) rfl ?_
                first | (exfalso; omega) | exact ih _ _ (z + 1) _ _ _ (by omega) (by omega) (by omega) (by omega) (by first | (rw [e1]; omega) | omega) (by first | exact hF | exact hF.up rfl) (by rw [← hv]; refine (mc_go hk ?_).symm; unfold mc_step; (repeat (first | rw [if_pos (by omega)] | rw [if_neg (by omega)])); try rw [hy_up_row]; try rfl) | exact ih _ _ z _ _ _ (by omega) (by omega) (by omega) (by omega) (by first | (rw [e1]; omega) | omega) (by first | exact hF | exact hF.up rfl) (by rw [← hv]; refine (mc_go hk ?_).symm; unfold mc_step; (repeat (first | rw [if_pos (by omega)] | rw [if_neg (by omega)])); try rw [hy_up_row]; try rfl) | exact ih _ _ (z - 1) _ _ _ (by omega) (by omega) (by omega) (by omega) (by first | (rw [e1]; omega) | omega) (by first | exact hF | exact hF.up rfl) (by rw [← hv]; refine (mc_go hk ?_).symm; unfold mc_step; (repeat (first | rw [if_pos (by omega)] | rw [if_neg (by omega)])); try rw [hy_up_row]; try rfl)
            · refine hy_aload (i := 36) rfl rfl ?_
              refine hy_getr (i := 37) rfl rfl ?_
              refine hy_iload (i := 38) rfl rfl ?_
              refine hy_iload (i := 39) rfl rfl ?_
              refine hy_if_ne (i := 40) (tt := 43) rfl (fun zc4 => ?_) (fun zc4 => ?_)
              · refine hy_aload (i := 43) rfl rfl ?_
                refine hy_getr (i := 44) rfl rfl ?_
                refine hy_iload (i := 45) rfl rfl ?_
                refine hy_iald (i := 46) rfl rfl (by omega) rfl ?_
                try rw [o3]
                refine hy_iast (i := 47) rfl rfl (by omega) (k := z) (by omega) ?_
                refine hy_iload (i := 48) rfl rfl ?_
                refine hy_const (i := 49) rfl (by decide) ?_
                refine hy_iadd (i := 50) rfl (by omega) ?_
                refine hy_istore (i := 51) rfl ?_
                refine hy_goto (i := 52) (tt := 135) rfl ?_
                refine hy_goto (i := 135) (tt := 10) rfl ?_
                first | (exfalso; omega) | exact ih _ _ (z + 1) _ _ _ (by omega) (by omega) (by omega) (by omega) (by first | (rw [e1]; omega) | omega) (by first | exact hF | exact hF.up rfl) (by rw [← hv]; refine (mc_go hk ?_).symm; unfold mc_step; (repeat (first | rw [if_pos (by omega)] | rw [if_neg (by omega)])); try rw [hy_up_row]; try rfl) | exact ih _ _ z _ _ _ (by omega) (by omega) (by omega) (by omega) (by first | (rw [e1]; omega) | omega) (by first | exact hF | exact hF.up rfl) (by rw [← hv]; refine (mc_go hk ?_).symm; unfold mc_step; (repeat (first | rw [if_pos (by omega)] | rw [if_neg (by omega)])); try rw [hy_up_row]; try rfl) | exact ih _ _ (z - 1) _ _ _ (by omega) (by omega) (by omega) (by omega) (by first | (rw [e1]; omega) | omega) (by first | exact hF | exact hF.up rfl) (by rw [← hv]; refine (mc_go hk ?_).symm; unfold mc_step; (repeat (first | rw [if_pos (by omega)] | rw [if_neg (by omega)])); try rw [hy_up_row]; try rfl)
              · refine hy_iload (i := 41) rfl rfl ?_
                refine hy_goto (i := 42) (tt := 47) rfl ?_
                try rw [o3]
                refine hy_iast (i := 47) rfl rfl (by omega) (k := z) (by omega) ?_
                refine hy_iload (i := 48) rfl rfl ?_
                refine hy_const (i := 49) rfl (by decide) ?_
                refine hy_iadd (i := 50) rfl (by omega) ?_
                refine hy_istore (i := 51) rfl ?_
                refine hy_goto (i := 52) (tt := 135) rfl ?_
                refine hy_goto (i := 135) (tt := 10) rfl ?_
                first | (exfalso; omega) | exact ih _ _ (z + 1) _ _ _ (by omega) (by omega) (by omega) (by omega) (by first | (rw [e1]; omega) | omega) (by first | exact hF | exact hF.up rfl) (by rw [← hv]; refine (mc_go hk ?_).symm; unfold mc_step; (repeat (first | rw [if_pos (by omega)] | rw [if_neg (by omega)])); try rw [hy_up_row]; try rfl) | exact ih _ _ z _ _ _ (by omega) (by omega) (by omega) (by omega) (by first | (rw [e1]; omega) | omega) (by first | exact hF | exact hF.up rfl) (by rw [← hv]; refine (mc_go hk ?_).symm; unfold mc_step; (repeat (first | rw [if_pos (by omega)] | rw [if_neg (by omega)])); try rw [hy_up_row]; try rfl) | exact ih _ _ (z - 1) _ _ _ (by omega) (by omega) (by omega) (by omega) (by first | (rw [e1]; omega) | omega) (by first | exact hF | exact hF.up rfl) (by rw [← hv]; refine (mc_go hk ?_).symm; unfold mc_step; (repeat (first | rw [if_pos (by omega)] | rw [if_neg (by omega)])); try rw [hy_up_row]; try rfl)
      · rw [mc_stop hk] at hv
        refine hy_iload (i := 10) rfl rfl ?_
        refine hy_iload (i := 11) rfl rfl ?_
        refine hy_ic_ge (i := 12) (tt := 136) rfl (fun zc1 => ?_) (fun zc1 => ?_)
        · refine hy_aload (i := 136) rfl rfl ?_
          refine hy_getr (i := 137) rfl rfl ?_
          refine hy_const (i := 138) rfl (by decide) ?_
          refine hy_iald (i := 139) rfl rfl (by decide) (show _ = 0 from rfl) ?_
          refine hy_ireturn (i := 140) rfl rfl ?_
          exact ⟨congrArg some hv, hF⟩
        · omega
  have hab : a / 260 = 0 := by omega
  refine hy_const (i := 0) rfl (by decide) ?_
  refine hy_istore (i := 1) rfl ?_
  refine hy_const (i := 2) rfl (by decide) ?_
  refine hy_iload (i := 3) rfl rfl ?_
  refine hy_const (i := 4) rfl (by decide) ?_
  refine hy_idiv (i := 5) rfl (by omega) (by omega) ?_
  rw [hab]
  refine hy_imul (i := 6) rfl (by omega) ?_
  refine hy_istore (i := 7) rfl ?_
  refine hy_iload (i := 8) rfl rfl ?_
  refine hy_istore (i := 9) rfl ?_
  exact loop 260 a 0 0 t _ _ (Int.le_refl _) h0.2.1 (by omega) rfl hDa hy_F.rf (mc_eq hD (fun _ _ => rfl) 260 a 0 _ _ (fun j hj => absurd hj (by omega)) (Int.le_refl _) h0.2.1 (by omega) hDa)
end ML
/-- the model's law is well laid -/
def ml_ok (t : hy_T) : Prop := (0 ≤ t 59 18 ∧ t 59 18 ≤ 16) ∧ ∀ q : Nat, q < 16 → (q : Int) < t 59 18 → mc_wf (t 72) (t 75 q) (t 76 q) ∧ ((t 73 q = 98 ∨ t 73 q = 118) → mc_wf (t 72) (t 74 q) (t 75 q))
abbrev mlawX : Nat → Nat → Bool := fun r j => r == 72 || r == 73 || r == 74 || r == 75 || r == 76 || (r == 59 && j == 18)
theorem ml_ok_F {X : Nat → Nat → Bool} {t t1 : hy_T} (h : hy_F X t t1) (hX : ∀ r j, mlawX r j = true → X r j = false) (hk : ml_ok t) : ml_ok t1 := by
  have e : ∀ r j, mlawX r j = true → t1 r j = t r j := fun r j q => h r j (hX r j q)
  obtain ⟨h1, h2⟩ := hk
  have e72 : t1 72 = t 72 := funext fun j => e 72 j rfl
  refine ⟨by rw [e 59 18 rfl]; exact h1, fun q hq hq2 => ?_⟩
  rw [e72, e 73 q rfl, e 74 q rfl, e 75 q rfl, e 76 q rfl]
  exact h2 q hq (by rw [← e 59 18 rfl]; exact hq2)
def mb_holdsN (t : hy_T) (V : Nat → Int) (k : Int) : Nat → Nat → Bool → Bool
  | 0, _, s => s
  | n + 1, q, s => if t 73 q = k then (if mc_val (t 72) V (t 75 q) (t 76 q) = 1 then true else mb_holdsN t V k n (q + 1) false) else mb_holdsN t V k n (q + 1) s
def mb_holds (t : hy_T) (V : Nat → Int) (k : Int) (s : Bool) : Bool := mb_holdsN t V k (t 59 18).toNat 0 s
def mb_clamp (m v : Int) : Int := if v < 0 then 0 else if m < v then m else v
def mb_amtN (t : hy_T) (V : Nat → Int) (k m : Int) : Nat → Nat → Int
  | 0, _ => 0
  | n + 1, q => if t 73 q = k ∧ mc_val (t 72) V (t 75 q) (t 76 q) = 1 then mb_clamp m (mc_val (t 72) V (t 74 q) (t 75 q)) else mb_amtN t V k m n (q + 1)
def mb_amt (t : hy_T) (V : Nat → Int) (k m : Int) : Int := mb_amtN t V k m (t 59 18).toNat 0
theorem mb_clamp_in {m : Int} (hm : 0 ≤ m) (v : Int) : 0 ≤ mb_clamp m v ∧ mb_clamp m v ≤ m := by
  unfold mb_clamp
  split
  · omega
  · split <;> omega
theorem mb_amtN_in (t : hy_T) (V : Nat → Int) (k : Int) {m : Int} (hm : 0 ≤ m) : ∀ n q, 0 ≤ mb_amtN t V k m n q ∧ mb_amtN t V k m n q ≤ m
  | 0, q => ⟨Int.le_refl _, hm⟩
  | n + 1, q => by
    simp only [mb_amtN]
    split
    · exact mb_clamp_in hm _
    · exact mb_amtN_in t V k hm n (q + 1)
theorem mb_amt_in (t : hy_T) (V : Nat → Int) (k : Int) {m : Int} (hm : 0 ≤ m) : 0 ≤ mb_amt t V k m ∧ mb_amt t V k m ≤ m := mb_amtN_in t V k hm _ _
theorem mb_holdsN_V {t : hy_T} (hk : ml_ok t) {V V' : Nat → Int} (hV : ∀ j, j < 10 → V j = V' j) (k : Int) : ∀ (n q : Nat) (s : Bool), n + q = (t 59 18).toNat → mb_holdsN t V k n q s = mb_holdsN t V' k n q s
  | 0, q, s, _ => rfl
  | n + 1, q, s, h => by
    have h1 := hk.1
    simp only [mb_holdsN]
    rw [mc_val_V (hk.2 q (by omega) (by omega)).1 hV, mb_holdsN_V hk hV k n (q + 1) s (by omega), mb_holdsN_V hk hV k n (q + 1) false (by omega)]
theorem mb_holds_V {t : hy_T} (hk : ml_ok t) {V V' : Nat → Int} (hV : ∀ j, j < 10 → V j = V' j) (k : Int) (s : Bool) : mb_holds t V k s = mb_holds t V' k s := mb_holdsN_V hk hV k _ 0 s (by omega)
theorem mb_amtN_V {t : hy_T} (hk : ml_ok t) {V V' : Nat → Int} (hV : ∀ j, j < 10 → V j = V' j) {k : Int} (hk2 : k = 98 ∨ k = 118) (m : Int) : ∀ (n q : Nat), n + q = (t 59 18).toNat → mb_amtN t V k m n q = mb_amtN t V' k m n q
  | 0, q, _ => rfl
  | n + 1, q, h => by
    have h1 := hk.1
    have h2 := hk.2 q (by omega) (by omega)
    simp only [mb_amtN]
    rw [mc_val_V h2.1 hV, mb_amtN_V hk hV hk2 m n (q + 1) (by omega)]
    by_cases hc : t 73 q = k ∧ mc_val (t 72) V' (t 75 q) (t 76 q) = 1
    · rw [if_pos hc, if_pos hc, mc_val_V (h2.2 (by rw [hc.1]; exact hk2)) hV]
    · rw [if_neg hc, if_neg hc]
theorem mb_amt_V {t : hy_T} (hk : ml_ok t) {V V' : Nat → Int} (hV : ∀ j, j < 10 → V j = V' j) {k : Int} (hk2 : k = 98 ∨ k = 118) (m : Int) : mb_amt t V k m = mb_amt t V' k m := mb_amtN_V hk hV hk2 m _ 0 (by omega)
theorem mb_holds_F {X : Nat → Nat → Bool} {t t1 : hy_T} (h : hy_F X t t1) (hX : ∀ r j, mlawX r j = true → X r j = false) (V : Nat → Int) (k : Int) (s : Bool) : mb_holds t1 V k s = mb_holds t V k s := by
  have e : ∀ r j, mlawX r j = true → t1 r j = t r j := fun r j q => h r j (hX r j q)
  have e72 : t1 72 = t 72 := funext fun j => e 72 j rfl
  have h1 : ∀ n q s, mb_holdsN t1 V k n q s = mb_holdsN t V k n q s := by
    intro n
    induction n with
    | zero => intro q s; rfl
    | succ n ih => intro q s; simp only [mb_holdsN, e72, e 73 q rfl, e 75 q rfl, e 76 q rfl, ih]
  unfold mb_holds
  rw [h1, e 59 18 rfl]
theorem mb_amt_F {X : Nat → Nat → Bool} {t t1 : hy_T} (h : hy_F X t t1) (hX : ∀ r j, mlawX r j = true → X r j = false) (V : Nat → Int) (k m : Int) : mb_amt t1 V k m = mb_amt t V k m := by
  have e : ∀ r j, mlawX r j = true → t1 r j = t r j := fun r j q => h r j (hX r j q)
  have e72 : t1 72 = t 72 := funext fun j => e 72 j rfl
  have h1 : ∀ n q, mb_amtN t1 V k m n q = mb_amtN t V k m n q := by
    intro n
    induction n with
    | zero => intro q; rfl
    | succ n ih => intro q; simp only [mb_amtN, e72, e 73 q rfl, e 74 q rfl, e 75 q rfl, e 76 q rfl, ih]
  unfold mb_amt
  rw [h1, e 59 18 rfl]
section MM
variable {sc : List Int32} {t : hy_T}
theorem c_M_holds {k : Int} {s : Bool} (hk : ml_ok t) : hy_Ct sc hm_M_holds 2 [.inr (some 59), .inl k, .inl (hy_b s)] t (fun r t' => r = some (hy_b (mb_holds t (t 78) k s)) ∧ hy_F mlX t t') := by
  refine hy_mk_ct ok_M_holds ck_M_holds (Nat.le_of_ble_eq_true rfl) ?_
  have hk1 := hk.1
  have loop : ∀ (m : Nat), ∀ (q : Nat) (s1 : Bool) (t1 : hy_T), m + q = (t 59 18).toNat → hy_F mlX t t1 → mb_holdsN t (t 78) k m q s1 = mb_holds t (t 78) k s → hy_W sc hm_M_holds 2 4 [.inr (some 59), .inl k, .inl (hy_b s), .inl (hy_b s1), .inl (q : Int)] [] t1 (fun r t' => r = some (hy_b (mb_holds t (t 78) k s)) ∧ hy_F mlX t t') := by
    intro m
    induction m with
    | zero =>
      intro q s1 t1 hm hF hv
      have o1 : t1 59 18 = t 59 18 := hF 59 18 rfl
      refine hy_iload (i := 4) rfl rfl ?_
      refine hy_aload (i := 5) rfl rfl ?_
      refine hy_get (i := 6) (fk := 18) rfl rfl rfl ?_
      rw [o1]
      refine hy_ic_ge (i := 7) (tt := 33) rfl (fun zc1 => ?_) (fun zc1 => ?_)
      · refine hy_iload (i := 33) rfl rfl ?_
        refine hy_zreturn (i := 34) rfl rfl (by first | decide | exact hy_b01 _) ?_
        exact ⟨congrArg some (by rw [← hv]; rfl), hF⟩
      · omega
    | succ m ih =>
      intro q s1 t1 hm hF hv
      have o1 : t1 59 18 = t 59 18 := hF 59 18 rfl
      have o2 : t1 73 q = t 73 q := hF 73 q rfl
      have hw := (ml_ok_F hF (fun r j h => by revert h; simp [mlawX, mlX]; omega) hk).2 q (by omega) (by omega)
      have hw1 : mc_wf (t1 72) (t1 75 q) (t1 76 q) := hw.1
      have ev : mc_val (t1 72) (t1 78) (t1 75 q) (t1 76 q) = mc_val (t 72) (t 78) (t 75 q) (t 76 q) := by rw [show t1 72 = t 72 from funext fun j => hF 72 j rfl, show t1 78 = t 78 from funext fun j => hF 78 j rfl, hF 75 q rfl, hF 76 q rfl]
      simp only [mb_holdsN] at hv
      refine hy_iload (i := 4) rfl rfl ?_
      refine hy_aload (i := 5) rfl rfl ?_
      refine hy_get (i := 6) (fk := 18) rfl rfl rfl ?_
      rw [o1]
      refine hy_ic_ge (i := 7) (tt := 33) rfl (fun zc1 => ?_) (fun zc1 => ?_)
      · omega
      · refine hy_aload (i := 8) rfl rfl ?_
        refine hy_getr (i := 9) rfl rfl ?_
        refine hy_iload (i := 10) rfl rfl ?_
        refine hy_iald (i := 11) rfl rfl (by omega) (k := q) (by omega) ?_
        rw [o2]
        refine hy_iload (i := 12) rfl rfl ?_
        refine hy_ic_eq (i := 13) (tt := 15) rfl (fun zc2 => ?_) (fun zc2 => ?_)
        · refine hy_aload (i := 15) rfl rfl ?_
          refine hy_aload (i := 16) rfl rfl ?_
          refine hy_getr (i := 17) rfl rfl ?_
          refine hy_iload (i := 18) rfl rfl ?_
          refine hy_iald (i := 19) rfl rfl (by omega) (k := q) (by omega) ?_
          refine hy_aload (i := 20) rfl rfl ?_
          refine hy_getr (i := 21) rfl rfl ?_
          refine hy_iload (i := 22) rfl rfl ?_
          refine hy_iald (i := 23) rfl rfl (by omega) (k := q) (by omega) ?_
          refine hy_cV2 (i := 24) rfl mj_M_comesTo (by decide) rfl (Nat.le_of_ble_eq_true rfl) rfl rfl rfl (c_M_comesTo (by assumption)) (fun r1_ t1_ h1 => ?_)
          obtain ⟨rfl, hF1⟩ := h1
          dsimp only [hy_st, List.cons_append, List.nil_append]
          rw [ev]
          refine hy_const (i := 25) rfl (by decide) ?_
          refine hy_ic_ne (i := 26) (tt := 29) rfl (fun zc3 => ?_) (fun zc3 => ?_)
          · refine hy_const (i := 29) rfl (by decide) ?_
            refine hy_istore (i := 30) rfl ?_
            refine hy_iinc (i := 31) rfl rfl (by omega) ?_
            refine hy_goto (i := 32) (tt := 4) rfl ?_
            first | exact ih (q + 1) false _ (by omega) (hF.tr' (by assumption)) (by rw [← hv, if_pos (by assumption), if_neg (by assumption)]) | exact ih (q + 1) s1 _ (by omega) hF (by rw [← hv, if_neg (by assumption)])
          · refine hy_const (i := 27) rfl (by decide) ?_
            refine hy_zreturn (i := 28) rfl rfl (by first | decide | exact hy_b01 _) ?_
            exact ⟨congrArg some (by rw [← hv, if_pos (by assumption), if_pos (by assumption)]; rfl), hF.tr' (by assumption)⟩
        · refine hy_goto (i := 14) (tt := 31) rfl ?_
          refine hy_iinc (i := 31) rfl rfl (by omega) ?_
          refine hy_goto (i := 32) (tt := 4) rfl ?_
          first | exact ih (q + 1) false _ (by omega) (hF.tr' (by assumption)) (by rw [← hv, if_pos (by assumption), if_neg (by assumption)]) | exact ih (q + 1) s1 _ (by omega) hF (by rw [← hv, if_neg (by assumption)])
  refine hy_iload (i := 0) rfl rfl ?_
  refine hy_istore (i := 1) rfl ?_
  refine hy_const (i := 2) rfl (by decide) ?_
  refine hy_istore (i := 3) rfl ?_
  exact loop (t 59 18).toNat 0 s t (by omega) hy_F.rf rfl
theorem c_M_byLaw {k hi : Int} (hk : ml_ok t) (hk2 : k = 98 ∨ k = 118) : hy_Ct sc hm_M_byLaw 2 [.inr (some 59), .inl k, .inl hi] t (fun r t' => r = some (mb_amt t (t 78) k hi) ∧ hy_F mlX t t') := by
  refine hy_mk_ct ok_M_byLaw ck_M_byLaw (Nat.le_of_ble_eq_true rfl) ?_
  have hk1 := hk.1
  have loop : ∀ (m : Nat), ∀ (q : Nat) (t1 : hy_T) (v4 : hy_V), m + q = (t 59 18).toNat → hy_F mlX t t1 → mb_amtN t (t 78) k hi m q = mb_amt t (t 78) k hi → hy_W sc hm_M_byLaw 2 2 [.inr (some 59), .inl k, .inl hi, .inl (q : Int), v4] [] t1 (fun r t' => r = some (mb_amt t (t 78) k hi) ∧ hy_F mlX t t') := by
    intro m
    induction m with
    | zero =>
      intro q t1 v4 hm hF hv
      have o1 : t1 59 18 = t 59 18 := hF 59 18 rfl
      refine hy_iload (i := 2) rfl rfl ?_
      refine hy_aload (i := 3) rfl rfl ?_
      refine hy_get (i := 4) (fk := 18) rfl rfl rfl ?_
      rw [o1]
      refine hy_ic_ge (i := 5) (tt := 49) rfl (fun zc1 => ?_) (fun zc1 => ?_)
      · refine hy_const (i := 49) rfl (by decide) ?_
        refine hy_ireturn (i := 50) rfl rfl ?_
        exact ⟨congrArg some hv, hF⟩
      · omega
    | succ m ih =>
      intro q t1 v4 hm hF hv
      have o1 : t1 59 18 = t 59 18 := hF 59 18 rfl
      have o2 : t1 73 q = t 73 q := hF 73 q rfl
      have hw := (ml_ok_F hF (fun r j h => by revert h; simp [mlawX, mlX]; omega) hk).2 q (by omega) (by omega)
      have hw1 : mc_wf (t1 72) (t1 75 q) (t1 76 q) := hw.1
      have ev : mc_val (t1 72) (t1 78) (t1 75 q) (t1 76 q) = mc_val (t 72) (t 78) (t 75 q) (t 76 q) := by rw [show t1 72 = t 72 from funext fun j => hF 72 j rfl, show t1 78 = t 78 from funext fun j => hF 78 j rfl, hF 75 q rfl, hF 76 q rfl]
      simp only [mb_amtN] at hv
      by_cases hc : t 73 q = k
      · have hw2 : mc_wf (t1 72) (t1 74 q) (t1 75 q) := hw.2 (by rw [o2, hc]; exact hk2)
        refine hy_iload (i := 2) rfl rfl ?_
        refine hy_aload (i := 3) rfl rfl ?_
        refine hy_get (i := 4) (fk := 18) rfl rfl rfl ?_
        rw [o1]
        refine hy_ic_ge (i := 5) (tt := 49) rfl (fun zc1 => ?_) (fun zc1 => ?_)
        · omega
        · refine hy_aload (i := 6) rfl rfl ?_
          refine hy_getr (i := 7) rfl rfl ?_
          refine hy_iload (i := 8) rfl rfl ?_
          refine hy_iald (i := 9) rfl rfl (by omega) (k := q) (by omega) ?_
          rw [o2]
          refine hy_iload (i := 10) rfl rfl ?_
          refine hy_ic_ne (i := 11) (tt := 47) rfl (fun zc2 => ?_) (fun zc2 => ?_)
          · exact absurd hc (by assumption)
          · refine hy_aload (i := 12) rfl rfl ?_
            refine hy_aload (i := 13) rfl rfl ?_
            refine hy_getr (i := 14) rfl rfl ?_
            refine hy_iload (i := 15) rfl rfl ?_
            refine hy_iald (i := 16) rfl rfl (by omega) (k := q) (by omega) ?_
            refine hy_aload (i := 17) rfl rfl ?_
            refine hy_getr (i := 18) rfl rfl ?_
            refine hy_iload (i := 19) rfl rfl ?_
            refine hy_iald (i := 20) rfl rfl (by omega) (k := q) (by omega) ?_
            refine hy_cV2 (i := 21) rfl mj_M_comesTo (by decide) rfl (Nat.le_of_ble_eq_true rfl) rfl rfl rfl (c_M_comesTo (by assumption)) (fun r1_ t1_ h1 => ?_)
            obtain ⟨rfl, hF1⟩ := h1
            dsimp only [hy_st, List.cons_append, List.nil_append]
            rw [ev]
            refine hy_const (i := 22) rfl (by decide) ?_
            refine hy_ic_eq (i := 23) (tt := 25) rfl (fun zc3 => ?_) (fun zc3 => ?_)
            · refine hy_aload (i := 25) rfl rfl ?_
              refine hy_aload (i := 26) rfl rfl ?_
              refine hy_getr (i := 27) rfl rfl ?_
              refine hy_iload (i := 28) rfl rfl ?_
              refine hy_iald (i := 29) rfl rfl (by omega) (k := q) (by omega) ?_
              refine hy_aload (i := 30) rfl rfl ?_
              refine hy_getr (i := 31) rfl rfl ?_
              refine hy_iload (i := 32) rfl rfl ?_
              refine hy_iald (i := 33) rfl rfl (by omega) (k := q) (by omega) ?_
              have g74 : t1_ 74 q = t 74 q := ((hF.tr' hF1) 74 q rfl)
              have g75 : t1_ 75 q = t 75 q := ((hF.tr' hF1) 75 q rfl)
              have g72 : t1_ 72 = t 72 := funext fun j => (hF.tr' hF1) 72 j rfl
              have g78 : t1_ 78 = t 78 := funext fun j => (hF.tr' hF1) 78 j rfl
              have hw3 : mc_wf (t1_ 72) (t1_ 74 q) (t1_ 75 q) := by rw [g72, g74, g75]; rw [show t1 72 = t 72 from funext fun j => hF 72 j rfl, hF 74 q rfl, hF 75 q rfl] at hw2; exact hw2
              refine hy_cV2 (i := 34) rfl mj_M_comesTo (by decide) rfl (Nat.le_of_ble_eq_true rfl) rfl rfl rfl (c_M_comesTo (by assumption)) (fun r2_ t2_ h2 => ?_)
              obtain ⟨rfl, hF2⟩ := h2
              dsimp only [hy_st, List.cons_append, List.nil_append]
              rw [g72, g74, g75, g78]
              refine hy_istore (i := 35) rfl ?_
              refine hy_iload (i := 36) rfl rfl ?_
              refine hy_if_ge (i := 37) (tt := 40) rfl (fun zc4 => ?_) (fun zc4 => ?_)
              · refine hy_iload (i := 40) rfl rfl ?_
                refine hy_iload (i := 41) rfl rfl ?_
                refine hy_ic_le (i := 42) (tt := 45) rfl (fun zc5 => ?_) (fun zc5 => ?_)
                · refine hy_iload (i := 45) rfl rfl ?_
                  refine hy_ireturn (i := 46) rfl rfl ?_
                  refine ⟨congrArg some ?_, (hF.tr' hF1).tr' hF2⟩
                  rw [← hv, if_pos ⟨hc, by assumption⟩]
                  unfold mb_clamp
                  (repeat (first | rw [if_pos (by omega)] | rw [if_neg (by omega)]))
                · refine hy_iload (i := 43) rfl rfl ?_
                  refine hy_goto (i := 44) (tt := 46) rfl ?_
                  refine hy_ireturn (i := 46) rfl rfl ?_
                  refine ⟨congrArg some ?_, (hF.tr' hF1).tr' hF2⟩
                  rw [← hv, if_pos ⟨hc, by assumption⟩]
                  unfold mb_clamp
                  (repeat (first | rw [if_pos (by omega)] | rw [if_neg (by omega)]))
              · refine hy_const (i := 38) rfl (by decide) ?_
                refine hy_goto (i := 39) (tt := 46) rfl ?_
                refine hy_ireturn (i := 46) rfl rfl ?_
                refine ⟨congrArg some ?_, (hF.tr' hF1).tr' hF2⟩
                rw [← hv, if_pos ⟨hc, by assumption⟩]
                unfold mb_clamp
                (repeat (first | rw [if_pos (by omega)] | rw [if_neg (by omega)]))
            · refine hy_goto (i := 24) (tt := 47) rfl ?_
              refine hy_iinc (i := 47) rfl rfl (by omega) ?_
              refine hy_goto (i := 48) (tt := 2) rfl ?_
              exact ih (q + 1) _ _ (by omega) (hF.tr' hF1) (by rw [← hv, if_neg (fun w => absurd w.2 (by assumption))])
      · skip
        refine hy_iload (i := 2) rfl rfl ?_
        refine hy_aload (i := 3) rfl rfl ?_
        refine hy_get (i := 4) (fk := 18) rfl rfl rfl ?_
        rw [o1]
        refine hy_ic_ge (i := 5) (tt := 49) rfl (fun zc1 => ?_) (fun zc1 => ?_)
        · omega
        · refine hy_aload (i := 6) rfl rfl ?_
          refine hy_getr (i := 7) rfl rfl ?_
          refine hy_iload (i := 8) rfl rfl ?_
          refine hy_iald (i := 9) rfl rfl (by omega) (k := q) (by omega) ?_
          rw [o2]
          refine hy_iload (i := 10) rfl rfl ?_
          refine hy_ic_ne (i := 11) (tt := 47) rfl (fun zc2 => ?_) (fun zc2 => ?_)
          · refine hy_iinc (i := 47) rfl rfl (by omega) ?_
            refine hy_goto (i := 48) (tt := 2) rfl ?_
            exact ih (q + 1) _ _ (by omega) hF (by rw [← hv, if_neg (fun w => hc w.1)])
          · exact absurd (by assumption) hc
  refine hy_const (i := 0) rfl (by decide) ?_
  refine hy_istore (i := 1) rfl ?_
  exact loop (t 59 18).toNat 0 t _ (by omega) hy_F.rf rfl
end MM
