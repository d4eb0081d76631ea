/-! the model's methods: put back, counted, changed -/
section MBC
variable {sc : List Int32} {u v : hx_M} {d d' i j : Nat} {loc rest st : List hy_V} {t t1 : hy_T} {Q Q' : Option Int → hy_T → Prop}
theorem hy_cS3v {a1 a2 a3 : hy_V} (hop : (hx_ops u)[i]? = some (.invokestatic j)) (hj9 : j < 9991) (hj : hx_ms[j]? = some v) (hd : d' < d) (hn : 3 = hx_na v) (hrl : rest.length ≤ 8) (hct : hy_Ct sc v d' [a1, a2, a3] t (hy_e none t1)) (kk : hy_W sc u d (i + 1) loc rest t1 Q) : hy_W sc u d i loc (a3 :: a2 :: a1 :: rest) t Q :=
  hy_callS (as := [a1, a2, a3]) hop hj9 hj hd hn hrl hct (fun r t' h => by obtain ⟨rfl, rfl⟩ := h; exact kk)
end MBC
section MB
variable {sc : List Int32} {t : hy_T}
theorem c_M_unpacks {r : Nat} (ha : hy_arr r = some (0, 96)) : hy_Ct sc hm_M_unpacks 0 [.inr (some 59), .inr (some r)] t (hy_e none (mf_unpN r t 16)) := by
  refine hy_mk_ct ok_M_unpacks ck_M_unpacks (Nat.le_of_ble_eq_true rfl) ?_
  have loop : ∀ (m : Nat), ∀ (k : Nat) (t1 : hy_T), m + k = 16 → t1 = mf_unpN r t k → hy_W sc hm_M_unpacks 0 2 [.inr (some 59), .inr (some r), .inl (k : Int)] [] t1 (hy_e none (mf_unpN r t 16)) := by
    intro m
    induction m with
    | zero =>
      intro k t1 hm ht
      obtain rfl : k = 16 := by omega
      refine hy_iload (i := 2) rfl rfl ?_
      refine hy_const (i := 3) rfl (by decide) ?_
      refine hy_ic_ge (i := 4) (tt := 71) rfl (fun zc1 => ?_) (fun zc1 => ?_)
      · refine hy_return (i := 71) rfl rfl ?_
        exact ⟨rfl, ht⟩
      · omega
    | succ m ih =>
      intro k t1 hm ht
      refine hy_iload (i := 2) rfl rfl ?_
      refine hy_const (i := 3) rfl (by decide) ?_
      refine hy_ic_ge (i := 4) (tt := 71) rfl (fun zc1 => ?_) (fun zc1 => ?_)
      · omega
      · refine hy_aload (i := 5) rfl rfl ?_
        refine hy_getr (i := 6) rfl rfl ?_
        refine hy_iload (i := 7) rfl rfl ?_
        refine hy_aload (i := 8) rfl rfl ?_
        refine hy_const (i := 9) rfl (by decide) ?_
        refine hy_iload (i := 10) rfl rfl ?_
        refine hy_imul (i := 11) rfl (by omega) ?_
        refine hy_iald (i := 12) rfl ha (by omega) (k := 6 * k) (by omega) ?_
        refine hy_iast (i := 13) rfl rfl (by omega) (k := k) (by omega) ?_
        refine hy_aload (i := 14) rfl rfl ?_
        refine hy_getr (i := 15) rfl rfl ?_
        refine hy_iload (i := 16) rfl rfl ?_
        refine hy_aload (i := 17) rfl rfl ?_
        refine hy_const (i := 18) rfl (by decide) ?_
        refine hy_iload (i := 19) rfl rfl ?_
        refine hy_imul (i := 20) rfl (by omega) ?_
        refine hy_const (i := 21) rfl (by decide) ?_
        refine hy_iadd (i := 22) rfl (by omega) ?_
        refine hy_iald (i := 23) rfl ha (by omega) (k := 6 * k + 1) (by omega) ?_
        refine hy_iast (i := 24) rfl rfl (by omega) (k := k) (by omega) ?_
        refine hy_aload (i := 25) rfl rfl ?_
        refine hy_getr (i := 26) rfl rfl ?_
        refine hy_iload (i := 27) rfl rfl ?_
        refine hy_aload (i := 28) rfl rfl ?_
        refine hy_const (i := 29) rfl (by decide) ?_
        refine hy_iload (i := 30) rfl rfl ?_
        refine hy_imul (i := 31) rfl (by omega) ?_
        refine hy_const (i := 32) rfl (by decide) ?_
        refine hy_iadd (i := 33) rfl (by omega) ?_
        refine hy_iald (i := 34) rfl ha (by omega) (k := 6 * k + 2) (by omega) ?_
        refine hy_iast (i := 35) rfl rfl (by omega) (k := k) (by omega) ?_
        refine hy_aload (i := 36) rfl rfl ?_
        refine hy_getr (i := 37) rfl rfl ?_
        refine hy_iload (i := 38) rfl rfl ?_
        refine hy_aload (i := 39) rfl rfl ?_
        refine hy_const (i := 40) rfl (by decide) ?_
        refine hy_iload (i := 41) rfl rfl ?_
        refine hy_imul (i := 42) rfl (by omega) ?_
        refine hy_const (i := 43) rfl (by decide) ?_
        refine hy_iadd (i := 44) rfl (by omega) ?_
        refine hy_iald (i := 45) rfl ha (by omega) (k := 6 * k + 3) (by omega) ?_
        refine hy_iast (i := 46) rfl rfl (by omega) (k := k) (by omega) ?_
        refine hy_aload (i := 47) rfl rfl ?_
        refine hy_getr (i := 48) rfl rfl ?_
        refine hy_iload (i := 49) rfl rfl ?_
        refine hy_aload (i := 50) rfl rfl ?_
        refine hy_const (i := 51) rfl (by decide) ?_
        refine hy_iload (i := 52) rfl rfl ?_
        refine hy_imul (i := 53) rfl (by omega) ?_
        refine hy_const (i := 54) rfl (by decide) ?_
        refine hy_iadd (i := 55) rfl (by omega) ?_
        refine hy_iald (i := 56) rfl ha (by omega) (k := 6 * k + 4) (by omega) ?_
        refine hy_iast (i := 57) rfl rfl (by omega) (k := k) (by omega) ?_
        refine hy_aload (i := 58) rfl rfl ?_
        refine hy_getr (i := 59) rfl rfl ?_
        refine hy_iload (i := 60) rfl rfl ?_
        refine hy_aload (i := 61) rfl rfl ?_
        refine hy_const (i := 62) rfl (by decide) ?_
        refine hy_iload (i := 63) rfl rfl ?_
        refine hy_imul (i := 64) rfl (by omega) ?_
        refine hy_const (i := 65) rfl (by decide) ?_
        refine hy_iadd (i := 66) rfl (by omega) ?_
        refine hy_iald (i := 67) rfl ha (by omega) (k := 6 * k + 5) (by omega) ?_
        refine hy_iast (i := 68) rfl rfl (by omega) (k := k) (by omega) ?_
        refine hy_iinc (i := 69) rfl rfl (by omega) ?_
        refine hy_goto (i := 70) (tt := 2) rfl ?_
        exact ih (k + 1) _ (by omega) (by rw [ht]; rfl)
  refine hy_const (i := 0) rfl (by decide) ?_
  refine hy_istore (i := 1) rfl ?_
  exact loop 16 0 t rfl rfl
theorem c_M_begins : hy_Ct sc hm_M_begins 1 [.inr (some 59)] t (hy_e none (mf_begins t)) := by
  refine hy_mk_ct ok_M_begins ck_M_begins (Nat.le_of_ble_eq_true rfl) ?_
  refine hy_aload (i := 0) rfl rfl ?_
  refine hy_getr (i := 1) rfl rfl ?_
  refine hy_aload (i := 2) rfl rfl ?_
  refine hy_getr (i := 3) rfl rfl ?_
  refine hy_const (i := 4) rfl (by decide) ?_
  refine hy_cS3v (i := 5) rfl (by decide) mj_M_copies (by decide) rfl (Nat.le_of_ble_eq_true rfl) (c_M_copies rfl rfl (by decide) (by decide)) ?_
  refine hy_aload (i := 6) rfl rfl ?_
  refine hy_aload (i := 7) rfl rfl ?_
  refine hy_getr (i := 8) rfl rfl ?_
  refine hy_cV1v (i := 9) rfl mj_M_packs (by decide) rfl (Nat.le_of_ble_eq_true rfl) rfl rfl rfl (c_M_packs rfl) ?_
  refine hy_aload (i := 10) rfl rfl ?_
  refine hy_aload (i := 11) rfl rfl ?_
  refine hy_get (i := 12) (fk := 34) rfl rfl rfl ?_
  refine hy_put (i := 13) (fk := 51) rfl rfl rfl rfl ?_
  refine hy_aload (i := 14) rfl rfl ?_
  refine hy_aload (i := 15) rfl rfl ?_
  refine hy_get (i := 16) (fk := 2) rfl rfl rfl ?_
  refine hy_put (i := 17) (fk := 52) rfl rfl rfl rfl ?_
  refine hy_aload (i := 18) rfl rfl ?_
  refine hy_aload (i := 19) rfl rfl ?_
  refine hy_get (i := 20) (fk := 1) rfl rfl rfl ?_
  refine hy_put (i := 21) (fk := 53) rfl rfl rfl rfl ?_
  refine hy_return (i := 22) rfl rfl ?_
  exact ⟨rfl, rfl⟩
theorem c_M_again : hy_Ct sc hm_M_again 1 [.inr (some 59)] t (hy_e none (mf_again t)) := by
  refine hy_mk_ct ok_M_again ck_M_again (Nat.le_of_ble_eq_true rfl) ?_
  refine hy_aload (i := 0) rfl rfl ?_
  refine hy_getr (i := 1) rfl rfl ?_
  refine hy_aload (i := 2) rfl rfl ?_
  refine hy_getr (i := 3) rfl rfl ?_
  refine hy_const (i := 4) rfl (by decide) ?_
  refine hy_cS3v (i := 5) rfl (by decide) mj_M_copies (by decide) rfl (Nat.le_of_ble_eq_true rfl) (c_M_copies rfl rfl (by decide) (by decide)) ?_
  refine hy_aload (i := 6) rfl rfl ?_
  refine hy_aload (i := 7) rfl rfl ?_
  refine hy_getr (i := 8) rfl rfl ?_
  refine hy_cV1v (i := 9) rfl mj_M_unpacks (by decide) rfl (Nat.le_of_ble_eq_true rfl) rfl rfl rfl (c_M_unpacks rfl) ?_
  refine hy_aload (i := 10) rfl rfl ?_
  refine hy_aload (i := 11) rfl rfl ?_
  refine hy_get (i := 12) (fk := 51) rfl rfl rfl ?_
  refine hy_put (i := 13) (fk := 34) rfl rfl rfl rfl ?_
  refine hy_aload (i := 14) rfl rfl ?_
  refine hy_aload (i := 15) rfl rfl ?_
  refine hy_get (i := 16) (fk := 52) rfl rfl rfl ?_
  refine hy_put (i := 17) (fk := 2) rfl rfl rfl rfl ?_
  refine hy_aload (i := 18) rfl rfl ?_
  refine hy_aload (i := 19) rfl rfl ?_
  refine hy_get (i := 20) (fk := 53) rfl rfl rfl ?_
  refine hy_put (i := 21) (fk := 1) rfl rfl rfl rfl ?_
  refine hy_return (i := 22) rfl rfl ?_
  exact ⟨rfl, rfl⟩
theorem c_M_keep : hy_Ct sc hm_M_keep 1 [.inr (some 59)] t (hy_e (some (mf_keep t 59 34)) (mf_keep t)) := by
  refine hy_mk_ct ok_M_keep ck_M_keep (Nat.le_of_ble_eq_true rfl) ?_
  refine hy_aload (i := 0) rfl rfl ?_
  refine hy_const (i := 1) rfl (by decide) ?_
  refine hy_putz (i := 2) (fk := 57) rfl rfl rfl rfl (by decide) ?_
  refine hy_aload (i := 3) rfl rfl ?_
  refine hy_getr (i := 4) rfl rfl ?_
  refine hy_aload (i := 5) rfl rfl ?_
  refine hy_getr (i := 6) rfl rfl ?_
  refine hy_const (i := 7) rfl (by decide) ?_
  refine hy_cS3v (i := 8) rfl (by decide) mj_M_copies (by decide) rfl (Nat.le_of_ble_eq_true rfl) (c_M_copies rfl rfl (by decide) (by decide)) ?_
  refine hy_aload (i := 9) rfl rfl ?_
  refine hy_aload (i := 10) rfl rfl ?_
  refine hy_getr (i := 11) rfl rfl ?_
  refine hy_cV1v (i := 12) rfl mj_M_packs (by decide) rfl (Nat.le_of_ble_eq_true rfl) rfl rfl rfl (c_M_packs rfl) ?_
  refine hy_aload (i := 13) rfl rfl ?_
  refine hy_getr (i := 14) rfl rfl ?_
  refine hy_aload (i := 15) rfl rfl ?_
  refine hy_getr (i := 16) rfl rfl ?_
  refine hy_const (i := 17) rfl (by decide) ?_
  refine hy_cS3v (i := 18) rfl (by decide) mj_M_copies (by decide) rfl (Nat.le_of_ble_eq_true rfl) (c_M_copies rfl rfl (by decide) (by decide)) ?_
  refine hy_aload (i := 19) rfl rfl ?_
  refine hy_aload (i := 20) rfl rfl ?_
  refine hy_get (i := 21) (fk := 34) rfl rfl rfl ?_
  refine hy_put (i := 22) (fk := 54) rfl rfl rfl rfl ?_
  refine hy_aload (i := 23) rfl rfl ?_
  refine hy_aload (i := 24) rfl rfl ?_
  refine hy_get (i := 25) (fk := 2) rfl rfl rfl ?_
  refine hy_put (i := 26) (fk := 55) rfl rfl rfl rfl ?_
  refine hy_aload (i := 27) rfl rfl ?_
  refine hy_aload (i := 28) rfl rfl ?_
  refine hy_get (i := 29) (fk := 1) rfl rfl rfl ?_
  refine hy_put (i := 30) (fk := 56) rfl rfl rfl rfl ?_
  refine hy_aload (i := 31) rfl rfl ?_
  refine hy_get (i := 32) (fk := 34) rfl rfl rfl ?_
  refine hy_ireturn (i := 33) rfl rfl ?_
  exact ⟨rfl, rfl⟩
theorem c_M_undo : hy_Ct sc hm_M_undo 1 [.inr (some 59)] t (hy_e (some (if t 59 57 = 0 then 0 else 1)) (if t 59 57 = 0 then t else mf_undo t)) := by
  refine hy_mk_ct ok_M_undo ck_M_undo (Nat.le_of_ble_eq_true rfl) ?_
  refine hy_aload (i := 0) rfl rfl ?_
  refine hy_get (i := 1) (fk := 57) rfl rfl rfl ?_
  refine hy_if_ne (i := 2) (tt := 5) rfl (fun zc1 => ?_) (fun zc1 => ?_)
  · refine hy_aload (i := 5) rfl rfl ?_
    refine hy_getr (i := 6) rfl rfl ?_
    refine hy_aload (i := 7) rfl rfl ?_
    refine hy_getr (i := 8) rfl rfl ?_
    refine hy_const (i := 9) rfl (by decide) ?_
    refine hy_cS3v (i := 10) rfl (by decide) mj_M_copies (by decide) rfl (Nat.le_of_ble_eq_true rfl) (c_M_copies rfl rfl (by decide) (by decide)) ?_
    refine hy_aload (i := 11) rfl rfl ?_
    refine hy_aload (i := 12) rfl rfl ?_
    refine hy_getr (i := 13) rfl rfl ?_
    refine hy_cV1v (i := 14) rfl mj_M_unpacks (by decide) rfl (Nat.le_of_ble_eq_true rfl) rfl rfl rfl (c_M_unpacks rfl) ?_
    refine hy_aload (i := 15) rfl rfl ?_
    refine hy_getr (i := 16) rfl rfl ?_
    refine hy_aload (i := 17) rfl rfl ?_
    refine hy_getr (i := 18) rfl rfl ?_
    refine hy_const (i := 19) rfl (by decide) ?_
    refine hy_cS3v (i := 20) rfl (by decide) mj_M_copies (by decide) rfl (Nat.le_of_ble_eq_true rfl) (c_M_copies rfl rfl (by decide) (by decide)) ?_
    refine hy_aload (i := 21) rfl rfl ?_
    refine hy_aload (i := 22) rfl rfl ?_
    refine hy_get (i := 23) (fk := 54) rfl rfl rfl ?_
    refine hy_put (i := 24) (fk := 34) rfl rfl rfl rfl ?_
    refine hy_aload (i := 25) rfl rfl ?_
    refine hy_aload (i := 26) rfl rfl ?_
    refine hy_get (i := 27) (fk := 55) rfl rfl rfl ?_
    refine hy_put (i := 28) (fk := 2) rfl rfl rfl rfl ?_
    refine hy_aload (i := 29) rfl rfl ?_
    refine hy_aload (i := 30) rfl rfl ?_
    refine hy_get (i := 31) (fk := 56) rfl rfl rfl ?_
    refine hy_put (i := 32) (fk := 1) rfl rfl rfl rfl ?_
    refine hy_const (i := 33) rfl (by decide) ?_
    refine hy_zreturn (i := 34) rfl rfl (by first | decide | exact hy_b01 _) ?_
    first | (rw [if_neg zc1, if_neg zc1]; exact ⟨rfl, rfl⟩) | (rw [if_pos (by omega), if_pos (by omega)]; exact ⟨rfl, rfl⟩)
  · refine hy_const (i := 3) rfl (by decide) ?_
    refine hy_zreturn (i := 4) rfl rfl (by first | decide | exact hy_b01 _) ?_
    first | (rw [if_neg zc1, if_neg zc1]; exact ⟨rfl, rfl⟩) | (rw [if_pos (by omega), if_pos (by omega)]; exact ⟨rfl, rfl⟩)
theorem c_M_treatyIs {i w : Int} (hc : 0 ≤ t 59 34 ∧ t 59 34 ≤ 16) : hy_Ct sc hm_M_treatyIs 1 [.inr (some 59), .inl i, .inl w] t (hy_e (some (if (0 ≤ i ∧ i < t 59 34) ∧ 0 ≤ w ∧ w < 6 then t (85 + w.toNat) i.toNat else -1)) t) := by
  refine hy_mk_ct ok_M_treatyIs ck_M_treatyIs (Nat.le_of_ble_eq_true rfl) ?_
  by_cases hq : 0 ≤ i ∧ i < t 59 34
  · skip
    refine hy_iload (i := 0) rfl rfl ?_
    refine hy_const (i := 1) rfl (by decide) ?_
    refine hy_aload (i := 2) rfl rfl ?_
    refine hy_get (i := 3) (fk := 34) rfl rfl rfl ?_
    refine hy_const (i := 4) rfl (by decide) ?_
    refine hy_isub (i := 5) rfl (by omega) ?_
    refine hy_cS3e (i := 6) rfl (by decide) mj_M_in (by decide) rfl (Nat.le_of_ble_eq_true rfl) (c_M_in) ?_
    refine hy_ib_ne (i := 7) (tt := 10) rfl (fun zc1 => ?_) (fun zc1 => ?_)
    · refine hy_iload (i := 10) rfl rfl ?_
      by_cases zq2 : w = 0
      · refine hy_tsw (i := 11) (tt := 12) rfl (by rw [zq2]; rfl) ?_
        refine hy_aload (i := 12) rfl rfl ?_
        refine hy_getr (i := 13) rfl rfl ?_
        refine hy_iload (i := 14) rfl rfl ?_
        refine hy_iald (i := 15) rfl rfl (by omega) rfl ?_
        refine hy_ireturn (i := 16) rfl rfl ?_
        first | exact ⟨congrArg some (by rw [if_pos ⟨hq, by omega⟩, show w.toNat = 0 by omega]), rfl⟩ | exact ⟨congrArg some (by rw [if_pos ⟨hq, by omega⟩, show w.toNat = 1 by omega]), rfl⟩ | exact ⟨congrArg some (by rw [if_pos ⟨hq, by omega⟩, show w.toNat = 2 by omega]), rfl⟩ | exact ⟨congrArg some (by rw [if_pos ⟨hq, by omega⟩, show w.toNat = 3 by omega]), rfl⟩ | exact ⟨congrArg some (by rw [if_pos ⟨hq, by omega⟩, show w.toNat = 4 by omega]), rfl⟩ | exact ⟨congrArg some (by rw [if_pos ⟨hq, by omega⟩, show w.toNat = 5 by omega]), rfl⟩ | exact ⟨congrArg some (by rw [if_neg (by omega)]), rfl⟩
      · skip
        by_cases zq2 : w = 1
        · refine hy_tsw (i := 11) (tt := 17) rfl (by rw [zq2]; rfl) ?_
          refine hy_aload (i := 17) rfl rfl ?_
          refine hy_getr (i := 18) rfl rfl ?_
          refine hy_iload (i := 19) rfl rfl ?_
          refine hy_iald (i := 20) rfl rfl (by omega) rfl ?_
          refine hy_ireturn (i := 21) rfl rfl ?_
          first | exact ⟨congrArg some (by rw [if_pos ⟨hq, by omega⟩, show w.toNat = 0 by omega]), rfl⟩ | exact ⟨congrArg some (by rw [if_pos ⟨hq, by omega⟩, show w.toNat = 1 by omega]), rfl⟩ | exact ⟨congrArg some (by rw [if_pos ⟨hq, by omega⟩, show w.toNat = 2 by omega]), rfl⟩ | exact ⟨congrArg some (by rw [if_pos ⟨hq, by omega⟩, show w.toNat = 3 by omega]), rfl⟩ | exact ⟨congrArg some (by rw [if_pos ⟨hq, by omega⟩, show w.toNat = 4 by omega]), rfl⟩ | exact ⟨congrArg some (by rw [if_pos ⟨hq, by omega⟩, show w.toNat = 5 by omega]), rfl⟩ | exact ⟨congrArg some (by rw [if_neg (by omega)]), rfl⟩
        · skip
          by_cases zq2 : w = 2
          · refine hy_tsw (i := 11) (tt := 22) rfl (by rw [zq2]; rfl) ?_
            refine hy_aload (i := 22) rfl rfl ?_
            refine hy_getr (i := 23) rfl rfl ?_
            refine hy_iload (i := 24) rfl rfl ?_
            refine hy_iald (i := 25) rfl rfl (by omega) rfl ?_
            refine hy_ireturn (i := 26) rfl rfl ?_
            first | exact ⟨congrArg some (by rw [if_pos ⟨hq, by omega⟩, show w.toNat = 0 by omega]), rfl⟩ | exact ⟨congrArg some (by rw [if_pos ⟨hq, by omega⟩, show w.toNat = 1 by omega]), rfl⟩ | exact ⟨congrArg some (by rw [if_pos ⟨hq, by omega⟩, show w.toNat = 2 by omega]), rfl⟩ | exact ⟨congrArg some (by rw [if_pos ⟨hq, by omega⟩, show w.toNat = 3 by omega]), rfl⟩ | exact ⟨congrArg some (by rw [if_pos ⟨hq, by omega⟩, show w.toNat = 4 by omega]), rfl⟩ | exact ⟨congrArg some (by rw [if_pos ⟨hq, by omega⟩, show w.toNat = 5 by omega]), rfl⟩ | exact ⟨congrArg some (by rw [if_neg (by omega)]), rfl⟩
          · skip
            by_cases zq2 : w = 3
            · refine hy_tsw (i := 11) (tt := 27) rfl (by rw [zq2]; rfl) ?_
              refine hy_aload (i := 27) rfl rfl ?_
              refine hy_getr (i := 28) rfl rfl ?_
              refine hy_iload (i := 29) rfl rfl ?_
              refine hy_iald (i := 30) rfl rfl (by omega) rfl ?_
              refine hy_ireturn (i := 31) rfl rfl ?_
              first | exact ⟨congrArg some (by rw [if_pos ⟨hq, by omega⟩, show w.toNat = 0 by omega]), rfl⟩ | exact ⟨congrArg some (by rw [if_pos ⟨hq, by omega⟩, show w.toNat = 1 by omega]), rfl⟩ | exact ⟨congrArg some (by rw [if_pos ⟨hq, by omega⟩, show w.toNat = 2 by omega]), rfl⟩ | exact ⟨congrArg some (by rw [if_pos ⟨hq, by omega⟩, show w.toNat = 3 by omega]), rfl⟩ | exact ⟨congrArg some (by rw [if_pos ⟨hq, by omega⟩, show w.toNat = 4 by omega]), rfl⟩ | exact ⟨congrArg some (by rw [if_pos ⟨hq, by omega⟩, show w.toNat = 5 by omega]), rfl⟩ | exact ⟨congrArg some (by rw [if_neg (by omega)]), rfl⟩
            · skip
              by_cases zq2 : w = 4
              · refine hy_tsw (i := 11) (tt := 32) rfl (by rw [zq2]; rfl) ?_
                refine hy_aload (i := 32) rfl rfl ?_
                refine hy_getr (i := 33) rfl rfl ?_
                refine hy_iload (i := 34) rfl rfl ?_
                refine hy_iald (i := 35) rfl rfl (by omega) rfl ?_
                refine hy_ireturn (i := 36) rfl rfl ?_
                first | exact ⟨congrArg some (by rw [if_pos ⟨hq, by omega⟩, show w.toNat = 0 by omega]), rfl⟩ | exact ⟨congrArg some (by rw [if_pos ⟨hq, by omega⟩, show w.toNat = 1 by omega]), rfl⟩ | exact ⟨congrArg some (by rw [if_pos ⟨hq, by omega⟩, show w.toNat = 2 by omega]), rfl⟩ | exact ⟨congrArg some (by rw [if_pos ⟨hq, by omega⟩, show w.toNat = 3 by omega]), rfl⟩ | exact ⟨congrArg some (by rw [if_pos ⟨hq, by omega⟩, show w.toNat = 4 by omega]), rfl⟩ | exact ⟨congrArg some (by rw [if_pos ⟨hq, by omega⟩, show w.toNat = 5 by omega]), rfl⟩ | exact ⟨congrArg some (by rw [if_neg (by omega)]), rfl⟩
              · skip
                by_cases zq2 : w = 5
                · refine hy_tsw (i := 11) (tt := 37) rfl (by rw [zq2]; rfl) ?_
                  refine hy_aload (i := 37) rfl rfl ?_
                  refine hy_getr (i := 38) rfl rfl ?_
                  refine hy_iload (i := 39) rfl rfl ?_
                  refine hy_iald (i := 40) rfl rfl (by omega) rfl ?_
                  refine hy_ireturn (i := 41) rfl rfl ?_
                  first | exact ⟨congrArg some (by rw [if_pos ⟨hq, by omega⟩, show w.toNat = 0 by omega]), rfl⟩ | exact ⟨congrArg some (by rw [if_pos ⟨hq, by omega⟩, show w.toNat = 1 by omega]), rfl⟩ | exact ⟨congrArg some (by rw [if_pos ⟨hq, by omega⟩, show w.toNat = 2 by omega]), rfl⟩ | exact ⟨congrArg some (by rw [if_pos ⟨hq, by omega⟩, show w.toNat = 3 by omega]), rfl⟩ | exact ⟨congrArg some (by rw [if_pos ⟨hq, by omega⟩, show w.toNat = 4 by omega]), rfl⟩ | exact ⟨congrArg some (by rw [if_pos ⟨hq, by omega⟩, show w.toNat = 5 by omega]), rfl⟩ | exact ⟨congrArg some (by rw [if_neg (by omega)]), rfl⟩
                · skip
                  refine hy_tsw (i := 11) (tt := 42) rfl (by rcases (show w < 0 ∨ 5 < w by omega) with hh | hh <;> first | (rw [if_pos (by omega)]; rfl) | (rw [hh]; rfl)) ?_
                  refine hy_const (i := 42) rfl (by decide) ?_
                  refine hy_ireturn (i := 43) rfl rfl ?_
                  first | exact ⟨congrArg some (by rw [if_pos ⟨hq, by omega⟩, show w.toNat = 0 by omega]), rfl⟩ | exact ⟨congrArg some (by rw [if_pos ⟨hq, by omega⟩, show w.toNat = 1 by omega]), rfl⟩ | exact ⟨congrArg some (by rw [if_pos ⟨hq, by omega⟩, show w.toNat = 2 by omega]), rfl⟩ | exact ⟨congrArg some (by rw [if_pos ⟨hq, by omega⟩, show w.toNat = 3 by omega]), rfl⟩ | exact ⟨congrArg some (by rw [if_pos ⟨hq, by omega⟩, show w.toNat = 4 by omega]), rfl⟩ | exact ⟨congrArg some (by rw [if_pos ⟨hq, by omega⟩, show w.toNat = 5 by omega]), rfl⟩ | exact ⟨congrArg some (by rw [if_neg (by omega)]), rfl⟩
    · simp at zc1; omega
  · skip
    refine hy_iload (i := 0) rfl rfl ?_
    refine hy_const (i := 1) rfl (by decide) ?_
    refine hy_aload (i := 2) rfl rfl ?_
    refine hy_get (i := 3) (fk := 34) rfl rfl rfl ?_
    refine hy_const (i := 4) rfl (by decide) ?_
    refine hy_isub (i := 5) rfl (by omega) ?_
    refine hy_cS3e (i := 6) rfl (by decide) mj_M_in (by decide) rfl (Nat.le_of_ble_eq_true rfl) (c_M_in) ?_
    refine hy_ib_ne (i := 7) (tt := 10) rfl (fun zc1 => ?_) (fun zc1 => ?_)
    · simp at zc1; omega
    · refine hy_const (i := 8) rfl (by decide) ?_
      refine hy_ireturn (i := 9) rfl rfl ?_
      exact ⟨congrArg some (by rw [if_neg (fun h => hq h.1)]), rfl⟩
theorem c_M_bits {x : Int} : hy_Ct sc hm_M_bits 0 [.inl x] t (hy_e (some (mf_bitsN x 12)) t) := by
  refine hy_mk_ct ok_M_bits ck_M_bits (Nat.le_of_ble_eq_true rfl) ?_
  have loop : ∀ (m : Nat), ∀ (k : Nat), m + k = 12 → hy_W sc hm_M_bits 0 4 [.inl x, .inl (mf_bitsN x k), .inl (k : Int)] [] t (hy_e (some (mf_bitsN x 12)) t) := by
    intro m
    induction m with
    | zero =>
      intro k hm
      obtain rfl : k = 12 := by omega
      refine hy_iload (i := 4) rfl rfl ?_
      refine hy_const (i := 5) rfl (by decide) ?_
      refine hy_ic_ge (i := 6) (tt := 17) rfl (fun zc1 => ?_) (fun zc1 => ?_)
      · refine hy_iload (i := 17) rfl rfl ?_
        refine hy_ireturn (i := 18) rfl rfl ?_
        exact ⟨rfl, rfl⟩
      · omega
    | succ m ih =>
      intro k hm
      have hin := mf_bitsN_in x k
      have hb := hy_b_in (hz_b x k)
      refine hy_iload (i := 4) rfl rfl ?_
      refine hy_const (i := 5) rfl (by decide) ?_
      refine hy_ic_ge (i := 6) (tt := 17) rfl (fun zc1 => ?_) (fun zc1 => ?_)
      · omega
      · refine hy_iload (i := 7) rfl rfl ?_
        refine hy_iload (i := 8) rfl rfl ?_
        refine hy_iload (i := 9) rfl rfl ?_
        refine hy_ishr (i := 10) rfl ?_
        refine hy_const (i := 11) rfl (by decide) ?_
        refine hy_iand (i := 12) rfl ?_
        rw [hz_bit_v]
        refine hy_iadd (i := 13) rfl (by omega) ?_
        refine hy_istore (i := 14) rfl ?_
        refine hy_iinc (i := 15) rfl rfl (by omega) ?_
        refine hy_goto (i := 16) (tt := 4) rfl ?_
        exact ih (k + 1) (by omega)
  refine hy_const (i := 0) rfl (by decide) ?_
  refine hy_istore (i := 1) rfl ?_
  refine hy_const (i := 2) rfl (by decide) ?_
  refine hy_istore (i := 3) rfl ?_
  exact loop 12 0 rfl
theorem c_M_hadAll {c : Int} (hc : 0 ≤ c ∧ c < 12) : hy_Ct sc hm_M_hadAll 1 [.inr (some 59), .inl c] t (hy_e (some (mf_hadN t c 4)) t) := by
  refine hy_mk_ct ok_M_hadAll ck_M_hadAll (Nat.le_of_ble_eq_true rfl) ?_
  have loop : ∀ (m : Nat), ∀ (k : Nat), m + k = 4 → hy_W sc hm_M_hadAll 1 4 [.inr (some 59), .inl c, .inl (mf_hadN t c k), .inl (k : Int)] [] t (hy_e (some (mf_hadN t c 4)) t) := by
    intro m
    induction m with
    | zero =>
      intro k hm
      obtain rfl : k = 4 := by omega
      refine hy_iload (i := 4) rfl rfl ?_
      refine hy_const (i := 5) rfl (by decide) ?_
      refine hy_ic_ge (i := 6) (tt := 21) rfl (fun zc1 => ?_) (fun zc1 => ?_)
      · refine hy_iload (i := 21) rfl rfl ?_
        refine hy_ireturn (i := 22) rfl rfl ?_
        exact ⟨rfl, rfl⟩
      · omega
    | succ m ih =>
      intro k hm
      have hin := mf_hadN_in t c k
      have hb := mf_bitsN_in (t 62 (4 * c + k).toNat) 12
      refine hy_iload (i := 4) rfl rfl ?_
      refine hy_const (i := 5) rfl (by decide) ?_
      refine hy_ic_ge (i := 6) (tt := 21) rfl (fun zc1 => ?_) (fun zc1 => ?_)
      · omega
      · refine hy_iload (i := 7) rfl rfl ?_
        refine hy_aload (i := 8) rfl rfl ?_
        refine hy_getr (i := 9) rfl rfl ?_
        refine hy_const (i := 10) rfl (by decide) ?_
        refine hy_iload (i := 11) rfl rfl ?_
        refine hy_imul (i := 12) rfl (by omega) ?_
        refine hy_iload (i := 13) rfl rfl ?_
        refine hy_iadd (i := 14) rfl (by omega) ?_
        refine hy_iald (i := 15) rfl rfl (by omega) rfl ?_
        refine hy_cS1e (i := 16) rfl (by decide) mj_M_bits (by decide) rfl (Nat.le_of_ble_eq_true rfl) (c_M_bits) ?_
        refine hy_iadd (i := 17) rfl (by omega) ?_
        refine hy_istore (i := 18) rfl ?_
        refine hy_iinc (i := 19) rfl rfl (by omega) ?_
        refine hy_goto (i := 20) (tt := 4) rfl ?_
        exact ih (k + 1) (by omega)
  refine hy_const (i := 0) rfl (by decide) ?_
  refine hy_istore (i := 1) rfl ?_
  refine hy_const (i := 2) rfl (by decide) ?_
  refine hy_istore (i := 3) rfl ?_
  exact loop 4 0 rfl
theorem c_M_mixedBits : hy_Ct sc hm_M_mixedBits 3 [.inr (some 59)] t (hy_e (some (mf_mixN t 12)) t) := by
  refine hy_mk_ct ok_M_mixedBits ck_M_mixedBits (Nat.le_of_ble_eq_true rfl) ?_
  have loop : ∀ (m : Nat), ∀ (k : Nat), m + k = 12 → hy_W sc hm_M_mixedBits 3 4 [.inr (some 59), .inl (mf_mixN t k), .inl (k : Int)] [] t (hy_e (some (mf_mixN t 12)) t) := by
    intro m
    induction m with
    | zero =>
      intro k hm
      obtain rfl : k = 12 := by omega
      refine hy_iload (i := 4) rfl rfl ?_
      refine hy_const (i := 5) rfl (by decide) ?_
      refine hy_ic_ge (i := 6) (tt := 21) rfl (fun zc1 => ?_) (fun zc1 => ?_)
      · refine hy_iload (i := 21) rfl rfl ?_
        refine hy_ireturn (i := 22) rfl rfl ?_
        exact ⟨rfl, rfl⟩
      · omega
    | succ m ih =>
      intro k hm
      have e1 : mf_mixN t (k + 1) = hz_ior (mf_mixN t k) (if mf_mixed t k = true then hz_ishl 1 k else 0) := rfl
      by_cases hx : mf_mixed t k = true
      · rw [if_pos hx] at e1
        refine hy_iload (i := 4) rfl rfl ?_
        refine hy_const (i := 5) rfl (by decide) ?_
        refine hy_ic_ge (i := 6) (tt := 21) rfl (fun zc1 => ?_) (fun zc1 => ?_)
        · omega
        · refine hy_iload (i := 7) rfl rfl ?_
          refine hy_aload (i := 8) rfl rfl ?_
          refine hy_iload (i := 9) rfl rfl ?_
          refine hy_cV1e (i := 10) rfl mj_M_isMixed (by decide) rfl (Nat.le_of_ble_eq_true rfl) rfl rfl rfl (c_M_isMixed) ?_
          refine hy_ib_eq (i := 11) (tt := 16) rfl (fun zc2 => ?_) (fun zc2 => ?_)
          · exact absurd (hx.symm.trans zc2) (by decide)
          · refine hy_const (i := 12) rfl (by decide) ?_
            refine hy_iload (i := 13) rfl rfl ?_
            refine hy_ishl (i := 14) rfl ?_
            refine hy_goto (i := 15) (tt := 17) rfl ?_
            refine hy_ior (i := 17) rfl ?_
            refine hy_istore (i := 18) rfl ?_
            refine hy_iinc (i := 19) rfl rfl (by omega) ?_
            refine hy_goto (i := 20) (tt := 4) rfl ?_
            rw [← e1]
            exact ih (k + 1) (by omega)
      · rw [if_neg hx] at e1
        refine hy_iload (i := 4) rfl rfl ?_
        refine hy_const (i := 5) rfl (by decide) ?_
        refine hy_ic_ge (i := 6) (tt := 21) rfl (fun zc1 => ?_) (fun zc1 => ?_)
        · omega
        · refine hy_iload (i := 7) rfl rfl ?_
          refine hy_aload (i := 8) rfl rfl ?_
          refine hy_iload (i := 9) rfl rfl ?_
          refine hy_cV1e (i := 10) rfl mj_M_isMixed (by decide) rfl (Nat.le_of_ble_eq_true rfl) rfl rfl rfl (c_M_isMixed) ?_
          refine hy_ib_eq (i := 11) (tt := 16) rfl (fun zc2 => ?_) (fun zc2 => ?_)
          · refine hy_const (i := 16) rfl (by decide) ?_
            refine hy_ior (i := 17) rfl ?_
            refine hy_istore (i := 18) rfl ?_
            refine hy_iinc (i := 19) rfl rfl (by omega) ?_
            refine hy_goto (i := 20) (tt := 4) rfl ?_
            rw [← e1]
            exact ih (k + 1) (by omega)
          · exact absurd zc2 hx
  refine hy_const (i := 0) rfl (by decide) ?_
  refine hy_istore (i := 1) rfl ?_
  refine hy_const (i := 2) rfl (by decide) ?_
  refine hy_istore (i := 3) rfl ?_
  exact loop 12 0 rfl
theorem c_M_count {w : Int} (hp : ∀ j : Nat, j < 12 → (-1 ≤ t 60 j ∧ t 60 j < 12) ∧ -1 ≤ t 61 j ∧ t 61 j < 12) : hy_Ct sc hm_M_count 4 [.inr (some 59), .inl w] t (hy_e (some (mf_count t w)) t) := by
  refine hy_mk_ct ok_M_count ck_M_count (Nat.le_of_ble_eq_true rfl) ?_
  by_cases q0 : 0 ≤ w ∧ w ≤ 6
  · skip
    refine hy_iload (i := 0) rfl rfl ?_
    by_cases zq1 : w = 0
    · refine hy_tsw (i := 1) (tt := 2) rfl (by rw [zq1]; rfl) ?_
      refine hy_aload (i := 2) rfl rfl ?_
      refine hy_get (i := 3) (fk := 0) rfl rfl rfl ?_
      refine hy_ireturn (i := 4) rfl rfl ?_
      refine ⟨congrArg some ?_, rfl⟩
      unfold mf_count
      repeat (first | (rw [if_pos (by assumption)]; done) | rw [if_neg (by omega)])
    · skip
      by_cases zq1 : w = 1
      · refine hy_tsw (i := 1) (tt := 5) rfl (by rw [zq1]; rfl) ?_
        refine hy_aload (i := 5) rfl rfl ?_
        refine hy_cV0e (i := 6) rfl mj_M_mixedBits (by decide) rfl (Nat.le_of_ble_eq_true rfl) rfl rfl rfl (c_M_mixedBits) ?_
        refine hy_ireturn (i := 7) rfl rfl ?_
        refine ⟨congrArg some ?_, rfl⟩
        unfold mf_count
        repeat (first | (rw [if_pos (by assumption)]; done) | rw [if_neg (by omega)])
      · skip
        by_cases zq1 : w = 2
        · refine hy_tsw (i := 1) (tt := 8) rfl (by rw [zq1]; rfl) ?_
          refine hy_aload (i := 8) rfl rfl ?_
          refine hy_get (i := 9) (fk := 18) rfl rfl rfl ?_
          refine hy_ireturn (i := 10) rfl rfl ?_
          refine ⟨congrArg some ?_, rfl⟩
          unfold mf_count
          repeat (first | (rw [if_pos (by assumption)]; done) | rw [if_neg (by omega)])
        · skip
          by_cases zq1 : w = 3
          · refine hy_tsw (i := 1) (tt := 11) rfl (by rw [zq1]; rfl) ?_
            refine hy_aload (i := 11) rfl rfl ?_
            refine hy_get (i := 12) (fk := 9) rfl rfl rfl ?_
            refine hy_ireturn (i := 13) rfl rfl ?_
            refine ⟨congrArg some ?_, rfl⟩
            unfold mf_count
            repeat (first | (rw [if_pos (by assumption)]; done) | rw [if_neg (by omega)])
          · skip
            by_cases zq1 : w = 4
            · refine hy_tsw (i := 1) (tt := 14) rfl (by rw [zq1]; rfl) ?_
              refine hy_aload (i := 14) rfl rfl ?_
              refine hy_get (i := 15) (fk := 1) rfl rfl rfl ?_
              refine hy_ireturn (i := 16) rfl rfl ?_
              refine ⟨congrArg some ?_, rfl⟩
              unfold mf_count
              repeat (first | (rw [if_pos (by assumption)]; done) | rw [if_neg (by omega)])
            · skip
              by_cases zq1 : w = 5
              · refine hy_tsw (i := 1) (tt := 17) rfl (by rw [zq1]; rfl) ?_
                refine hy_aload (i := 17) rfl rfl ?_
                refine hy_get (i := 18) (fk := 2) rfl rfl rfl ?_
                refine hy_ireturn (i := 19) rfl rfl ?_
                refine ⟨congrArg some ?_, rfl⟩
                unfold mf_count
                repeat (first | (rw [if_pos (by assumption)]; done) | rw [if_neg (by omega)])
              · skip
                by_cases zq1 : w = 6
                · refine hy_tsw (i := 1) (tt := 20) rfl (by rw [zq1]; rfl) ?_
                  refine hy_aload (i := 20) rfl rfl ?_
                  refine hy_get (i := 21) (fk := 34) rfl rfl rfl ?_
                  refine hy_ireturn (i := 22) rfl rfl ?_
                  refine ⟨congrArg some ?_, rfl⟩
                  unfold mf_count
                  repeat (first | (rw [if_pos (by assumption)]; done) | rw [if_neg (by omega)])
                · skip
                  refine hy_tsw (i := 1) (tt := 23) rfl (by rcases (show w < 0 ∨ 6 < w by omega) with hh | hh <;> first | (rw [if_pos (by omega)]; rfl) | (rw [hh]; rfl)) ?_
                  exfalso; omega
  · have e0 : mf_count t w = if 10 ≤ w ∧ w ≤ 21 then (if mf_mixed t (w - 10) = true then 100 * t 60 (w - 10).toNat + t 61 (w - 10).toNat else -1)
        else if 100 ≤ w ∧ w ≤ 147 then (if mf_plain t ((w - 100) / 4) = true then t 62 (w - 100).toNat else -1)
        else if 200 ≤ w ∧ w ≤ 263 then t 63 (w - 200).toNat
        else if 300 ≤ w ∧ w ≤ 363 then t 64 (w - 300).toNat else -1 := by
      unfold mf_count
      repeat rw [if_neg (show ¬ w = _ by omega)]
    rw [e0]
    have st : ∀ (Q : Option Int → hy_T → Prop), hy_W sc hm_M_count 4 23 [.inr (some 59), .inl w] [] t Q → hy_W sc hm_M_count 4 0 [.inr (some 59), .inl w] [] t Q := by
      intro Q h
      refine hy_iload (i := 0) rfl rfl ?_
      by_cases zq1 : w = 0
      · refine hy_tsw (i := 1) (tt := 2) rfl (by rw [zq1]; rfl) ?_
        exfalso; omega
      · skip
        by_cases zq1 : w = 1
        · refine hy_tsw (i := 1) (tt := 5) rfl (by rw [zq1]; rfl) ?_
          exfalso; omega
        · skip
          by_cases zq1 : w = 2
          · refine hy_tsw (i := 1) (tt := 8) rfl (by rw [zq1]; rfl) ?_
            exfalso; omega
          · skip
            by_cases zq1 : w = 3
            · refine hy_tsw (i := 1) (tt := 11) rfl (by rw [zq1]; rfl) ?_
              exfalso; omega
            · skip
              by_cases zq1 : w = 4
              · refine hy_tsw (i := 1) (tt := 14) rfl (by rw [zq1]; rfl) ?_
                exfalso; omega
              · skip
                by_cases zq1 : w = 5
                · refine hy_tsw (i := 1) (tt := 17) rfl (by rw [zq1]; rfl) ?_
                  exfalso; omega
                · skip
                  by_cases zq1 : w = 6
                  · refine hy_tsw (i := 1) (tt := 20) rfl (by rw [zq1]; rfl) ?_
                    exfalso; omega
                  · skip
                    refine hy_tsw (i := 1) (tt := 23) rfl (by rcases (show w < 0 ∨ 6 < w by omega) with hh | hh <;> first | (rw [if_pos (by omega)]; rfl) | (rw [hh]; rfl)) ?_
                    exact h
    refine st _ ?_
    by_cases q1 : 10 ≤ w ∧ w ≤ 21
    · rw [if_pos q1]
      have h1 := hp (w - 10).toNat (by omega)
      by_cases hx : mf_mixed t (w - 10) = true
      · rw [if_pos hx]
        refine hy_iload (i := 23) rfl rfl ?_
        refine hy_const (i := 24) rfl (by decide) ?_
        refine hy_const (i := 25) rfl (by decide) ?_
        refine hy_cS3e (i := 26) rfl (by decide) mj_M_in (by decide) rfl (Nat.le_of_ble_eq_true rfl) (c_M_in) ?_
        refine hy_ib_eq (i := 27) (tt := 50) rfl (fun zc1 => ?_) (fun zc1 => ?_)
        · simp at zc1; omega
        · refine hy_aload (i := 28) rfl rfl ?_
          refine hy_iload (i := 29) rfl rfl ?_
          refine hy_const (i := 30) rfl (by decide) ?_
          refine hy_isub (i := 31) rfl (by omega) ?_
          refine hy_cV1e (i := 32) rfl mj_M_isMixed (by decide) rfl (Nat.le_of_ble_eq_true rfl) rfl rfl rfl (c_M_isMixed) ?_
          refine hy_ib_eq (i := 33) (tt := 50) rfl (fun zc2 => ?_) (fun zc2 => ?_)
          · exact absurd (hx.symm.trans zc2) (by decide)
          · refine hy_const (i := 34) rfl (by decide) ?_
            refine hy_aload (i := 35) rfl rfl ?_
            refine hy_getr (i := 36) rfl rfl ?_
            refine hy_iload (i := 37) rfl rfl ?_
            refine hy_const (i := 38) rfl (by decide) ?_
            refine hy_isub (i := 39) rfl (by omega) ?_
            refine hy_iald (i := 40) rfl rfl (by omega) rfl ?_
            refine hy_imul (i := 41) rfl (by omega) ?_
            refine hy_aload (i := 42) rfl rfl ?_
            refine hy_getr (i := 43) rfl rfl ?_
            refine hy_iload (i := 44) rfl rfl ?_
            refine hy_const (i := 45) rfl (by decide) ?_
            refine hy_isub (i := 46) rfl (by omega) ?_
            refine hy_iald (i := 47) rfl rfl (by omega) rfl ?_
            refine hy_iadd (i := 48) rfl (by omega) ?_
            refine hy_ireturn (i := 49) rfl rfl ?_
            exact ⟨rfl, rfl⟩
      · rw [if_neg hx]
        refine hy_iload (i := 23) rfl rfl ?_
        refine hy_const (i := 24) rfl (by decide) ?_
        refine hy_const (i := 25) rfl (by decide) ?_
        refine hy_cS3e (i := 26) rfl (by decide) mj_M_in (by decide) rfl (Nat.le_of_ble_eq_true rfl) (c_M_in) ?_
        refine hy_ib_eq (i := 27) (tt := 50) rfl (fun zc1 => ?_) (fun zc1 => ?_)
        · simp at zc1; omega
        · refine hy_aload (i := 28) rfl rfl ?_
          refine hy_iload (i := 29) rfl rfl ?_
          refine hy_const (i := 30) rfl (by decide) ?_
          refine hy_isub (i := 31) rfl (by omega) ?_
          refine hy_cV1e (i := 32) rfl mj_M_isMixed (by decide) rfl (Nat.le_of_ble_eq_true rfl) rfl rfl rfl (c_M_isMixed) ?_
          refine hy_ib_eq (i := 33) (tt := 50) rfl (fun zc2 => ?_) (fun zc2 => ?_)
          · refine hy_iload (i := 50) rfl rfl ?_
            refine hy_const (i := 51) rfl (by decide) ?_
            refine hy_const (i := 52) rfl (by decide) ?_
            refine hy_cS3e (i := 53) rfl (by decide) mj_M_in (by decide) rfl (Nat.le_of_ble_eq_true rfl) (c_M_in) ?_
            refine hy_ib_eq (i := 54) (tt := 70) rfl (fun zc3 => ?_) (fun zc3 => ?_)
            · refine hy_iload (i := 70) rfl rfl ?_
              refine hy_const (i := 71) rfl (by decide) ?_
              refine hy_const (i := 72) rfl (by decide) ?_
              refine hy_cS3e (i := 73) rfl (by decide) mj_M_in (by decide) rfl (Nat.le_of_ble_eq_true rfl) (c_M_in) ?_
              refine hy_ib_eq (i := 74) (tt := 82) rfl (fun zc4 => ?_) (fun zc4 => ?_)
              · refine hy_iload (i := 82) rfl rfl ?_
                refine hy_const (i := 83) rfl (by decide) ?_
                refine hy_const (i := 84) rfl (by decide) ?_
                refine hy_cS3e (i := 85) rfl (by decide) mj_M_in (by decide) rfl (Nat.le_of_ble_eq_true rfl) (c_M_in) ?_
                refine hy_ib_eq (i := 86) (tt := 94) rfl (fun zc5 => ?_) (fun zc5 => ?_)
                · refine hy_const (i := 94) rfl (by decide) ?_
                  refine hy_ireturn (i := 95) rfl rfl ?_
                  exact ⟨rfl, rfl⟩
                · simp at zc5; omega
              · simp at zc4; omega
            · simp at zc3; omega
          · exact absurd zc2 hx
    · rw [if_neg q1]
      by_cases q2 : 100 ≤ w ∧ w ≤ 147
      · rw [if_pos q2]
        by_cases hx : mf_plain t ((w - 100) / 4) = true
        · rw [if_pos hx]
          refine hy_iload (i := 23) rfl rfl ?_
          refine hy_const (i := 24) rfl (by decide) ?_
          refine hy_const (i := 25) rfl (by decide) ?_
          refine hy_cS3e (i := 26) rfl (by decide) mj_M_in (by decide) rfl (Nat.le_of_ble_eq_true rfl) (c_M_in) ?_
          refine hy_ib_eq (i := 27) (tt := 50) rfl (fun zc1 => ?_) (fun zc1 => ?_)
          · refine hy_iload (i := 50) rfl rfl ?_
            refine hy_const (i := 51) rfl (by decide) ?_
            refine hy_const (i := 52) rfl (by decide) ?_
            refine hy_cS3e (i := 53) rfl (by decide) mj_M_in (by decide) rfl (Nat.le_of_ble_eq_true rfl) (c_M_in) ?_
            refine hy_ib_eq (i := 54) (tt := 70) rfl (fun zc2 => ?_) (fun zc2 => ?_)
            · simp at zc2; omega
            · refine hy_aload (i := 55) rfl rfl ?_
              refine hy_iload (i := 56) rfl rfl ?_
              refine hy_const (i := 57) rfl (by decide) ?_
              refine hy_isub (i := 58) rfl (by omega) ?_
              refine hy_const (i := 59) rfl (by decide) ?_
              refine hy_idiv (i := 60) rfl (by omega) (by omega) ?_
              refine hy_cV1e (i := 61) rfl mj_M_isPlain (by decide) rfl (Nat.le_of_ble_eq_true rfl) rfl rfl rfl (c_M_isPlain) ?_
              refine hy_ib_eq (i := 62) (tt := 70) rfl (fun zc3 => ?_) (fun zc3 => ?_)
              · exact absurd (hx.symm.trans zc3) (by decide)
              · refine hy_aload (i := 63) rfl rfl ?_
                refine hy_getr (i := 64) rfl rfl ?_
                refine hy_iload (i := 65) rfl rfl ?_
                refine hy_const (i := 66) rfl (by decide) ?_
                refine hy_isub (i := 67) rfl (by omega) ?_
                refine hy_iald (i := 68) rfl rfl (by omega) rfl ?_
                refine hy_ireturn (i := 69) rfl rfl ?_
                exact ⟨rfl, rfl⟩
          · simp at zc1; omega
        · rw [if_neg hx]
          refine hy_iload (i := 23) rfl rfl ?_
          refine hy_const (i := 24) rfl (by decide) ?_
          refine hy_const (i := 25) rfl (by decide) ?_
          refine hy_cS3e (i := 26) rfl (by decide) mj_M_in (by decide) rfl (Nat.le_of_ble_eq_true rfl) (c_M_in) ?_
          refine hy_ib_eq (i := 27) (tt := 50) rfl (fun zc1 => ?_) (fun zc1 => ?_)
          · refine hy_iload (i := 50) rfl rfl ?_
            refine hy_const (i := 51) rfl (by decide) ?_
            refine hy_const (i := 52) rfl (by decide) ?_
            refine hy_cS3e (i := 53) rfl (by decide) mj_M_in (by decide) rfl (Nat.le_of_ble_eq_true rfl) (c_M_in) ?_
            refine hy_ib_eq (i := 54) (tt := 70) rfl (fun zc2 => ?_) (fun zc2 => ?_)
            · simp at zc2; omega
            · refine hy_aload (i := 55) rfl rfl ?_
              refine hy_iload (i := 56) rfl rfl ?_
              refine hy_const (i := 57) rfl (by decide) ?_
              refine hy_isub (i := 58) rfl (by omega) ?_
              refine hy_const (i := 59) rfl (by decide) ?_
              refine hy_idiv (i := 60) rfl (by omega) (by omega) ?_
              refine hy_cV1e (i := 61) rfl mj_M_isPlain (by decide) rfl (Nat.le_of_ble_eq_true rfl) rfl rfl rfl (c_M_isPlain) ?_
              refine hy_ib_eq (i := 62) (tt := 70) rfl (fun zc3 => ?_) (fun zc3 => ?_)
              · refine hy_iload (i := 70) rfl rfl ?_
                refine hy_const (i := 71) rfl (by decide) ?_
                refine hy_const (i := 72) rfl (by decide) ?_
                refine hy_cS3e (i := 73) rfl (by decide) mj_M_in (by decide) rfl (Nat.le_of_ble_eq_true rfl) (c_M_in) ?_
                refine hy_ib_eq (i := 74) (tt := 82) rfl (fun zc4 => ?_) (fun zc4 => ?_)
                · refine hy_iload (i := 82) rfl rfl ?_
                  refine hy_const (i := 83) rfl (by decide) ?_
                  refine hy_const (i := 84) rfl (by decide) ?_
                  refine hy_cS3e (i := 85) rfl (by decide) mj_M_in (by decide) rfl (Nat.le_of_ble_eq_true rfl) (c_M_in) ?_
                  refine hy_ib_eq (i := 86) (tt := 94) rfl (fun zc5 => ?_) (fun zc5 => ?_)
                  · refine hy_const (i := 94) rfl (by decide) ?_
                    refine hy_ireturn (i := 95) rfl rfl ?_
                    exact ⟨rfl, rfl⟩
                  · simp at zc5; omega
                · simp at zc4; omega
              · exact absurd zc3 hx
          · simp at zc1; omega
      · rw [if_neg q2]
        by_cases q3 : 200 ≤ w ∧ w ≤ 263
        · rw [if_pos q3]
          refine hy_iload (i := 23) rfl rfl ?_
          refine hy_const (i := 24) rfl (by decide) ?_
          refine hy_const (i := 25) rfl (by decide) ?_
          refine hy_cS3e (i := 26) rfl (by decide) mj_M_in (by decide) rfl (Nat.le_of_ble_eq_true rfl) (c_M_in) ?_
          refine hy_ib_eq (i := 27) (tt := 50) rfl (fun zc1 => ?_) (fun zc1 => ?_)
          · refine hy_iload (i := 50) rfl rfl ?_
            refine hy_const (i := 51) rfl (by decide) ?_
            refine hy_const (i := 52) rfl (by decide) ?_
            refine hy_cS3e (i := 53) rfl (by decide) mj_M_in (by decide) rfl (Nat.le_of_ble_eq_true rfl) (c_M_in) ?_
            refine hy_ib_eq (i := 54) (tt := 70) rfl (fun zc2 => ?_) (fun zc2 => ?_)
            · refine hy_iload (i := 70) rfl rfl ?_
              refine hy_const (i := 71) rfl (by decide) ?_
              refine hy_const (i := 72) rfl (by decide) ?_
              refine hy_cS3e (i := 73) rfl (by decide) mj_M_in (by decide) rfl (Nat.le_of_ble_eq_true rfl) (c_M_in) ?_
              refine hy_ib_eq (i := 74) (tt := 82) rfl (fun zc3 => ?_) (fun zc3 => ?_)
              · simp at zc3; omega
              · refine hy_aload (i := 75) rfl rfl ?_
                refine hy_getr (i := 76) rfl rfl ?_
                refine hy_iload (i := 77) rfl rfl ?_
                refine hy_const (i := 78) rfl (by decide) ?_
                refine hy_isub (i := 79) rfl (by omega) ?_
                refine hy_iald (i := 80) rfl rfl (by omega) rfl ?_
                refine hy_ireturn (i := 81) rfl rfl ?_
                exact ⟨rfl, rfl⟩
            · simp at zc2; omega
          · simp at zc1; omega
        · rw [if_neg q3]
          by_cases q4 : 300 ≤ w ∧ w ≤ 363
          · rw [if_pos q4]
            refine hy_iload (i := 23) rfl rfl ?_
            refine hy_const (i := 24) rfl (by decide) ?_
            refine hy_const (i := 25) rfl (by decide) ?_
            refine hy_cS3e (i := 26) rfl (by decide) mj_M_in (by decide) rfl (Nat.le_of_ble_eq_true rfl) (c_M_in) ?_
            refine hy_ib_eq (i := 27) (tt := 50) rfl (fun zc1 => ?_) (fun zc1 => ?_)
            · refine hy_iload (i := 50) rfl rfl ?_
              refine hy_const (i := 51) rfl (by decide) ?_
              refine hy_const (i := 52) rfl (by decide) ?_
              refine hy_cS3e (i := 53) rfl (by decide) mj_M_in (by decide) rfl (Nat.le_of_ble_eq_true rfl) (c_M_in) ?_
              refine hy_ib_eq (i := 54) (tt := 70) rfl (fun zc2 => ?_) (fun zc2 => ?_)
              · refine hy_iload (i := 70) rfl rfl ?_
                refine hy_const (i := 71) rfl (by decide) ?_
                refine hy_const (i := 72) rfl (by decide) ?_
                refine hy_cS3e (i := 73) rfl (by decide) mj_M_in (by decide) rfl (Nat.le_of_ble_eq_true rfl) (c_M_in) ?_
                refine hy_ib_eq (i := 74) (tt := 82) rfl (fun zc3 => ?_) (fun zc3 => ?_)
                · refine hy_iload (i := 82) rfl rfl ?_
                  refine hy_const (i := 83) rfl (by decide) ?_
                  refine hy_const (i := 84) rfl (by decide) ?_
                  refine hy_cS3e (i := 85) rfl (by decide) mj_M_in (by decide) rfl (Nat.le_of_ble_eq_true rfl) (c_M_in) ?_
                  refine hy_ib_eq (i := 86) (tt := 94) rfl (fun zc4 => ?_) (fun zc4 => ?_)
                  · simp at zc4; omega
                  · refine hy_aload (i := 87) rfl rfl ?_
                    refine hy_getr (i := 88) rfl rfl ?_
                    refine hy_iload (i := 89) rfl rfl ?_
                    refine hy_const (i := 90) rfl (by decide) ?_
                    refine hy_isub (i := 91) rfl (by omega) ?_
                    refine hy_iald (i := 92) rfl rfl (by omega) rfl ?_
                    refine hy_goto (i := 93) (tt := 95) rfl ?_
                    refine hy_ireturn (i := 95) rfl rfl ?_
                    exact ⟨rfl, rfl⟩
                · simp at zc3; omega
              · simp at zc2; omega
            · simp at zc1; omega
          · rw [if_neg q4]
            refine hy_iload (i := 23) rfl rfl ?_
            refine hy_const (i := 24) rfl (by decide) ?_
            refine hy_const (i := 25) rfl (by decide) ?_
            refine hy_cS3e (i := 26) rfl (by decide) mj_M_in (by decide) rfl (Nat.le_of_ble_eq_true rfl) (c_M_in) ?_
            refine hy_ib_eq (i := 27) (tt := 50) rfl (fun zc1 => ?_) (fun zc1 => ?_)
            · refine hy_iload (i := 50) rfl rfl ?_
              refine hy_const (i := 51) rfl (by decide) ?_
              refine hy_const (i := 52) rfl (by decide) ?_
              refine hy_cS3e (i := 53) rfl (by decide) mj_M_in (by decide) rfl (Nat.le_of_ble_eq_true rfl) (c_M_in) ?_
              refine hy_ib_eq (i := 54) (tt := 70) rfl (fun zc2 => ?_) (fun zc2 => ?_)
              · refine hy_iload (i := 70) rfl rfl ?_
                refine hy_const (i := 71) rfl (by decide) ?_
                refine hy_const (i := 72) rfl (by decide) ?_
                refine hy_cS3e (i := 73) rfl (by decide) mj_M_in (by decide) rfl (Nat.le_of_ble_eq_true rfl) (c_M_in) ?_
                refine hy_ib_eq (i := 74) (tt := 82) rfl (fun zc3 => ?_) (fun zc3 => ?_)
                · refine hy_iload (i := 82) rfl rfl ?_
                  refine hy_const (i := 83) rfl (by decide) ?_
                  refine hy_const (i := 84) rfl (by decide) ?_
                  refine hy_cS3e (i := 85) rfl (by decide) mj_M_in (by decide) rfl (Nat.le_of_ble_eq_true rfl) (c_M_in) ?_
                  refine hy_ib_eq (i := 86) (tt := 94) rfl (fun zc4 => ?_) (fun zc4 => ?_)
                  · refine hy_const (i := 94) rfl (by decide) ?_
                    refine hy_ireturn (i := 95) rfl rfl ?_
                    exact ⟨rfl, rfl⟩
                  · simp at zc4; omega
                · simp at zc3; omega
              · simp at zc2; omega
            · simp at zc1; omega
theorem c_M_tapeNumber {i : Nat} (hi : i < 65) : hy_Ct sc hm_M_tapeNumber 0 [.inr (some 59), .inl (i : Int)] t (hy_e (some (mf_numN t i 4)) t) := by
  refine hy_mk_ct ok_M_tapeNumber ck_M_tapeNumber (Nat.le_of_ble_eq_true rfl) ?_
  have loop : ∀ (m : Nat), ∀ (k : Nat), m + k = 4 → hy_W sc hm_M_tapeNumber 0 6 [.inr (some 59), .inl (i : Int), .inl (mf_numN t i k), .inl (4 * (i : Int) + k)] [] t (hy_e (some (mf_numN t i 4)) t) := by
    intro m
    induction m with
    | zero =>
      intro k hm
      obtain rfl : k = 4 := by omega
      refine hy_iload (i := 6) rfl rfl ?_
      refine hy_const (i := 7) rfl (by decide) ?_
      refine hy_iload (i := 8) rfl rfl ?_
      refine hy_imul (i := 9) rfl (by omega) ?_
      refine hy_const (i := 10) rfl (by decide) ?_
      refine hy_iadd (i := 11) rfl (by omega) ?_
      refine hy_ic_ge (i := 12) (tt := 26) rfl (fun zc1 => ?_) (fun zc1 => ?_)
      · refine hy_iload (i := 26) rfl rfl ?_
        refine hy_ireturn (i := 27) rfl rfl ?_
        exact ⟨rfl, rfl⟩
      · omega
    | succ m ih =>
      intro k hm
      refine hy_iload (i := 6) rfl rfl ?_
      refine hy_const (i := 7) rfl (by decide) ?_
      refine hy_iload (i := 8) rfl rfl ?_
      refine hy_imul (i := 9) rfl (by omega) ?_
      refine hy_const (i := 10) rfl (by decide) ?_
      refine hy_iadd (i := 11) rfl (by omega) ?_
      refine hy_ic_ge (i := 12) (tt := 26) rfl (fun zc1 => ?_) (fun zc1 => ?_)
      · omega
      · refine hy_iload (i := 13) rfl rfl ?_
        refine hy_const (i := 14) rfl (by decide) ?_
        refine hy_ishl (i := 15) rfl ?_
        refine hy_aload (i := 16) rfl rfl ?_
        refine hy_getr (i := 17) rfl rfl ?_
        refine hy_iload (i := 18) rfl rfl ?_
        refine hy_bald (i := 19) rfl rfl (by decide) (by omega) (k := 4 * i + k) (by omega) ?_
        refine hy_const (i := 20) rfl (by decide) ?_
        refine hy_iand (i := 21) rfl ?_
        refine hy_ior (i := 22) rfl ?_
        refine hy_istore (i := 23) rfl ?_
        refine hy_iinc (i := 24) rfl rfl (by omega) ?_
        refine hy_goto (i := 25) (tt := 6) rfl ?_
        rw [show 4 * (i : Int) + k + 1 = 4 * (i : Int) + ((k + 1 : Nat) : Int) by omega]
        exact ih (k + 1) (by omega)
  refine hy_const (i := 0) rfl (by decide) ?_
  refine hy_istore (i := 1) rfl ?_
  refine hy_const (i := 2) rfl (by decide) ?_
  refine hy_iload (i := 3) rfl rfl ?_
  refine hy_imul (i := 4) rfl (by omega) ?_
  refine hy_istore (i := 5) rfl ?_
  exact (show 4 * (i : Int) + ((0 : Nat) : Int) = 4 * (i : Int) by omega) ▸ loop 4 0 rfl
theorem c_M_check {n : Int} (hl : 0 ≤ t 59 9 ∧ t 59 9 ≤ 260) : hy_Ct sc hm_M_check 1 [.inr (some 59), .inl n] t (hy_e (some (if (0 ≤ n ∧ n ≤ 8) ∧ 4 * n ≤ t 59 9 then mf_checkN t n.toNat 0 else -2)) (if (0 ≤ n ∧ n ≤ 8) ∧ 4 * n ≤ t 59 9 then hy_up t 59 9 0 else t)) := by
  refine hy_mk_ct ok_M_check ck_M_check (Nat.le_of_ble_eq_true rfl) ?_
  by_cases hq : (0 ≤ n ∧ n ≤ 8) ∧ 4 * n ≤ t 59 9
  · rw [if_pos hq, if_pos hq]
    have eN : ∀ (i : Nat), ∀ j, mf_numN (hy_up t 59 9 0) i j = mf_numN t i j := by
      intro i j
      induction j with
      | zero => rfl
      | succ j ih => simp only [mf_numN, ih]; rfl
    have loop : ∀ (m : Nat), ∀ (k : Nat), m + k = n.toNat → mf_checkN t m k = mf_checkN t n.toNat 0 → hy_W sc hm_M_check 1 18 [.inr (some 59), .inl n, .inl (k : Int)] [] (hy_up t 59 9 0) (hy_e (some (mf_checkN t n.toNat 0)) (hy_up t 59 9 0)) := by
      intro m
      induction m with
      | zero =>
        intro k hm he
        rw [← he]
        refine hy_iload (i := 18) rfl rfl ?_
        refine hy_iload (i := 19) rfl rfl ?_
        refine hy_ic_ge (i := 20) (tt := 33) rfl (fun zc1 => ?_) (fun zc1 => ?_)
        · refine hy_const (i := 33) rfl (by decide) ?_
          refine hy_ireturn (i := 34) rfl rfl ?_
          exact ⟨rfl, rfl⟩
        · omega
      | succ m ih =>
        intro k hm he
        by_cases hx : mf_numN t k 4 = t 64 k
        · have e : mf_checkN t (m + 1) k = mf_checkN t m (k + 1) := by simp only [mf_checkN]; rw [if_pos hx]
          rw [e] at he
          refine hy_iload (i := 18) rfl rfl ?_
          refine hy_iload (i := 19) rfl rfl ?_
          refine hy_ic_ge (i := 20) (tt := 33) rfl (fun zc1 => ?_) (fun zc1 => ?_)
          · omega
          · refine hy_aload (i := 21) rfl rfl ?_
            refine hy_iload (i := 22) rfl rfl ?_
            refine hy_cV1e (i := 23) rfl mj_M_tapeNumber (by decide) rfl (Nat.le_of_ble_eq_true rfl) rfl rfl rfl (c_M_tapeNumber (by omega)) ?_
            rw [eN]
            refine hy_aload (i := 24) rfl rfl ?_
            refine hy_getr (i := 25) rfl rfl ?_
            refine hy_iload (i := 26) rfl rfl ?_
            refine hy_iald (i := 27) rfl rfl (by omega) (k := k) (by omega) ?_
            refine hy_ic_eq (i := 28) (tt := 31) rfl (fun zc2 => ?_) (fun zc2 => ?_)
            · refine hy_iinc (i := 31) rfl rfl (by omega) ?_
              refine hy_goto (i := 32) (tt := 18) rfl ?_
              exact ih (k + 1) (by omega) he
            · exact absurd hx (by assumption)
        · have e : mf_checkN t (m + 1) k = k := by simp only [mf_checkN]; rw [if_neg hx]
          rw [← he, e]
          refine hy_iload (i := 18) rfl rfl ?_
          refine hy_iload (i := 19) rfl rfl ?_
          refine hy_ic_ge (i := 20) (tt := 33) rfl (fun zc1 => ?_) (fun zc1 => ?_)
          · omega
          · refine hy_aload (i := 21) rfl rfl ?_
            refine hy_iload (i := 22) rfl rfl ?_
            refine hy_cV1e (i := 23) rfl mj_M_tapeNumber (by decide) rfl (Nat.le_of_ble_eq_true rfl) rfl rfl rfl (c_M_tapeNumber (by omega)) ?_
            rw [eN]
            refine hy_aload (i := 24) rfl rfl ?_
            refine hy_getr (i := 25) rfl rfl ?_
            refine hy_iload (i := 26) rfl rfl ?_
            refine hy_iald (i := 27) rfl rfl (by omega) (k := k) (by omega) ?_
            refine hy_ic_eq (i := 28) (tt := 31) rfl (fun zc2 => ?_) (fun zc2 => ?_)
            · exact absurd (by assumption) hx
            · refine hy_iload (i := 29) rfl rfl ?_
              refine hy_ireturn (i := 30) rfl rfl ?_
              exact ⟨rfl, rfl⟩
    refine hy_iload (i := 0) rfl rfl ?_
    refine hy_const (i := 1) rfl (by decide) ?_
    refine hy_const (i := 2) rfl (by decide) ?_
    refine hy_cS3e (i := 3) rfl (by decide) mj_M_in (by decide) rfl (Nat.le_of_ble_eq_true rfl) (c_M_in) ?_
    refine hy_ib_eq (i := 4) (tt := 11) rfl (fun zc1 => ?_) (fun zc1 => ?_)
    · simp at zc1; omega
    · refine hy_iload (i := 5) rfl rfl ?_
      refine hy_aload (i := 6) rfl rfl ?_
      refine hy_get (i := 7) (fk := 9) rfl rfl rfl ?_
      refine hy_const (i := 8) rfl (by decide) ?_
      refine hy_idiv (i := 9) rfl (by omega) (by omega) ?_
      refine hy_ic_le (i := 10) (tt := 13) rfl (fun zc2 => ?_) (fun zc2 => ?_)
      · refine hy_aload (i := 13) rfl rfl ?_
        refine hy_const (i := 14) rfl (by decide) ?_
        refine hy_put (i := 15) (fk := 9) rfl rfl rfl rfl ?_
        refine hy_const (i := 16) rfl (by decide) ?_
        refine hy_istore (i := 17) rfl ?_
        exact loop n.toNat 0 rfl rfl
      · omega
  · rw [if_neg hq, if_neg hq]
    refine hy_iload (i := 0) rfl rfl ?_
    refine hy_const (i := 1) rfl (by decide) ?_
    refine hy_const (i := 2) rfl (by decide) ?_
    refine hy_cS3e (i := 3) rfl (by decide) mj_M_in (by decide) rfl (Nat.le_of_ble_eq_true rfl) (c_M_in) ?_
    refine hy_ib_eq (i := 4) (tt := 11) rfl (fun zc1 => ?_) (fun zc1 => ?_)
    · refine hy_const (i := 11) rfl (by decide) ?_
      refine hy_ireturn (i := 12) rfl rfl ?_
      exact ⟨rfl, rfl⟩
    · refine hy_iload (i := 5) rfl rfl ?_
      refine hy_aload (i := 6) rfl rfl ?_
      refine hy_get (i := 7) (fk := 9) rfl rfl rfl ?_
      refine hy_const (i := 8) rfl (by decide) ?_
      refine hy_idiv (i := 9) rfl (by omega) (by omega) ?_
      refine hy_ic_le (i := 10) (tt := 13) rfl (fun zc2 => ?_) (fun zc2 => ?_)
      · simp at zc1; omega
      · refine hy_const (i := 11) rfl (by decide) ?_
        refine hy_ireturn (i := 12) rfl rfl ?_
        exact ⟨rfl, rfl⟩
theorem c_M_changes {c w e s : Int} (hc : 0 ≤ c ∧ c < 12) : hy_Ct sc hm_M_changes 1 [.inr (some 59), .inl c, .inl w, .inl e, .inl s] t (hy_e none (mf_chN t c w e s 4)) := by
  refine hy_mk_ct ok_M_changes ck_M_changes (Nat.le_of_ble_eq_true rfl) ?_
  have loop : ∀ (m : Nat), ∀ (k : Nat) (t1 : hy_T) (v6 : hy_V), m + k = 4 → t1 = mf_chN t c w e s k → hy_W sc hm_M_changes 1 2 [.inr (some 59), .inl c, .inl w, .inl e, .inl s, .inl (k : Int), v6] [] t1 (hy_e none (mf_chN t c w e s 4)) := by
    intro m
    induction m with
    | zero =>
      intro k t1 v6 hm ht
      obtain rfl : k = 4 := by omega
      refine hy_iload (i := 2) rfl rfl ?_
      refine hy_const (i := 3) rfl (by decide) ?_
      refine hy_ic_ge (i := 4) (tt := 43) rfl (fun zc1 => ?_) (fun zc1 => ?_)
      · refine hy_return (i := 43) rfl rfl ?_
        exact ⟨rfl, ht⟩
      · omega
    | succ m ih =>
      intro k t1 v6 hm ht
      have e1 : mf_chN t c w e s (k + 1) = if hz_b w k = true then mf_ch1 t1 c e s k else t1 := by rw [ht]; rfl
      by_cases hw : hz_b w k = true
      · rw [if_pos hw] at e1
        by_cases hs : s = 0
        · have e2 : mf_ch1 t1 c e s k = hy_up t1 62 (4 * c + k).toNat (hz_iand (t1 62 (4 * c + k).toNat) (hz_ixor (hz_ishl 1 e) (-1))) := by unfold mf_ch1; rw [if_pos hs]
          rw [e2] at e1
          refine hy_iload (i := 2) rfl rfl ?_
          refine hy_const (i := 3) rfl (by decide) ?_
          refine hy_ic_ge (i := 4) (tt := 43) rfl (fun zc1 => ?_) (fun zc1 => ?_)
          · omega
          · refine hy_iload (i := 5) rfl rfl ?_
            refine hy_iload (i := 6) rfl rfl ?_
            refine hy_cS2e (i := 7) rfl (by decide) mj_M_has (by decide) rfl (Nat.le_of_ble_eq_true rfl) (c_M_has) ?_
            refine hy_ib_ne (i := 8) (tt := 10) rfl (fun zc2 => ?_) (fun zc2 => ?_)
            · refine hy_const (i := 10) rfl (by decide) ?_
              refine hy_iload (i := 11) rfl rfl ?_
              refine hy_imul (i := 12) rfl (by omega) ?_
              refine hy_iload (i := 13) rfl rfl ?_
              refine hy_iadd (i := 14) rfl (by omega) ?_
              refine hy_istore (i := 15) rfl ?_
              refine hy_aload (i := 16) rfl rfl ?_
              refine hy_getr (i := 17) rfl rfl ?_
              refine hy_iload (i := 18) rfl rfl ?_
              refine hy_iload (i := 19) rfl rfl ?_
              refine hy_if_eq (i := 20) (tt := 30) rfl (fun zc3 => ?_) (fun zc3 => ?_)
              · refine hy_aload (i := 30) rfl rfl ?_
                refine hy_getr (i := 31) rfl rfl ?_
                refine hy_iload (i := 32) rfl rfl ?_
                refine hy_iald (i := 33) rfl rfl (by omega) rfl ?_
                refine hy_const (i := 34) rfl (by decide) ?_
                refine hy_iload (i := 35) rfl rfl ?_
                refine hy_ishl (i := 36) rfl ?_
                refine hy_const (i := 37) rfl (by decide) ?_
                refine hy_ixor (i := 38) rfl ?_
                refine hy_iand (i := 39) rfl ?_
                refine hy_iast (i := 40) rfl rfl (by omega) rfl ?_
                refine hy_iinc (i := 41) rfl rfl (by omega) ?_
                refine hy_goto (i := 42) (tt := 2) rfl ?_
                exact ih (k + 1) _ _ (by omega) e1.symm
              · omega
            · rw [hw] at zc2; cases zc2
        · have e2 : mf_ch1 t1 c e s k = hy_up t1 62 (4 * c + k).toNat (hz_ior (t1 62 (4 * c + k).toNat) (hz_ishl 1 e)) := by unfold mf_ch1; rw [if_neg hs]
          rw [e2] at e1
          refine hy_iload (i := 2) rfl rfl ?_
          refine hy_const (i := 3) rfl (by decide) ?_
          refine hy_ic_ge (i := 4) (tt := 43) rfl (fun zc1 => ?_) (fun zc1 => ?_)
          · omega
          · refine hy_iload (i := 5) rfl rfl ?_
            refine hy_iload (i := 6) rfl rfl ?_
            refine hy_cS2e (i := 7) rfl (by decide) mj_M_has (by decide) rfl (Nat.le_of_ble_eq_true rfl) (c_M_has) ?_
            refine hy_ib_ne (i := 8) (tt := 10) rfl (fun zc2 => ?_) (fun zc2 => ?_)
            · refine hy_const (i := 10) rfl (by decide) ?_
              refine hy_iload (i := 11) rfl rfl ?_
              refine hy_imul (i := 12) rfl (by omega) ?_
              refine hy_iload (i := 13) rfl rfl ?_
              refine hy_iadd (i := 14) rfl (by omega) ?_
              refine hy_istore (i := 15) rfl ?_
              refine hy_aload (i := 16) rfl rfl ?_
              refine hy_getr (i := 17) rfl rfl ?_
              refine hy_iload (i := 18) rfl rfl ?_
              refine hy_iload (i := 19) rfl rfl ?_
              refine hy_if_eq (i := 20) (tt := 30) rfl (fun zc3 => ?_) (fun zc3 => ?_)
              · omega
              · refine hy_aload (i := 21) rfl rfl ?_
                refine hy_getr (i := 22) rfl rfl ?_
                refine hy_iload (i := 23) rfl rfl ?_
                refine hy_iald (i := 24) rfl rfl (by omega) rfl ?_
                refine hy_const (i := 25) rfl (by decide) ?_
                refine hy_iload (i := 26) rfl rfl ?_
                refine hy_ishl (i := 27) rfl ?_
                refine hy_ior (i := 28) rfl ?_
                refine hy_goto (i := 29) (tt := 40) rfl ?_
                refine hy_iast (i := 40) rfl rfl (by omega) rfl ?_
                refine hy_iinc (i := 41) rfl rfl (by omega) ?_
                refine hy_goto (i := 42) (tt := 2) rfl ?_
                exact ih (k + 1) _ _ (by omega) e1.symm
            · rw [hw] at zc2; cases zc2
      · rw [if_neg hw] at e1
        refine hy_iload (i := 2) rfl rfl ?_
        refine hy_const (i := 3) rfl (by decide) ?_
        refine hy_ic_ge (i := 4) (tt := 43) rfl (fun zc1 => ?_) (fun zc1 => ?_)
        · omega
        · refine hy_iload (i := 5) rfl rfl ?_
          refine hy_iload (i := 6) rfl rfl ?_
          refine hy_cS2e (i := 7) rfl (by decide) mj_M_has (by decide) rfl (Nat.le_of_ble_eq_true rfl) (c_M_has) ?_
          refine hy_ib_ne (i := 8) (tt := 10) rfl (fun zc2 => ?_) (fun zc2 => ?_)
          · exact absurd zc2 hw
          · refine hy_goto (i := 9) (tt := 41) rfl ?_
            refine hy_iinc (i := 41) rfl rfl (by omega) ?_
            refine hy_goto (i := 42) (tt := 2) rfl ?_
            exact ih (k + 1) _ _ (by omega) e1.symm
  refine hy_const (i := 0) rfl (by decide) ?_
  refine hy_istore (i := 1) rfl ?_
  exact loop 4 0 t _ rfl rfl
end MB
